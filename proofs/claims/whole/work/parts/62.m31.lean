/-! ===== the mathematics, part 31: sends ===== -/
theorem cn_snoc (P : Nat → Bool) (n : Nat) : cn P n ≤ cn P (n + 1) := by
  have : cn P n = cn (fun i => P i && decide (i < n)) (n + 1) := (cn_below (by omega)).symm
  rw [this]
  exact cn_mono (fun i _ h => by rw [Bool.and_eq_true] at h; exact h.1)
theorem JJ.send {u o N : Nat} {C C2 C5 M M9 M' : hq_M} {F os ys : List Int} {base any gr req : Int} (h : JJ u C M) (h09 : C 0 9 = (o : Int)) (hN : M 0 25 = (N : Int)) (hN40 : N < 40) (hFl : F.length ≤ 6) (hR : RE C2 M9 370 (170 + 5 * N) o N (8 * u) F.length base any gr req ys) (hl : os.length ≤ 12) (hr1 : Rw C2 (171 + 5 * N) F) (hr3 : Rw C2 (173 + 5 * N) (os ++ ys)) (h5 : C2 (170 + 5 * N) 5 = 0 ∧ C2 (170 + 5 * N) 6 = 0 ∧ C2 (170 + 5 * N) 7 = 0) (fC : ∀ q j, ¬ ((371 ≤ q ∧ q ≤ 383) ∨ (q = 370 ∧ (j = 6 ∨ j = 7)) ∨ (170 + 5 * N ≤ q ∧ q ≤ 174 + 5 * N ∧ ¬ (q = 170 + 5 * N ∧ j = 0))) → C2 q j = C q j) (c168 : C5 168 1 = ((N + 1 : Nat) : Int)) (c3 : Rw C5 3 []) (fC5 : ∀ q j, ¬ ((q = 168 ∧ j = 1) ∨ q = 3 ∨ q = 4) → C5 q j = C2 q j) (fM9 : ∀ q j, ¬ (q = 28 ∨ q = 22 ∨ q = 23 ∨ (q = 0 ∧ (j = 39 ∨ j = 41 ∨ j = 43 ∨ j = 47 ∨ j = 49)) ∨ (24 ≤ q ∧ q ≤ 27) ∨ ((q = 6 ∨ q = 7 ∨ q = 9) ∧ j = 0) ∨ (q = 10 ∧ j < 64) ∨ (q = 12 ∧ j = N)) → M9 q j = M q j) (m60 : M 6 0 ≤ M9 6 0) (m12 : M9 12 N = base) (m11 : M' 11 N = req) (m13 : M' 13 N = ((os ++ ys).length : Int)) (m20 : ∀ j, j < (os ++ ys).length → M' 20 (112 * N + j) = gd (os ++ ys) j) (m14 : M' 14 N = 0) (m15 : M' 15 N = 0) (m16 : M' 16 N = 0) (m17 : M' 17 N = (F.length : Int)) (m18 : ∀ j, j < F.length → M' 18 (6 * N + j) = gd F j) (m19 : ∀ j, j < F.length → M' 19 (6 * N + j) = M9 22 j) (m39 : M' 0 39 = 0) (m37 : M' 0 37 = 0) (m25 : M' 0 25 = ((N + 1 : Nat) : Int)) (fM : ∀ q j, ¬ (((q = 11 ∨ (13 ≤ q ∧ q ≤ 17)) ∧ j = N) ∨ (q = 20 ∧ 112 * N ≤ j ∧ j < 112 * N + 112) ∨ ((q = 18 ∨ q = 19) ∧ 6 * N ≤ j ∧ j < 6 * N + 6) ∨ (q = 0 ∧ (j = 25 ∨ j = 37 ∨ j = 39))) → M' q j = M9 q j) : JJ (u + 1) C5 M' := by
  obtain ⟨hT, hD, ⟨o', ho', s1, s2, s3, s4⟩, hL, -, ⟨lo2, n2, hX⟩, ⟨D0, m0, -, hb0⟩, -, hRP, hK⟩ := h
  have ekz : kz 370 = 0 := rfl
  have eo : o = o' := by omega
  subst eo
  obtain ⟨⟨lo, n, D, m, hW⟩, ⟨-, -, r0, r4, r3⟩, -, -, r39, r23, rb, rr, rlen, -⟩ := hR
  obtain ⟨⟨-, -, -, b1, b2, b3⟩, g4, gS, gT, gH, gQ, g5, gkn, gSM, gDE⟩ := hW
  have hlen : (os ++ ys).length ≤ 96 := by rw [List.length_append]; omega
  have oC : ∀ q j, ¬ ((371 ≤ q ∧ q ≤ 383) ∨ (q = 370 ∧ (j = 6 ∨ j = 7)) ∨ (170 + 5 * N ≤ q ∧ q ≤ 174 + 5 * N ∧ ¬ (q = 170 + 5 * N ∧ j = 0)) ∨ (q = 168 ∧ j = 1) ∨ q = 3 ∨ q = 4) → C5 q j = C q j := fun q j hq => by rw [fC5 _ _ (by omega), fC _ _ (by omega)]
  have oM : ∀ q j, ¬ (q = 28 ∨ q = 22 ∨ q = 23 ∨ (q = 0 ∧ (j = 25 ∨ j = 37 ∨ j = 39 ∨ j = 41 ∨ j = 43 ∨ j = 47 ∨ j = 49)) ∨ (24 ≤ q ∧ q ≤ 27) ∨ ((q = 6 ∨ q = 7 ∨ q = 9) ∧ j = 0) ∨ (q = 10 ∧ j < 64) ∨ (11 ≤ q ∧ q ≤ 17 ∧ j = N) ∨ (q = 20 ∧ 112 * N ≤ j ∧ j < 112 * N + 112) ∨ ((q = 18 ∨ q = 19) ∧ 6 * N ≤ j ∧ j < 6 * N + 6)) → M' q j = M q j := fun q j hq => by rw [fM _ _ (by omega), fM9 _ _ (by omega)]
  have e60 : M' 6 0 = M9 6 0 := fM _ _ (by omega)
  have eNn : (M 0 25).toNat = N := by omega
  have eN1 : (M' 0 25).toNat = N + 1 := by omega
  have hmr : ∀ p : Nat, (List.range F.length).any (fun j => decide (M' 19 (6 * N + j) = (p : Int))) = mr M9 p := by
    intro p
    unfold mr
    rw [r39, show ((F.length : Nat) : Int).toNat = F.length by omega, Bool.eq_iff_iff]
    simp only [List.any_eq_true, List.mem_range, decide_eq_true_eq]
    constructor
    · rintro ⟨j, hj, e⟩
      exact ⟨j, hj, by rw [← m19 j hj]; exact e⟩
    · rintro ⟨j, hj, e⟩
      exact ⟨j, hj, by rw [m19 j hj]; exact e⟩
  refine ⟨hT.cg (fun q j hq => oC _ _ (by omega)) (fun q j hq => oM _ _ (by omega)), ⟨by rw [m37]; decide, by rw [m37]; decide, ?_, fun i hi => ?_⟩, ⟨o, ho', by rw [oC _ _ (by omega)]; exact s1, by rw [oC _ _ (by omega)]; exact s2, by rw [oC _ _ (by omega)]; exact s3, s4.cg (fun q j hq => oC _ _ (by omega)) (fun q j hq => oM _ _ (by omega))⟩, ?_, ⟨lo, n, gT.cg (fun q j hq => fC5 _ _ (by omega)) (fun q j hq => fM _ _ (by omega)), ?_, by omega⟩, ⟨lo2, n2, hX.cg (fun q j hq => oC _ _ (by omega)) (fun q j hq => oM _ _ (by omega))⟩, ⟨D, m, (gQ.1.1 rfl).cg (fun q j hq => fC5 _ _ (by omega)) (fun q j hq => fM _ _ (by omega)), by omega, (hb0.2.cg (oC _ _ (by omega))).mono (by omega)⟩, gDE.cg (fun q j hq => fM _ _ (by omega)), ?_, ?_⟩
  · rw [m37]
    exact c3
  · rw [m37] at hi
    exact absurd hi (by simp)
  · obtain ⟨l1, l2, l3, l4, l5⟩ := hL
    rw [eNn] at l5
    unfold LT
    rw [m25, c168, oC 405 0 (by omega), show ((N + 1 : Nat) : Int).toNat = N + 1 by omega]
    refine ⟨rfl, by omega, fun k hk => by rw [oC _ _ (by omega)]; exact l3 k hk, l4, fun k hk => ?_⟩
    by_cases q : k = N
    · subst q
      unfold SE
      rw [m11, m13, m14, m15, m16, m17, e60, show M' 12 k = base by rw [fM _ _ (by omega)]; exact m12, show ((F.length : Nat) : Int).toNat = F.length by omega, show (((os ++ ys).length : Nat) : Int).toNat = (os ++ ys).length by omega, fC5 (170 + 5 * k) 3 (by omega), fC5 (170 + 5 * k) 4 (by omega), fC5 (170 + 5 * k) 5 (by omega), fC5 (170 + 5 * k) 6 (by omega), fC5 (170 + 5 * k) 7 (by omega), show sg M' 18 (6 * k) F.length = F from sg_iff rfl (fun j hj => m18 j hj), show sg M' 20 (112 * k) (os ++ ys).length = os ++ ys from sg_iff rfl (fun j hj => m20 j hj)]
      refine ⟨hr1.cg (fC5 _ _ (by omega)) (fun j => fC5 _ _ (by omega)), hr3.cg (fC5 _ _ (by omega)) (fun j => fC5 _ _ (by omega)), ⟨r3, r4, h5.1, h5.2.1, h5.2.2⟩, by omega, by omega, by omega, by decide, by decide, by omega, by omega, fun j hj => ?_, fun e => absurd e (by decide)⟩
      rw [m19 j hj]
      exact gSM.2.2.2 j (by omega)
    · exact (l5 k (by omega)).cg (fun q j hq => oC _ _ (by omega)) (fun q j hq => oM _ _ (by omega)) (by rw [e60]; exact m60)
  · intro p a b
    obtain ⟨g1, g2⟩ := gH p a b
    rw [fC5 _ _ (by omega)]
    refine ⟨g1, fun k hk => ?_⟩
    rw [g2 k hk]
    unfold hd
    rw [mr_rest m39, Bool.and_false, Bool.or_false, eN1, fM9 0 25 (by omega), eNn]
    by_cases q : k = N
    · subst q
      have : hb M' k p = mr M9 p := by
        unfold hb
        rw [m16, m17, show ((F.length : Nat) : Int).toNat = F.length by omega, hmr p]
        simp
      rw [this]
      simp
    · by_cases q2 : k < N
      · have e1 : hb M' k p = hb M9 k p := by
          refine hb_cg (fM _ _ (by omega)) (fM _ _ (by omega)) (fun j hj => fM _ _ ?_)
          have := (gSM.2.1 k (by rw [fM9 0 25 (by omega)]; omega)).1
          omega
        rw [e1]
        simp [q, q2, show k < N + 1 by omega]
      · simp [q, q2, show ¬ k < N + 1 by omega]
  · obtain ⟨q1, q2, q3, q4, q5⟩ := hRP
    rw [hN] at q4
    rw [eNn] at q1
    unfold RP
    rw [oM 0 52 (by omega), oM 0 56 (by omega), oM 0 23 (by omega), oM 0 24 (by omega), eN1, m25]
    have hcn : cn (fun k => decide (2 ≤ M 15 k)) N ≤ cn (fun k => decide (2 ≤ M' 15 k)) (N + 1) := by
      refine Nat.le_trans (Nat.le_of_eq (cn_cg (fun i hi => ?_))) (cn_snoc _ _)
      rw [oM 15 i (by omega)]
    refine ⟨⟨q1.1, by omega⟩, q2, ?_, fun i hi => ?_, ?_⟩
    · rw [show sg M' 30 0 (M 0 52).toNat = sg M 30 0 (M 0 52).toNat from sg_eq (fun i _ => oM _ _ (by omega))]
      exact q3.cg (oC _ _ (by omega)) (fun i => oC _ _ (by omega))
    · rw [oM 33 i (by omega), oM 32 i (by omega), oM 31 i (by omega), oM 30 i (by omega)]
      have := q4 i hi
      omega
    · rw [kf_cg (M := M) (fun o j ho => oM _ _ (by omega)) (fun i hi h31 => oM _ _ (by have := q4 i hi; omega))]
      exact q5
  · obtain ⟨k1, k2, ⟨k3, k4, k5⟩, k6⟩ := hK
    unfold KN
    rw [oC 384 2 (by omega), oM 0 24 (by omega), oM 6 1 (by omega), m39, fC5 370 5 (by omega), fM 0 23 (by omega), fM 7 0 (by omega)]
    exact ⟨g5, k2, ⟨gkn.1, gkn.2, k5⟩, rfl⟩
theorem m_sendsEnd {M7 M9 : hq_M} {N nd : Nat} {req : Int} {os ys : List Int} {kk : Int → hq_M → Prop} (h725 : M7 0 25 = (N : Int)) (hN : N < 40) (h925 : M9 0 25 = (N : Int)) (h37 : M9 0 37 = (nd : Int)) (hnd : nd ≤ 6) (hi : In M9 os) (hy : Md M9 ys) (hl : os.length ≤ 12) (hl2 : (os ++ ys).length ≤ 96) (hk : ∀ M' : hq_M, M' 11 N = req → M' 13 N = ((os ++ ys).length : Int) → (∀ j, j < (os ++ ys).length → M' 20 (112 * N + j) = gd (os ++ ys) j) → M' 14 N = 0 → M' 15 N = 0 → M' 16 N = 0 → M' 17 N = (nd : Int) → (∀ j, j < nd → M' 18 (6 * N + j) = M9 21 j) → (∀ j, j < nd → M' 19 (6 * N + j) = M9 22 j) → M' 0 39 = 0 → M' 0 37 = 0 → M' 0 25 = ((N + 1 : Nat) : Int) → (∀ q j, ¬ (((q = 11 ∨ (13 ≤ q ∧ q ≤ 17)) ∧ j = N) ∨ (q = 20 ∧ 112 * N ≤ j ∧ j < 112 * N + 112) ∨ ((q = 18 ∨ q = 19) ∧ 6 * N ≤ j ∧ j < 6 * N + 6) ∨ (q = 0 ∧ (j = 25 ∨ j = 37 ∨ j = 39))) → M' q j = M9 q j) → kk (N : Int) M') :
    (0 ≤ (M7 0 25) ∧ (M7 0 25) < 40) ∧
          ∀ M12 : hq_M, M12 = hq_up M9 11 ((M7 0 25).toNat) req →
          rg ((M12 0 49) + (M12 0 41)) ∧
          (0 ≤ (M12 0 25) ∧ (M12 0 25) < 40) ∧
          ∀ M18 : hq_M, M18 = hq_up M12 13 ((M12 0 25).toNat) ((M12 0 49) + (M12 0 41)) →
          ∃ m75, l_X12_sends_75 (fun M19 =>
            (0 ≤ (M19 0 25) ∧ (M19 0 25) < 40) ∧
            ∀ M22 : hq_M, M22 = hq_up M19 14 ((M19 0 25).toNat) 0 →
            (0 ≤ (M22 0 25) ∧ (M22 0 25) < 40) ∧
            ∀ M25 : hq_M, M25 = hq_up M22 15 ((M22 0 25).toNat) 0 →
            (0 ≤ (M25 0 25) ∧ (M25 0 25) < 40) ∧
            ∀ M28 : hq_M, M28 = hq_up M25 16 ((M25 0 25).toNat) 0 →
            (0 ≤ (M28 0 25) ∧ (M28 0 25) < 40) ∧
            ∀ M32 : hq_M, M32 = hq_up M28 17 ((M28 0 25).toNat) (M28 0 37) →
            ∃ m181, l_X12_sends_181 (fun M33 =>
              ∀ M34 : hq_M, M34 = hq_up M33 0 39 0 →
              ∀ M35 : hq_M, M35 = hq_up M34 0 37 0 →
              rg ((M35 0 25) + 1) ∧
              ∀ M38 : hq_M, M38 = hq_up M35 0 25 ((M35 0 25) + 1) →
              rg ((M38 0 25) - 1) ∧
              kk ((M38 0 25) - 1) M38) kk m181 0 M32) kk m75 0 M18 := by
  rw [h725, show ((N : Nat) : Int).toNat = N by omega]
  refine ⟨⟨by omega, by omega⟩, fun M12 e12 => ?_⟩
  have f12 : ∀ q j, ¬ (q = 11 ∧ j = N) → M12 q j = M9 q j := fun q j hq => by rw [e12]; simp only [hq_up]; rw [if_neg hq]
  rw [f12 0 25 (by omega), h925, show ((N : Nat) : Int).toNat = N by omega, f12 0 49 (by omega), f12 0 41 (by omega), hi.1, hy.1]
  have hsum : ((os.length : Int) + (ys.length : Int)) = ((os ++ ys).length : Int) := by rw [List.length_append]; omega
  refine ⟨⟨by omega, by omega⟩, ⟨by omega, by omega⟩, fun M18 e18 => ?_⟩
  have f18 : ∀ q j, ¬ ((q = 11 ∨ q = 13) ∧ j = N) → M18 q j = M9 q j := fun q j hq => by rw [e18, hq_up_n _ _ (by omega), f12 _ _ (by omega)]
  have s13 : M18 13 N = ((os ++ ys).length : Int) := by rw [e18, up_self]; exact hsum
  have s11 : M18 11 N = req := by rw [e18, hq_up_n _ _ (by omega), e12, up_self]
  refine m_sends75 (N := N) (os := os) (ys := ys) (by rw [f18 _ _ (by omega)]; exact h925) (by omega) s13 ⟨by rw [f18 _ _ (by omega)]; exact hi.1, fun j hj => by rw [f18 _ _ (by omega)]; exact hi.2 j hj⟩ ⟨by rw [f18 _ _ (by omega)]; exact hy.1, fun j hj => by rw [f18 _ _ (by omega)]; exact hy.2 j hj⟩ hl hl2 (fun M19 h20 f19 => ?_)
  have n19 : M19 0 25 = (N : Int) := by rw [f19 _ _ (by omega), f18 _ _ (by omega)]; exact h925
  rw [n19, show ((N : Nat) : Int).toNat = N by omega]
  refine ⟨⟨by omega, by omega⟩, fun M22 e22 => ?_⟩
  have f22 : ∀ q j, ¬ (q = 14 ∧ j = N) → M22 q j = M19 q j := fun q j hq => by rw [e22]; simp only [hq_up]; rw [if_neg hq]
  rw [f22 0 25 (by omega), n19, show ((N : Nat) : Int).toNat = N by omega]
  refine ⟨⟨by omega, by omega⟩, fun M25 e25 => ?_⟩
  have f25 : ∀ q j, ¬ ((q = 14 ∨ q = 15) ∧ j = N) → M25 q j = M19 q j := fun q j hq => by rw [e25, hq_up_n _ _ (by omega), f22 _ _ (by omega)]
  rw [f25 0 25 (by omega), n19, show ((N : Nat) : Int).toNat = N by omega]
  refine ⟨⟨by omega, by omega⟩, fun M28 e28 => ?_⟩
  have f28 : ∀ q j, ¬ ((q = 14 ∨ q = 15 ∨ q = 16) ∧ j = N) → M28 q j = M19 q j := fun q j hq => by rw [e28, hq_up_n _ _ (by omega), f25 _ _ (by omega)]
  rw [f28 0 25 (by omega), n19, show ((N : Nat) : Int).toNat = N by omega]
  refine ⟨⟨by omega, by omega⟩, fun M32 e32 => ?_⟩
  have f32 : ∀ q j, ¬ ((14 ≤ q ∧ q ≤ 17) ∧ j = N) → M32 q j = M19 q j := fun q j hq => by rw [e32, hq_up_n _ _ (by omega), f28 _ _ (by omega)]
  have n37 : M28 0 37 = (nd : Int) := by rw [f28 _ _ (by omega), f19 _ _ (by omega), f18 _ _ (by omega)]; exact h37
  have s17 : M32 17 N = (nd : Int) := by rw [e32, up_self]; exact n37
  have s16 : M32 16 N = 0 := by rw [e32, hq_up_n _ _ (by omega), e28, up_self]
  have s15 : M32 15 N = 0 := by rw [e32, hq_up_n _ _ (by omega), e28, hq_up_n _ _ (by omega), e25, up_self]
  have s14 : M32 14 N = 0 := by rw [e32, hq_up_n _ _ (by omega), e28, hq_up_n _ _ (by omega), e25, hq_up_n _ _ (by omega), e22, up_self]
  refine m_sends181 (N := N) (nd := nd) (by rw [f32 _ _ (by omega)]; exact n19) (by omega) (by rw [f32 _ _ (by omega), ← f28 _ _ (by omega)]; exact n37) (by omega) (fun M33 h18 h19 f33 => ?_)
  intro M34 e34 M35 e35
  have n35 : M35 0 25 = (N : Int) := by rw [e35, hq_up_n _ _ (by omega), e34, hq_up_n _ _ (by omega), f33 _ _ (by omega), f32 _ _ (by omega)]; exact n19
  rw [n35]
  refine ⟨⟨by omega, by omega⟩, fun M38 e38 => ?_⟩
  have n38 : M38 0 25 = ((N + 1 : Nat) : Int) := by rw [e38, up_self]; omega
  rw [n38]
  have f38 : ∀ q j, ¬ (q = 0 ∧ (j = 25 ∨ j = 37 ∨ j = 39)) → M38 q j = M33 q j := fun q j hq => by rw [e38, hq_up_n _ _ (by omega), e35, hq_up_n _ _ (by omega), e34, hq_up_n _ _ (by omega)]
  have m9e : ∀ q j, ¬ (((q = 11 ∨ (13 ≤ q ∧ q ≤ 17)) ∧ j = N) ∨ (q = 20 ∧ 112 * N ≤ j ∧ j < 112 * N + 112) ∨ ((q = 18 ∨ q = 19) ∧ 6 * N ≤ j ∧ j < 6 * N + 6) ∨ (q = 0 ∧ (j = 25 ∨ j = 37 ∨ j = 39))) → M38 q j = M9 q j := by
    intro q j hq
    have h1 : ¬ (q = 0 ∧ (j = 25 ∨ j = 37 ∨ j = 39)) := fun e => hq (.inr (.inr (.inr e)))
    have h2 : ¬ ((q = 18 ∨ q = 19) ∧ 6 * N ≤ j ∧ j < 6 * N + 6) := fun e => hq (.inr (.inr (.inl e)))
    have h3 : ¬ ((14 ≤ q ∧ q ≤ 17) ∧ j = N) := fun e => hq (.inl ⟨.inr ⟨Nat.le_of_succ_le e.1.1, e.1.2⟩, e.2⟩)
    have h4 : ¬ (q = 20 ∧ 112 * N ≤ j ∧ j < 112 * N + 112) := fun e => hq (.inr (.inl e))
    have h5 : ¬ ((q = 11 ∨ q = 13) ∧ j = N) := fun e => hq (.inl ⟨e.1.imp id (fun h => by rw [h]; decide), e.2⟩)
    rw [f38 q j h1, f33 q j h2, f32 q j h3, f19 q j h4, f18 q j h5]
  rw [show ((N + 1 : Nat) : Int) - 1 = (N : Int) by omega]
  refine ⟨⟨by omega, by omega⟩, hk M38 ?_ ?_ (fun j hj => ?_) ?_ ?_ ?_ ?_ (fun j hj => ?_) (fun j hj => ?_) ?_ ?_ n38 m9e⟩
  · rw [f38 _ _ (by omega), f33 _ _ (by omega), f32 _ _ (by omega), f19 _ _ (by omega)]; exact s11
  · rw [f38 _ _ (by omega), f33 _ _ (by omega), f32 _ _ (by omega), f19 _ _ (by omega)]; exact s13
  · rw [f38 _ _ (by omega), f33 _ _ (by omega), f32 _ _ (by omega)]
    exact h20 j hj
  · rw [f38 _ _ (by omega), f33 _ _ (by omega)]; exact s14
  · rw [f38 _ _ (by omega), f33 _ _ (by omega)]; exact s15
  · rw [f38 _ _ (by omega), f33 _ _ (by omega)]; exact s16
  · rw [f38 _ _ (by omega), f33 _ _ (by omega)]; exact s17
  · rw [f38 _ _ (by omega), h18 j hj, f32 _ _ (by omega), f19 _ _ (by omega), f18 _ _ (by omega)]
  · rw [f38 _ _ (by omega), h19 j hj, f32 _ _ (by omega), f19 _ _ (by omega), f18 _ _ (by omega)]
  · rw [e38, hq_up_n _ _ (by omega), e35, hq_up_n _ _ (by omega), e34, up_self]
  · rw [e38, hq_up_n _ _ (by omega), e35, up_self]
