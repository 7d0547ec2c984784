/-! ===== the mathematics, part 40: tells, an item, both sides ===== -/
theorem Pr.set {C C' : hq_M} {P n : Nat} {a v : Nat → List Int} {x y : List Int} (h : Pr C P (n : Int) a v) (hn : n < 8) (h1 : C' P 1 = ((n + 1 : Nat) : Int)) (hx : Rw C' (P + 2 + 5 * n + 1) x) (hy : Rw C' (P + 2 + 5 * n + 3) y) (hxl : x.length ≤ 6) (hyl : y.length ≤ 6) (hC : ∀ q j, P + 2 ≤ q → q < P + 2 + 5 * n → C' q j = C q j) : Pr C' P ((n + 1 : Nat) : Int) (up1 a n x) (up1 v n y) := by
  refine ⟨h1, fun i hi => ?_⟩
  unfold up1
  by_cases q : i = n
  · rw [if_pos q, if_pos q, q]
    exact ⟨hx, hy, hxl, hyl⟩
  · rw [if_neg q, if_neg q]
    obtain ⟨g1, g2, g3, g4⟩ := h.2 i (by omega)
    exact ⟨g1.cg (hC _ _ (by omega) (by omega)) (fun j => hC _ _ (by omega) (by omega)), g2.cg (hC _ _ (by omega) (by omega)) (fun j => hC _ _ (by omega) (by omega)), g3, g4⟩
theorem Pr.stay {C C' : hq_M} {P n : Nat} {a v : Nat → List Int} (h : Pr C P (n : Int) a v) (hn : n ≤ 8) (h1 : C' P 1 = C P 1) (hC : ∀ q j, P + 2 ≤ q → q < P + 2 + 5 * n → C' q j = C q j) : Pr C' P (n : Int) a v := by
  refine ⟨h1.trans h.1, fun i hi => ?_⟩
  obtain ⟨g1, g2, g3, g4⟩ := h.2 i hi
  exact ⟨g1.cg (hC _ _ (by omega) (by omega)) (fun j => hC _ _ (by omega) (by omega)), g2.cg (hC _ _ (by omega) (by omega)) (fun j => hC _ _ (by omega) (by omega)), g3, g4⟩
theorem item_sim {T : List Int} {o : Nat} {C : hq_M} {mt bd it : Int} {nF nS b e : Nat} {a v sa sv : Nat → List Int} {kc : Int → hq_M → Prop} (hP : PCs T o C mt bd nF a v nS sa sv it b e) (hO : OKs T mt bd nF nS b e) (ho : o = 8 ∨ o = 88)
    (fail : ∀ (bf : Nat) (C' : hq_M), C' 7 4 = (bf : Int) → bf ≤ T.length → FCp o C C' → (∀ M, PMs T M mt bd nF a v nS sa sv it b e → ∀ k1 kf : hq_M → Prop, (∀ M', M' 0 11 = (bf : Int) → Lo6 M' → FMp M M' → kf M') → mIt k1 kf M) → kc 0 C')
    (succ : ∀ mt' bd' nF' a' v' nS' sa' sv' b' e' C', OKs T mt' bd' nF' nS' b' e' → b < b' → PCs T o C' mt' bd' nF' a' v' nS' sa' sv' it b' e' → FCp o C C' → (∀ M, PMs T M mt bd nF a v nS sa sv it b e → ∀ k1 kf : hq_M → Prop, (∀ M', PMs T M' mt' bd' nF' a' v' nS' sa' sv' it b' e' → FMp M M' → k1 M') → mIt k1 kf M) → kc 1 C') : w_X4_readItem o C kc := by
  have hO0 := hO
  obtain ⟨hT, ⟨c1, c2, c3, c4⟩, hF, hS, c5, h4, h5⟩ := hP
  obtain ⟨hmt, hbd, hF7, hS8, hb, he, hN, hl⟩ := hO
  have pc7 : PC (o + 1) 7 := by rcases ho with rfl | rfl; exact PC_9; exact PC_89
  have pc8 : PC (o + 38) 8 := by rcases ho with rfl | rfl; exact PC_46; exact PC_126
  -- still, field
  have L115 : (wd T b e = str 0 → mt ≠ -9) → (wd T b e = str 1 → bd ≠ -9) → b_X4_readItem_115 o kc C := by
    intro n0 n1
    unfold b_X4_readItem_115
    refine x4_isPiece (v := 2) hT hl h4 h5 hb he (fun hw => ⟨fun e => absurd e (by decide), fun _ => ?_⟩) (fun hw2 => ⟨fun _ => x4_isPiece (v := 3) hT hl h4 h5 hb he (fun hw => ⟨fun e => absurd e (by decide), fun _ => ?_⟩) (fun hw3 => ⟨fun _ => ?_, fun e => absurd rfl e⟩), fun e => absurd rfl e⟩)
    · -- still
      refine x4_readPair hT hl h5 he pc8 (by omega) hS.1 hS8 (fun hfull => fail b C h4 (by omega) (fun _ _ _ => rfl) (fun M hM k1 kf hkf => m_it2 hM hO0 hw (fun _ => hkf) (fun h => by omega))) (fun b1 e1 C' hlt hN1 hno g4 fC => fail b1 C' g4 (by have := hN1.bd; omega) (fun q j hq => fC _ _ (by omega)) (fun M hM k1 kf hkf => m_it2 hM hO0 hw (fun h => by omega) (fun _ => ⟨b1, e1, hN1, fun _ => hkf, fun h => absurd h hno⟩))) (fun b1 e1 b2 e2 C' hlt hN1 hnm hN2 hno g4 fC => fail b2 C' g4 (by have := hN2.bd; omega) (fun q j hq => fC _ _ (by omega)) (fun M hM k1 kf hkf => m_it2 hM hO0 hw (fun h => by omega) (fun _ => ⟨b1, e1, hN1, fun h => absurd hnm h, fun _ => ⟨b2, e2, hN2, fun _ => hkf, fun h => absurd h hno⟩⟩))) (fun b1 e1 b2 e2 b3 e3 C' hlt hN1 hnm hN2 hsg hN3 h6 g4 fC => fail b3 C' g4 (by have := hN3.bd; omega) (fun q j hq => fC _ _ (by omega)) (fun M hM k1 kf hkf => m_it2 hM hO0 hw (fun h => by omega) (fun _ => ⟨b1, e1, hN1, fun h => absurd hnm h, fun _ => ⟨b2, e2, hN2, fun h => absurd hsg h, fun _ => ⟨b3, e3, hN3, fun _ => hkf, fun h => by omega⟩⟩⟩))) (fun b1 e1 b2 e2 b3 e3 b4 e4 C' hlt hN1 hnm hN2 hsg hN3 h6 hN4 g4 g5 r1 r3 fC => ⟨fun _ => ?_, fun e => absurd rfl e⟩)
      have hb1 := hN1.bd
      have hb2 := hN2.bd
      have hb3 := hN3.bd
      have hb4 := hN4.bd
      unfold b_X4_readPair_81
      have hsz : C' (o + 38) 1 = (nS : Int) := by rw [fC _ _ (by omega)]; exact hS.1
      rw [hsz]
      refine ⟨⟨by omega, by omega⟩, fun M3 e3' => ?_⟩
      have f3 : ∀ q j, ¬ (q = o + 38 ∧ j = 1) → M3 q j = C' q j := fun q j hq => by rw [e3']; simp only [hq_up]; rw [if_neg hq]
      have s3 : M3 (o + 38) 1 = ((nS + 1 : Nat) : Int) := by rw [e3', up_self]; omega
      have o3 : FCp o C M3 := fun q j hq => by rw [f3 _ _ (by omega), fC _ _ (by omega)]
      have hT3 : Rw M3 1 T := hT.cg (o3 _ _ (by omega)) (fun j => o3 _ _ (by omega))
      refine x4_readSign hT3 hl (by rw [f3 _ _ (by omega)]; exact g4) (by rw [f3 _ _ (by omega)]; exact g5) hb4.2.1 hb4.2.2 (by decide) (fun hno => fail b4 M3 (by rw [f3 _ _ (by omega)]; exact g4) (by omega) o3 (fun M hM k1 kf hkf => m_it2 hM hO0 hw (fun h => by omega) (fun _ => ⟨b1, e1, hN1, fun h => absurd hnm h, fun _ => ⟨b2, e2, hN2, fun h => absurd hsg h, fun _ => ⟨b3, e3, hN3, fun h => by omega, fun _ => ⟨b4, e4, hN4, fun _ => hkf, fun h => absurd h hno⟩⟩⟩⟩))) (fun hsg4 b5 e5 C5 hN5 k4 k5 f5 => ?_)
      have hb5 := hN5.bd
      have hstr := str_pos hw (by decide)
      refine succ mt bd nF a v (nS + 1) (up1 sa nS (wd T b1 e1)) (up1 sv nS (wd T b3 e3)) b5 e5 C5 ⟨hmt, hbd, hF7, by omega, by omega, by omega, hN5.2, hl⟩ (by omega) ⟨hT3.cg (f5 _ _ (by omega)) (fun j => f5 _ _ (by omega)), ⟨by rw [f5 _ _ (by omega), f3 _ _ (by omega), fC _ _ (by omega)]; exact c1, by rw [f5 _ _ (by omega), f3 _ _ (by omega), fC _ _ (by omega)]; exact c2, by rw [f5 _ _ (by omega), f3 _ _ (by omega), fC _ _ (by omega)]; exact c3, by rw [f5 _ _ (by omega), f3 _ _ (by omega), fC _ _ (by omega)]; exact c4⟩, hF.stay (by omega) (by rw [f5 _ _ (by omega), f3 _ _ (by omega), fC _ _ (by omega)]) (fun q j h1 h2 => by rw [f5 _ _ (by omega), f3 _ _ (by omega), fC _ _ (by omega)]), hS.set hlt (by rw [f5 _ _ (by omega)]; exact s3) (r1.cg (by rw [f5 _ _ (by omega), f3 _ _ (by omega)]) (fun j => by rw [f5 _ _ (by omega), f3 _ _ (by omega)])) (r3.cg (by rw [f5 _ _ (by omega), f3 _ _ (by omega)]) (fun j => by rw [f5 _ _ (by omega), f3 _ _ (by omega)])) (by rw [wd_len]; exact hnm.2.1) (by rw [wd_len]; exact h6) (fun q j h1 h2 => by rw [f5 _ _ (by omega), f3 _ _ (by omega), fC _ _ (by omega)]), by rw [f5 _ _ (by omega), f3 _ _ (by omega), fC _ _ (by omega)]; exact c5, k4, k5⟩ (fun q j hq => by rw [f5 _ _ (by omega)]; exact o3 q j hq) (fun M hM k1 kf hk1 => m_it2 hM hO0 hw (fun h => by omega) (fun _ => ⟨b1, e1, hN1, fun h => absurd hnm h, fun _ => ⟨b2, e2, hN2, fun h => absurd hsg h, fun _ => ⟨b3, e3, hN3, fun h => by omega, fun _ => ⟨b4, e4, hN4, fun h => absurd hsg4 h, fun _ => ⟨b5, e5, hN5, hk1⟩⟩⟩⟩⟩))
    · -- field
      refine x4_readPair hT hl h5 he pc7 (by omega) hF.1 hF7 (fun hfull => ⟨fun _ => fail b C h4 (by omega) (fun _ _ _ => rfl) (fun M hM k1 kf hkf => m_it3 hM hO0 hw (fun _ => hkf) (fun h => by omega)), fun e => absurd rfl e⟩) (fun b1 e1 C' hlt hN1 hno g4 fC => ⟨fun _ => fail b1 C' g4 (by have := hN1.bd; omega) (fun q j hq => fC _ _ (by omega)) (fun M hM k1 kf hkf => m_it3 hM hO0 hw (fun h => by omega) (fun _ => ⟨b1, e1, hN1, fun _ => hkf, fun h => absurd h hno⟩)), fun e => absurd rfl e⟩) (fun b1 e1 b2 e2 C' hlt hN1 hnm hN2 hno g4 fC => ⟨fun _ => fail b2 C' g4 (by have := hN2.bd; omega) (fun q j hq => fC _ _ (by omega)) (fun M hM k1 kf hkf => m_it3 hM hO0 hw (fun h => by omega) (fun _ => ⟨b1, e1, hN1, fun h => absurd hnm h, fun _ => ⟨b2, e2, hN2, fun _ => hkf, fun h => absurd h hno⟩⟩)), fun e => absurd rfl e⟩) (fun b1 e1 b2 e2 b3 e3 C' hlt hN1 hnm hN2 hsg hN3 h6 g4 fC => ⟨fun _ => fail b3 C' g4 (by have := hN3.bd; omega) (fun q j hq => fC _ _ (by omega)) (fun M hM k1 kf hkf => m_it3 hM hO0 hw (fun h => by omega) (fun _ => ⟨b1, e1, hN1, fun h => absurd hnm h, fun _ => ⟨b2, e2, hN2, fun h => absurd hsg h, fun _ => ⟨b3, e3, hN3, fun _ => hkf, fun h => by omega⟩⟩⟩)), fun e => absurd rfl e⟩) (fun b1 e1 b2 e2 b3 e3 b4 e4 C' hlt hN1 hnm hN2 hsg hN3 h6 hN4 g4 g5 r1 r3 fC => ⟨fun e => absurd e (by decide), fun _ => ?_⟩)
      have hb1 := hN1.bd
      have hb2 := hN2.bd
      have hb3 := hN3.bd
      have hb4 := hN4.bd
      have hF' : Pr C' (o + 1) (nF : Int) a v := hF.stay (by omega) (fC _ _ (by omega)) (fun q j h1 h2 => fC _ _ (by omega))
      have hcp := pc7.2.2 nF hlt
      have hwl1 := wd_len T b1 e1
      have hwl3 := wd_len T b3 e3
      have hnm6 := hnm.2.1
      refine x3_lowestLike pc7 hF' (by omega) r1 (by omega) hcp.1 r3 (by omega) hcp.2 (fun r hr => ?_)
      have dup : ¬ r < 0 → ∃ i, i < nF ∧ a i = wd T b1 e1 ∧ v i = wd T b3 e3 := by
        intro hr0
        rcases hr with ⟨h1, -⟩ | ⟨i, h1, -, h3, -⟩
        · omega
        · exact ⟨i, by omega, h3⟩
      refine ⟨fun hneg => ?_, fun hpos => ⟨fun _ => fail b4 C' g4 (by omega) (fun q j hq => fC _ _ (by omega)) (fun M hM k1 kf hkf => m_it3 hM hO0 hw (fun h => by omega) (fun _ => ⟨b1, e1, hN1, fun h => absurd hnm h, fun _ => ⟨b2, e2, hN2, fun h => absurd hsg h, fun _ => ⟨b3, e3, hN3, fun h => by omega, fun _ => ⟨b4, e4, hN4, fun _ => hkf, fun _ hnd => ?_⟩⟩⟩⟩)), fun e => absurd rfl e⟩⟩
      · have nodup : ∀ i, i < nF → ¬ (a i = wd T b1 e1 ∧ v i = wd T b3 e3) := by
          intro i hi hh
          rcases hr with ⟨-, h2⟩ | ⟨j, -, h2, -⟩
          · exact h2 i (by omega) hh
          · omega
        clear dup
        unfold b_X4_readPair_81
        rw [hF'.1]
        refine ⟨⟨by omega, by omega⟩, fun M3 e3' => ?_⟩
        have f3 : ∀ q j, ¬ (q = o + 1 ∧ j = 1) → M3 q j = C' q j := fun q j hq => by rw [e3']; simp only [hq_up]; rw [if_neg hq]
        have s3 : M3 (o + 1) 1 = ((nF + 1 : Nat) : Int) := by rw [e3', up_self]; omega
        have o3 : FCp o C M3 := fun q j hq => by rw [f3 _ _ (by omega), fC _ _ (by omega)]
        have hT3 : Rw M3 1 T := hT.cg (o3 _ _ (by omega)) (fun j => o3 _ _ (by omega))
        refine x4_readSign hT3 hl (by rw [f3 _ _ (by omega)]; exact g4) (by rw [f3 _ _ (by omega)]; exact g5) hb4.2.1 hb4.2.2 (by decide) (fun hno => ⟨fun _ => fail b4 M3 (by rw [f3 _ _ (by omega)]; exact g4) (by omega) o3 (fun M hM k1 kf hkf => m_it3 hM hO0 hw (fun h => by omega) (fun _ => ⟨b1, e1, hN1, fun h => absurd hnm h, fun _ => ⟨b2, e2, hN2, fun h => absurd hsg h, fun _ => ⟨b3, e3, hN3, fun h => by omega, fun _ => ⟨b4, e4, hN4, fun _ => hkf, fun h => absurd h hno⟩⟩⟩⟩)), fun e => absurd rfl e⟩) (fun hsg4 b5 e5 C5 hN5 k4 k5 f5 => ⟨fun e => absurd e (by decide), fun _ => ?_⟩)
        have hb5 := hN5.bd
        have hstr := str_pos hw (by decide)
        refine succ mt bd (nF + 1) (up1 a nF (wd T b1 e1)) (up1 v nF (wd T b3 e3)) nS sa sv b5 e5 C5 ⟨hmt, hbd, by omega, hS8, by omega, by omega, hN5.2, hl⟩ (by omega) ⟨hT3.cg (f5 _ _ (by omega)) (fun j => f5 _ _ (by omega)), ⟨by rw [f5 _ _ (by omega), f3 _ _ (by omega), fC _ _ (by omega)]; exact c1, by rw [f5 _ _ (by omega), f3 _ _ (by omega), fC _ _ (by omega)]; exact c2, by rw [f5 _ _ (by omega), f3 _ _ (by omega), fC _ _ (by omega)]; exact c3, by rw [f5 _ _ (by omega), f3 _ _ (by omega), fC _ _ (by omega)]; exact c4⟩, hF.set (by omega) (by rw [f5 _ _ (by omega)]; exact s3) (r1.cg (by rw [f5 _ _ (by omega), f3 _ _ (by omega)]) (fun j => by rw [f5 _ _ (by omega), f3 _ _ (by omega)])) (r3.cg (by rw [f5 _ _ (by omega), f3 _ _ (by omega)]) (fun j => by rw [f5 _ _ (by omega), f3 _ _ (by omega)])) (by omega) (by omega) (fun q j h1 h2 => by rw [f5 _ _ (by omega), f3 _ _ (by omega), fC _ _ (by omega)]), hS.stay (by omega) (by rw [f5 _ _ (by omega), f3 _ _ (by omega), fC _ _ (by omega)]) (fun q j h1 h2 => by rw [f5 _ _ (by omega), f3 _ _ (by omega), fC _ _ (by omega)]), by rw [f5 _ _ (by omega), f3 _ _ (by omega), fC _ _ (by omega)]; exact c5, k4, k5⟩ (fun q j hq => by rw [f5 _ _ (by omega)]; exact o3 q j hq) (fun M hM k1 kf hk1 => m_it3 hM hO0 hw (fun h => by omega) (fun _ => ⟨b1, e1, hN1, fun h => absurd hnm h, fun _ => ⟨b2, e2, hN2, fun h => absurd hsg h, fun _ => ⟨b3, e3, hN3, fun h => by omega, fun _ => ⟨b4, e4, hN4, fun h => ?_, fun _ _ => ⟨b5, e5, hN5, hk1⟩⟩⟩⟩⟩))
        rcases h with h | ⟨i, hi, hh⟩
        · exact absurd hsg4 h
        · exact absurd hh (nodup i hi)
      · obtain ⟨i, hi, hh⟩ := dup hpos
        exact absurd hh (hnd i hi)
    · -- none of the four
      refine fail b C h4 (by omega) (fun _ _ _ => rfl) (fun M hM k1 kf hkf => ?_)
      have hkM := hkf M hM.2.1.1 hM.2.2.2.2.2 (fun _ _ _ => rfl)
      by_cases w0 : wd T b e = str 0
      · exact m_it0 hM hO0 w0 (fun _ => hkM) (fun h => absurd h (n0 w0))
      · by_cases w1 : wd T b e = str 1
        · exact m_it1 hM hO0 w1 (fun _ => hkM) (fun h => absurd h (n1 w1))
        · refine m_it4 hM hO0 (fun i hi h => ?_) hkM
          have : i = 0 ∨ i = 1 ∨ i = 2 ∨ i = 3 := by omega
          rcases this with rfl | rfl | rfl | rfl
          · exact w0 h
          · exact w1 h
          · exact hw2 h
          · exact hw3 h
  -- blocked
  have L58 : (wd T b e = str 0 → mt ≠ -9) → b_X4_readItem_58 o kc C := by
    intro n0
    unfold b_X4_readItem_58
    rw [c2]
    refine x4_isPiece (v := 1) hT hl h4 h5 hb he (fun hw => ⟨fun e => absurd e (by decide), fun _ => ⟨fun q => L115 n0 (fun _ h => q (by rw [if_pos h])), fun q => ?_⟩⟩) (fun hw => ⟨fun _ => L115 n0 (fun h => absurd h hw), fun e => absurd rfl e⟩)
    have hbd9 : bd = -9 := by
      by_cases h : bd = -9
      · exact h
      · rw [if_neg h] at q; exact absurd q (by decide)
    intro C3 e3
    have f3 : ∀ q j, ¬ (q = 7 ∧ j = 2) → C3 q j = C q j := fun q j hq => by rw [e3]; simp only [hq_up]; rw [if_neg hq]
    have hT3 : Rw C3 1 T := hT.cg (f3 _ _ (by omega)) (fun j => f3 _ _ (by omega))
    refine x4_advance hT3 hl (by rw [f3 _ _ (by omega)]; exact h5) he (fun b1 e1 C4 hN1 g4 g5 f4 => ?_)
    have hb1 := hN1.bd
    have hT4 : Rw C4 1 T := hT3.cg (f4 _ _ (by omega)) (fun j => f4 _ _ (by omega))
    refine x4_readNumber hT4 hl g4 g5 hb1.2.1 hb1.2.2 (fun vn hv hbad => fun C7 e7 => ?_) (fun vn hv hv0 hv9 b2 e2 C5 hN2 k4 k5 f5 => fun C7 e7 => ?_)
    · have f7 : ∀ q j, ¬ (q = o ∧ j = 3) → C7 q j = C4 q j := fun q j hq => by rw [e7]; simp only [hq_up]; rw [if_neg hq]
      have s7 : C7 o 3 = -9 := by rw [e7, up_self]
      rw [s7]
      exact ⟨fun _ => fail b1 C7 (by rw [f7 _ _ (by omega)]; exact g4) (by omega) (fun q j hq => by rw [f7 _ _ (by omega), f4 _ _ (by omega), f3 _ _ (by omega)]) (fun M hM k1 kf hkf => m_it1 hM hO0 hw (fun h => absurd hbd9 h) (fun _ => ⟨b1, e1, vn, hN1, hv, fun _ => hkf, fun h => by omega⟩)), fun q => absurd (by decide) q⟩
    · have hb2 := hN2.bd
      have f7 : ∀ q j, ¬ (q = o ∧ j = 3) → C7 q j = C5 q j := fun q j hq => by rw [e7]; simp only [hq_up]; rw [if_neg hq]
      have s7 : C7 o 3 = vn := by rw [e7, up_self]
      have o7 : FCp o C C7 := fun q j hq => by rw [f7 _ _ (by omega), f5 _ _ (by omega), f4 _ _ (by omega), f3 _ _ (by omega)]
      have hT7 : Rw C7 1 T := hT.cg (o7 _ _ (by omega)) (fun j => o7 _ _ (by omega))
      rw [s7]
      refine ⟨fun q => by omega, fun _ => ?_⟩
      refine x4_readSign hT7 hl (by rw [f7 _ _ (by omega)]; exact k4) (by rw [f7 _ _ (by omega)]; exact k5) hb2.2.1 hb2.2.2 (by decide) (fun hno => ⟨fun _ => fail b2 C7 (by rw [f7 _ _ (by omega)]; exact k4) (by omega) o7 (fun M hM k1 kf hkf => m_it1 hM hO0 hw (fun h => absurd hbd9 h) (fun _ => ⟨b1, e1, vn, hN1, hv, fun h => by omega, fun _ => ⟨b2, e2, hN2, fun _ => hkf, fun h => absurd h hno⟩⟩)), fun e => absurd rfl e⟩) (fun hsg b3 e3' C8 hN3 l4 l5 f8 => ⟨fun e => absurd e (by decide), fun _ => ?_⟩)
      have hb3 := hN3.bd
      have hstr := str_pos hw (by decide)
      have oo : ∀ q j, ¬ ((q = 7 ∧ (j = 2 ∨ j = 4 ∨ j = 5)) ∨ (q = o ∧ j = 3)) → C8 q j = C q j := fun q j hq => by rw [f8 _ _ (by omega), f7 _ _ (by omega), f5 _ _ (by omega), f4 _ _ (by omega), f3 _ _ (by omega)]
      refine succ mt vn nF a v nS sa sv b3 e3' C8 ⟨hmt, .inr ⟨hv0, hv9⟩, hF7, hS8, by omega, by omega, hN3.2, hl⟩ (by omega) ⟨hT7.cg (f8 _ _ (by omega)) (fun j => f8 _ _ (by omega)), ⟨by rw [oo _ _ (by omega)]; exact c1, ?_, by rw [oo _ _ (by omega)]; exact c3, ?_⟩, hF.stay (by omega) (oo _ _ (by omega)) (fun q j h1 h2 => oo _ _ (by omega)), hS.stay (by omega) (oo _ _ (by omega)) (fun q j h1 h2 => oo _ _ (by omega)), by rw [oo _ _ (by omega)]; exact c5, l4, l5⟩ (fun q j hq => oo _ _ (by omega)) (fun M hM k1 kf hk1 => m_it1 hM hO0 hw (fun h => absurd hbd9 h) (fun _ => ⟨b1, e1, vn, hN1, hv, fun h => by omega, fun _ => ⟨b2, e2, hN2, fun h => absurd hsg h, fun _ => ⟨b3, e3', hN3, hk1⟩⟩⟩))
      · rw [f8 _ _ (by omega), f7 _ _ (by omega), f5 _ _ (by omega), f4 _ _ (by omega), e3, up_self, if_neg (by omega)]
      · rw [f8 _ _ (by omega), s7, if_neg (by omega)]
  -- table
  unfold w_X4_readItem
  rw [c1]
  refine x4_isPiece (v := 0) hT hl h4 h5 hb he (fun hw => ⟨fun e => absurd e (by decide), fun _ => ⟨fun q => L58 (fun _ h => q (by rw [if_pos h])), fun q => ?_⟩⟩) (fun hw => ⟨fun _ => L58 (fun h => absurd h hw), fun e => absurd rfl e⟩)
  have hmt9 : mt = -9 := by
    by_cases h : mt = -9
    · exact h
    · rw [if_neg h] at q; exact absurd q (by decide)
  intro C3 e3
  have f3 : ∀ q j, ¬ (q = 7 ∧ j = 1) → C3 q j = C q j := fun q j hq => by rw [e3]; simp only [hq_up]; rw [if_neg hq]
  have hT3 : Rw C3 1 T := hT.cg (f3 _ _ (by omega)) (fun j => f3 _ _ (by omega))
  refine x4_advance hT3 hl (by rw [f3 _ _ (by omega)]; exact h5) he (fun b1 e1 C4 hN1 g4 g5 f4 => ?_)
  have hb1 := hN1.bd
  have hT4 : Rw C4 1 T := hT3.cg (f4 _ _ (by omega)) (fun j => f4 _ _ (by omega))
  refine x4_readNumber hT4 hl g4 g5 hb1.2.1 hb1.2.2 (fun vn hv hbad => fun C7 e7 => ?_) (fun vn hv hv0 hv9 b2 e2 C5 hN2 k4 k5 f5 => fun C7 e7 => ?_)
  · have f7 : ∀ q j, ¬ (q = o ∧ j = 2) → C7 q j = C4 q j := fun q j hq => by rw [e7]; simp only [hq_up]; rw [if_neg hq]
    have s7 : C7 o 2 = -9 := by rw [e7, up_self]
    rw [s7]
    exact ⟨fun _ => fail b1 C7 (by rw [f7 _ _ (by omega)]; exact g4) (by omega) (fun q j hq => by rw [f7 _ _ (by omega), f4 _ _ (by omega), f3 _ _ (by omega)]) (fun M hM k1 kf hkf => m_it0 hM hO0 hw (fun h => absurd hmt9 h) (fun _ => ⟨b1, e1, vn, hN1, hv, fun _ => hkf, fun h => by omega⟩)), fun q => absurd (by decide) q⟩
  · have hb2 := hN2.bd
    have f7 : ∀ q j, ¬ (q = o ∧ j = 2) → C7 q j = C5 q j := fun q j hq => by rw [e7]; simp only [hq_up]; rw [if_neg hq]
    have s7 : C7 o 2 = vn := by rw [e7, up_self]
    have o7 : FCp o C C7 := fun q j hq => by rw [f7 _ _ (by omega), f5 _ _ (by omega), f4 _ _ (by omega), f3 _ _ (by omega)]
    have hT7 : Rw C7 1 T := hT.cg (o7 _ _ (by omega)) (fun j => o7 _ _ (by omega))
    rw [s7]
    refine ⟨fun q => by omega, fun _ => ?_⟩
    refine x4_readSign hT7 hl (by rw [f7 _ _ (by omega)]; exact k4) (by rw [f7 _ _ (by omega)]; exact k5) hb2.2.1 hb2.2.2 (by decide) (fun hno => ⟨fun _ => fail b2 C7 (by rw [f7 _ _ (by omega)]; exact k4) (by omega) o7 (fun M hM k1 kf hkf => m_it0 hM hO0 hw (fun h => absurd hmt9 h) (fun _ => ⟨b1, e1, vn, hN1, hv, fun h => by omega, fun _ => ⟨b2, e2, hN2, fun _ => hkf, fun h => absurd h hno⟩⟩)), fun e => absurd rfl e⟩) (fun hsg b3 e3' C8 hN3 l4 l5 f8 => ⟨fun e => absurd e (by decide), fun _ => ?_⟩)
    have hb3 := hN3.bd
    have hstr := str_pos hw (by decide)
    have oo : ∀ q j, ¬ ((q = 7 ∧ (j = 1 ∨ j = 4 ∨ j = 5)) ∨ (q = o ∧ j = 2)) → C8 q j = C q j := fun q j hq => by rw [f8 _ _ (by omega), f7 _ _ (by omega), f5 _ _ (by omega), f4 _ _ (by omega), f3 _ _ (by omega)]
    refine succ vn bd nF a v nS sa sv b3 e3' C8 ⟨.inr ⟨hv0, hv9⟩, hbd, hF7, hS8, by omega, by omega, hN3.2, hl⟩ (by omega) ⟨hT7.cg (f8 _ _ (by omega)) (fun j => f8 _ _ (by omega)), ⟨?_, by rw [oo _ _ (by omega)]; exact c2, ?_, by rw [oo _ _ (by omega)]; exact c4⟩, hF.stay (by omega) (oo _ _ (by omega)) (fun q j h1 h2 => oo _ _ (by omega)), hS.stay (by omega) (oo _ _ (by omega)) (fun q j h1 h2 => oo _ _ (by omega)), by rw [oo _ _ (by omega)]; exact c5, l4, l5⟩ (fun q j hq => oo _ _ (by omega)) (fun M hM k1 kf hk1 => m_it0 hM hO0 hw (fun h => absurd hmt9 h) (fun _ => ⟨b1, e1, vn, hN1, hv, fun h => by omega, fun _ => ⟨b2, e2, hN2, fun h => absurd hsg h, fun _ => ⟨b3, e3', hN3, hk1⟩⟩⟩))
    · rw [f8 _ _ (by omega), f7 _ _ (by omega), f5 _ _ (by omega), f4 _ _ (by omega), e3, up_self, if_neg (by omega)]
    · rw [f8 _ _ (by omega), s7, if_neg (by omega)]
