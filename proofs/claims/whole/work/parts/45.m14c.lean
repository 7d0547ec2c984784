theorem o_capacity {u : Nat} {C M : hq_M} (h : JJ u C M) (hu : 8 * u + 8 ≤ 900000) (v : Int) : w_X11_capacity v C (fun z C' => w_X12_capacity v M (fun z' M' => z = z' ∧ JJ (u + 1) C' M')) := by
  have hJ := h
  obtain ⟨o, lo, n, D, m, hW, h09, ho⟩ := h.toWE hu
  have hWE := hW
  have hsz := hW.szs
  obtain ⟨w2, w3, w4, w7, w8, w9, w11, w13⟩ := capW (W := 370) (.inl rfl)
  obtain ⟨⟨-, -, -, hlb, hDb, -⟩, h4, hS, hT, hH, hQ, h5, hkn, hSM, hDE⟩ := hW
  have ekz : kz 370 = 0 := rfl
  have hmm := hQ.many
  have hL := hS.2.2.1
  have hF := hS.1
  have h02 := hS.2.2.2.2.2.2.2.1
  obtain ⟨tc, ⟨m7, m6, m9, m8⟩, t5, tle, tcap, ti⟩ := hT
  have hQ0 := hQ
  obtain ⟨q1, ⟨q2, q3, q4⟩, -⟩ := hQ
  have m9' : M 9 0 = sm (es M 0) lo n := by
    rw [m9, t5]
    exact sm_cg (fun i a b => (hsz i a b).2.1)
  have e376 : C 376 1 = M 0 43 := by rw [q4.1, sg_len]; omega
  have bad : ¬ (0 ≤ v ∧ v ≤ M 0 2) → w_X12_capacity v M (fun z' M' => -1 = z' ∧ JJ (u + 1) C M') := by
    intro hn
    unfold w_X12_capacity
    refine m_in ?_
    rw [if_neg hn]
    exact ⟨fun e => absurd rfl e, fun _ => ⟨rfl, hJ.mono (by omega)⟩⟩
  unfold w_X11_capacity w_X10_changeCapacity
  refine ⟨fun q => bad (by omega), fun q => fun o2 eo2 => ?_⟩
  have : o2 = o := by omega
  subst this
  rw [hS.2.2.2.2.2.1]
  refine ⟨fun q2' => ⟨fun q3' => ?_, fun q3' => ?_⟩, fun q2' => bad (by omega)⟩
  · unfold w_X12_capacity
    refine m_in ?_
    rw [if_pos (by omega)]
    exact ⟨fun _ => ⟨by decide, fun _ => ⟨rfl, hJ.mono (by omega)⟩, fun e => absurd (by rw [m8]; exact q3') e⟩, fun e => absurd e (by decide)⟩
  · have fe2 : (fun i => C (370 + 1 + 2) (i % 64)) = (fun i => C (370 + 3) (i % 64)) := rfl
    unfold w_X9_canShrink
    refine x9_tooMany tc t5 (fun i a b => (hsz i a b).1) (by omega) (by omega) (fun e he => ?_)
    rw [h5]
    refine x9_evictable tc hkn.2 (fun t ht => ?_)
    have he' : IsEv (es M 0) lo n (v - 0) e := by
      rw [Int.sub_zero]
      exact he.cg (fun i a b => (hsz i a b).2.1)
    have ht' : IsFr (fun i => held M i = false) lo (min (lo + n) (M 0 23).toNat) t := ht.cg (fun i a b => hH.fr (by have := hSM.1; omega) (by decide) a (by omega))
    -- how the reference begins
    have mb : ∀ (K : Int → hq_M → Prop), (t < e → K (-2) M) → (e ≤ t → ∀ M6 : hq_M, M6 = hq_up M 0 49 0 → w_X12_laysNumber 32 5 v M6 (fun M7 => w_X12_isOverfull M7 (fun x8 => (x8 = 0 → w_X12_sendsOrder 0 v M7 (fun M9 => ((0 : Int) ≤ 0 ∧ (0 : Int) < 2) ∧ ∀ M11 : hq_M, M11 = hq_up M9 8 0 v → w_X12_makesRoom 0 0 M11 (fun x13 M12 => K x13 M12))) ∧ (¬ x8 = 0 → K (-3) M7)))) → w_X12_capacity v M K := by
      intro K k1 k2
      unfold w_X12_capacity
      refine m_in ?_
      rw [if_pos (by omega)]
      refine ⟨fun _ => ⟨by decide, fun e => absurd (by rw [← m8]; exact e) q3', fun _ => m_canHave hL hSM m7 m6 (by omega) m9' (by omega) (fun i a b => by have := hsz i a b; omega) (by decide) (by omega) hkn.2 he' ht' ?_⟩, fun e => absurd e (by decide)⟩
      by_cases q4' : e ≤ t
      · rw [if_pos q4']
        exact ⟨fun _ => k2 q4', fun e => absurd e (by decide)⟩
      · rw [if_neg q4']
        exact ⟨fun e => absurd rfl e, fun _ => k1 (by omega)⟩
    refine ⟨fun q4' => ⟨fun e => absurd rfl e, fun _ => mb _ (fun _ => ⟨rfl, hJ.mono (by omega)⟩) (fun e2 => by omega)⟩, fun q4' => ⟨fun _ => ?_, fun e => absurd e (by decide)⟩⟩
    refine x6_empty (fun C1 r1 f1 => ?_)
    have ol := octs_len 32 5 v
    refine x6_addInteger (by decide) (by decide) (by omega) r1 (by rw [show 370 + 10 + 1 = 370 + 11 by omega, w11, List.length_nil]; omega) (fun C2 r2 f2 => ?_)
    rw [List.nil_append] at r2
    have f12 := f1.tr f2
    have g2 : ∀ q j, q < 380 → C2 q j = C q j := fun q j hq => f12 q j (by omega) (by omega)
    -- what the reference lays
    have ml : ∀ (K : hq_M → Prop), (∀ M7, In M7 (octs 32 5 v) → Fi M M7 → K M7) → ∀ M6 : hq_M, M6 = hq_up M 0 49 0 → w_X12_laysNumber 32 5 v M6 K := by
      intro K hK M6 e6
      obtain ⟨i6, fi6⟩ := In.new e6
      refine m_laysNumber (by decide) (by decide) (by omega) i6 (by rw [List.length_nil]; omega) (fun M7 i7 f7 => hK M7 ?_ (fi6.tr f7))
      rw [List.nil_append] at i7
      exact i7
    unfold w_X8_hasRoom
    rw [show 370 + 5 + 1 = 376 by omega, g2 376 1 (by omega), e376, r2.1]
    refine ⟨⟨by omega, by omega⟩, fun q5 => ⟨fun e => absurd rfl e, fun _ => ?_⟩, fun q5 => ⟨fun _ => ?_, fun e => absurd e (by decide)⟩⟩
    · refine mb _ (fun e2 => by omega) (fun _ => ml _ (fun M7 i7 f7 => ?_))
      have fm := f7.cg0
      unfold w_X12_isOverfull
      rw [i7.1, fm 0 43 (by omega)]
      refine ⟨⟨by omega, by omega⟩, fun e => by omega, fun _ => ⟨fun e => absurd e (by decide), fun _ => ⟨rfl, ?_⟩⟩⟩
      exact hJ.ofWE h09 (hWE.cg (fun q j hq => g2 _ _ (by omega)) (fun q j hq => fm _ _ (by omega))) (by omega) (by rw [fm 6 0 (by omega)]; omega) (fun q j hq => f12 _ _ (by omega) (by omega)) (fun q j hq => fm _ _ (by omega))
    · have hlw : (sg M 24 0 (M 0 43).toNat).length = (M 0 43).toNat := sg_len _ _ _ _
      refine ⟨⟨by omega, by omega⟩, x8_write (s := 370 + 5) (q := 370 + 10) (D := D) (m := m) (q4.cg (g2 _ _ (by omega)) (fun i => g2 _ _ (by omega))) r2 (by omega) w7 w8 w9 (by rw [hlw]; omega) (by rw [show 370 + 10 + 1 = 370 + 11 by omega, w11]; omega) (by rw [g2 _ _ (by omega)]; exact q1.2.1) (kz_cs 370) (by omega) (fun C3 r3 a3 a8 a9 f3 => ?_)⟩
      have g3 : ∀ o j, 371 ≤ o ∧ o ≤ 374 → C3 o j = C o j := fun o j ho => by rw [f3 o j (by omega), g2 _ _ (by omega)]
      have fe : (fun i => C3 (370 + 1 + 2) (i % 64)) = (fun i => C (370 + 3) (i % 64)) := by
        funext i
        exact g3 _ _ (by omega)
      have tc3 : TC C3 (370 + 1) lo n := by
        obtain ⟨y1, y2, y3, y4⟩ := tc
        exact ⟨(g3 _ _ (by omega)).trans y1, (g3 _ _ (by omega)).trans y2, y3, y4⟩
      have t53 : C3 (370 + 1) 5 = sm (fun i => C3 (370 + 1 + 2) (i % 64)) lo n := by rw [fe, g3 _ 5 (by omega)]; exact t5
      have nn3 : ∀ i, lo ≤ i → i < lo + n → 0 ≤ C3 (370 + 1 + 2) (i % 64) := fun i a b => by rw [g3 _ _ (by omega)]; exact (hsz i a b).1
      refine x9_tooMany tc3 t53 nn3 (by rw [g3 _ 5 (by omega)]; omega) (by omega) (fun e2 he2 => ?_)
      rw [fe] at he2
      have hee : e2 = e := he2.un he
      subst hee
      unfold w_X9_changeCapacity
      refine x9_shrink (lim := v) tc3 t53 nn3 (by rw [g3 _ 5 (by omega)]; omega) (by omega) (fun e3 C4 he3 s5 s4 f4 => ?_)
      rw [fe] at he3 s5
      have hee3 : e3 = e2 := he3.un he2
      subst hee3
      intro C5 c5
      have f5 : ∀ o j, ¬ (o = 370 + 1 ∧ j = 6) → C5 o j = C4 o j := fun o j ho => by rw [c5]; simp only [hq_up]; rw [if_neg ho]
      have c56 : C5 (370 + 1) 6 = v := by rw [c5, up_self]
      have g5 : ∀ o j, ¬ ((o = 371 ∧ (j = 4 ∨ j = 5 ∨ j = 6))) → C5 o j = C3 o j := fun o j ho => by rw [f5 _ _ (by omega), f4 _ _ (by omega)]
      have outC : ∀ q j, ¬ ((q = 371 ∧ (j = 4 ∨ j = 5 ∨ j = 6)) ∨ q = 376 ∨ q = 377 ∨ (q = 375 ∧ j = 3) ∨ ((q = 378 ∨ q = 379) ∧ j = (D + m) % 256) ∨ q = 380 ∨ q = 381) → C5 q j = C q j := fun q j hq => by rw [g5 _ _ (by omega), f3 _ _ (by omega), f12 _ _ (by omega) (by omega)]
      refine mb _ (fun e2 => by omega) (fun _ => ml _ (fun M7 i7 f7 => ?_))
      have fm := f7.cg0
      unfold w_X12_isOverfull
      rw [i7.1, fm 0 43 (by omega)]
      refine ⟨⟨by omega, by omega⟩, fun _ => ⟨fun _ => ?_, fun e => absurd rfl e⟩, fun e => by omega⟩
      refine m_sendsOrder (w := (M 0 43).toNat) (m := m) i7 (by omega) (by rw [fm 0 43 (by omega)]; omega) (by rw [fm 0 47 (by omega)]; exact q1.2.2.1) (by omega) hmm (fun M9 p43 p24 p24' p25 p27 p26 p47 fp => ⟨by decide, fun M11 e11 => ?_⟩)
      have f11 : ∀ o j, ¬ (o = 8 ∧ j = 0) → M11 o j = M9 o j := fun o j ho => by rw [e11]; simp only [hq_up]; rw [if_neg ho]
      have o11 : ∀ o j, ¬ ((o = 8 ∧ j = 0) ∨ (o = 0 ∧ (j = 43 ∨ j = 47 ∨ j = 49)) ∨ o = 28 ∨ o = 24 ∨ ((o = 25 ∨ o = 26 ∨ o = 27) ∧ j = m)) → M11 o j = M o j := fun o j ho => by rw [f11 _ _ (by omega), fp _ _ (by omega), fm _ _ (by omega)]
      have hL11 : Lo6 M11 := fun g hg => by rw [o11 1 g (by omega), o11 2 g (by omega)]; exact hL g hg
      have ez : ∀ g, sz M11 g = sz M g := fun g => by unfold sz; rw [o11 1 _ (by omega), o11 2 _ (by omega)]
      have ees : es M11 0 = es M 0 := by funext i; unfold es; rw [ez, o11 10 _ (by omega)]
      have s8 : M11 8 0 = v := by rw [e11, up_self]
      refine m_makesRoom (t := 0) rfl (by decide) hL11 (by rw [o11 7 0 (by omega)]; exact m7) (by rw [o11 6 0 (by omega)]; exact m6) (by omega) (by rw [o11 9 0 (by omega), ees]; exact m9') (by rw [o11 9 0 (by omega)]; omega) (fun i a b => by rw [Nat.mul_zero, Nat.zero_add, o11 10 _ (by omega)]; have := hsz i a b; omega) (by rw [s8]; omega) (fun e4 M' he4 z9 z7 f4' => ?_)
      rw [s8, ees] at he4
      rw [ees] at z9
      have hee4 : e4 = e3 := he4.un he'
      subst hee4
      have outM : ∀ q j, ¬ ((q = 8 ∧ j = 0) ∨ (q = 0 ∧ (j = 43 ∨ j = 47 ∨ j = 49)) ∨ q = 28 ∨ q = 24 ∨ ((q = 25 ∨ q = 26 ∨ q = 27) ∧ j = m) ∨ ((q = 7 ∨ q = 9) ∧ j = 0)) → M' q j = M q j := fun q j hq => by rw [f4' _ _ (by omega), o11 _ _ (by omega)]
      have in9 : ∀ q j, ¬ ((q = 8 ∧ j = 0) ∨ ((q = 7 ∨ q = 9) ∧ j = 0)) → M' q j = M9 q j := fun q j hq => by rw [f4' _ _ (by omega), f11 _ _ (by omega)]
      have esm : sm (fun i => C (370 + 3) (i % 64)) (lo + e4) (n - e4) = sm (es M 0) (lo + e4) (n - e4) := sm_cg (fun i a b => (hsz i (by omega) (by have := he'.1; omega)).2.1)
      have hen := he'.1
      have hsl := he'.2.1
      have M'8 : M' 8 0 = v := by rw [f4' _ _ (by omega)]; exact s8
      have ez' : ∀ g, sz M' g = sz M g := fun g => by unfold sz; rw [outM 1 _ (by omega), outM 2 _ (by omega)]
      have hte : lo + e4 ≤ (M 0 23).toNat ∨ e4 = 0 := by
        rcases ht'.1 with h | h
        · right; omega
        · left; omega
      have hsgw : sg M 24 0 (M 0 43).toNat = sg M 24 0 (M 0 43).toNat := rfl
      have hnew : WE C5 M' 370 o2 (lo + e4) (n - e4) D (m + 1) 40 (8 * u + 1) := by
        refine ⟨⟨ho, .inl rfl, by decide, by omega, by omega, by omega⟩, ?_, ?_, ?_, ?_, ?_, ?_, ?_, ?_, ?_⟩
        · rw [outC _ _ (by omega)]; exact h4
        · exact hS.cg8 (fun q j hq => outC _ _ (by omega)) (fun q j hq => outM _ _ (by omega)) (by omega)
        · refine ⟨⟨?_, ?_, by omega, tc.2.2.2⟩, ⟨z7, ?_, ?_, ?_⟩, ?_, ?_, ?_, fun i a b => ?_⟩
          · rw [f5 _ _ (by omega)]; exact s4
          · rw [outC _ _ (by omega), tc.2.1]; congr 1; omega
          · rw [outM _ _ (by omega), m6]; congr 1; omega
          · rw [z9, f5 _ 5 (by omega), s5, esm]
          · rw [M'8, c56]
          · rw [f5 _ 5 (by omega), s5]
            exact sm_cg (fun i _ _ => (outC (370 + 3) _ (by omega)).symm)
          · rw [f5 _ 5 (by omega), s5, c56, esm]; omega
          · rw [c56]; omega
          · obtain ⟨g1, g2', g3'⟩ := ti i (by omega) (by omega)
            rw [outC (370 + 1 + 1) _ (by omega), outC (370 + 1 + 2) _ (by omega), outM 10 _ (by omega), outM 0 0 (by omega), ez']
            exact ⟨g1, g2', g3'⟩
        · intro i a b
          obtain ⟨y1, y2⟩ := hH i (by omega) (by omega)
          rw [outC _ _ (by omega)]
          refine ⟨y1, fun k hk => ?_⟩
          rw [y2 k hk]
          unfold hd
          rw [outM 0 25 (by omega), hb_cg (M' := M') (M := M) (outM _ _ (by omega)) (outM _ _ (by omega)) (fun j _ => outM _ _ (by omega)), mr_cg (M' := M') (M := M) (outM _ _ (by omega)) (fun j _ => outM _ _ (by omega))]
        · refine hQ0.push (a := 0) (b := v) (d := -1 - v) ol.1 (by omega) (by omega) (r3.cg (g5 _ _ (by omega)) (fun i => g5 _ _ (by omega))) (by rw [g5 _ _ (by omega), a3, g2 _ _ (by omega)]) (by rw [g5 _ _ (by omega)]; exact a8) (by rw [g5 _ _ (by omega)]; exact a9) (outC _ _ (by omega)) (fun j hj => ⟨outC _ _ (by omega), outC _ _ (by omega)⟩) (by rw [in9 _ _ (by omega), p43]; omega) (fun i hi => by rw [in9 _ _ (by omega)]; exact p24 i hi) (fun i hi => by rw [in9 _ _ (by omega), p24' i hi, fm _ _ (by omega)]) (by rw [in9 _ _ (by omega)]; exact p25) (by rw [in9 _ _ (by omega)]; exact p27) (by rw [in9 _ _ (by omega)]; exact p26) (by rw [in9 _ _ (by omega)]; exact p47) (fun o j ho => outM _ _ (by omega)) (outM _ _ (by omega)) (.inl ⟨rfl, by omega, by omega, rfl⟩)
        · rw [outC _ _ (by omega), outM _ _ (by omega)]; exact h5
        · rw [z7, outM 0 23 (by omega)]; omega
        · obtain ⟨s1, s2, s3, s4'⟩ := hSM
          unfold SM
          rw [outM 0 25 (by omega), outM 0 39 (by omega), outM 6 0 (by omega)]
          refine ⟨s1, fun k hk => ?_, s3, fun j hj => ?_⟩
          · rw [outM 17 k (by omega)]
            refine ⟨(s2 k hk).1, fun j hj => ?_⟩
            rw [outM 19 _ (by omega)]
            exact (s2 k hk).2 j hj
          · rw [outM 22 j (by omega)]
            exact s4' j hj
        · exact hDE.push (a := 0) (b := v) q1.2.2.1 (by rw [in9 _ _ (by omega)]; exact p47) (by rw [in9 _ _ (by omega)]; exact p25) (by rw [in9 _ _ (by omega)]; exact p27) (fun o j ho => outM _ _ (by omega)) (fun o j ho => outM _ _ (by omega)) (outM _ _ (by omega)) (outM _ _ (by omega)) (.inl ⟨rfl, M'8, outM _ _ (by omega)⟩)
      exact ⟨rfl, hJ.ofWE h09 hnew (by omega) (by rw [outM 6 0 (by omega)]; omega) (fun q j hq => outC _ _ (by omega)) (fun q j hq => outM _ _ (by omega))⟩
