/-! ===== the mathematics, part 23: feeds, the loop in lockstep ===== -/
theorem SS.szq {C M M2 : hq_M} {o f : Nat} (h : SS C o M) (g : SS C o M2) (hf : (f : Int) < M 0 0) (hf2 : (f : Int) < M2 0 0) : sz M2 f = sz M f := by
  obtain ⟨p1, p2, -, -⟩ := h.2.2.2.1.2 f hf
  obtain ⟨q1, q2, -, -⟩ := g.2.2.2.1.2 f hf2
  have a0 := h.1
  have b0 := g.1
  have a1 := nm_len h.2.2.1 (f := f) (by omega)
  have a2 := vl_len h.2.2.1 (f := f) (by omega)
  have b1 := nm_len g.2.2.1 (f := f) (by omega)
  have b2 := vl_len g.2.2.1 (f := f) (by omega)
  have c1 := p1.1
  have c2 := p2.1
  have c3 := q1.1
  have c4 := q2.1
  unfold sz
  omega
theorem FJ.toT3 {u i : Nat} {C M : hq_M} (h : FJ u i C M) (hu : 8 * u + 8 ≤ 800000) : T3 (M 6 1) C M ∧ NR M := by
  obtain ⟨-, -, -, hL, ⟨lo1, n1, hE, -, hb⟩, ⟨lo, n, hX, hxb⟩, -, hDE, hR, hK⟩ := h
  have e1 := hX.2.1.2.1
  have e2 := hX.1.2.1
  have e3 := hE.2.1.2.1
  have eq : hq_up M 6 1 (M 6 1) = M := by
    funext o j
    by_cases q : o = 6 ∧ j = 1
    · rw [q.1, q.2, up_self]
    · exact up61 q
  refine ⟨⟨by rw [eq]; exact hL, hR, hK, by rw [e2, e1], by omega, by omega⟩, fun k hk => (hL.2.2.2.2 k hk).2.2.2.2.2.2.2.2.2.2.2⟩
theorem FJ.two {u i D m lo n o : Nat} {C M M2 : hq_M} (g : FJ u i C M2) (hq : SQi C M D (m + 1) i) (hX : TB C M 385 1 lo n) (ho : C 0 9 = (o : Int)) (hS : SS C o M) : SQi C M2 D (m + 1) i ∧ D + m + 1 ≤ 8 * u ∧ (TB C M2 385 1 lo n ∧ lo + n ≤ 800000) ∧ SS C o M2 ∧ DE M2 ∧ M2 26 0 = M 26 0 ∧ M2 25 0 = M 25 0 ∧ M2 27 0 = M 27 0 ∧ (∀ j, lo ≤ j → j < lo + n → es M2 1 j = es M 1 j) ∧ M2 8 1 = M 8 1 ∧ M2 0 0 = M 0 0 ∧ 1 ≤ M 26 0 ∧ M 26 0 ≤ 200 := by
  obtain ⟨-, -, ⟨o2, -, s1, -, -, s4⟩, -, -, ⟨lo2, n2, hX2, hxb⟩, ⟨D2, m2, hq2, hb⟩, hDE, -, -⟩ := g
  have eo : o = o2 := by omega
  subst eo
  obtain ⟨a1, a2, -, -⟩ := hq.1
  obtain ⟨b1, b2, -, -⟩ := hq2.1
  obtain ⟨c1, c2, -⟩ := hX.1
  obtain ⟨d1, d2, -⟩ := hX2.1
  have eD : D = D2 := by omega
  subst eD
  have em : m2 = m + 1 := by omega
  subst em
  have el : lo = lo2 := by omega
  subst el
  have en : n = n2 := by omega
  subst en
  obtain ⟨f1, f2⟩ := hq.2.2.2.2 0 (by omega)
  obtain ⟨g1, g2⟩ := hq2.2.2.2.2 0 (by omega)
  have h1 := hq.2.2.2.1 0 (by omega)
  have hsz := hX.szs hS
  have hsz2 := hX2.szs s4
  have l26 : M 26 0 ≤ 200 := by
    have g5 := hq.2.2.1
    have g6 := hq.2.2.2.1
    have g3 := hq.2.1.2.1
    rw [sm] at g5
    have := sm_nn (f := fun j => M 26 j) (lo := 0 + 1) (n := m) (fun j a b => by have := g6 j (by omega); omega)
    omega
  exact ⟨hq2, by omega, ⟨hX2, hxb⟩, s4, hDE, by omega, by omega, by omega, fun j x y => (hsz2 j x y).2.1.symm.trans (hsz j x y).2.1, hX2.2.1.2.2.2.trans hX.2.1.2.2.2.symm, s4.2.2.2.1.1.symm.trans hS.2.2.2.1.1, h1, l26⟩
theorem feeds_loop {u t : Nat} {x : Int} (hx : x = (t : Int)) (hu : 8 * u + 8 ≤ 800000) (kr : Int → hq_M → Prop) (d : Nat) : ∀ (i : Nat) (z : Int) (C M : hq_M) (kc : hq_M → Prop), z = (i : Int) → i + d = t → FJ u i C M → (t : Int) ≤ M 0 43 → (∀ C', (∃ M', FJ u t C' M' ∧ M' 0 43 = M 0 43) → (∀ M2, FJ u i C M2 → (t : Int) ≤ M2 0 43 → ∀ (y : Int) (k66 k : Int → hq_M → Prop), 0 ≤ y → y ≤ (i : Int) → (∀ M', FJ u t C' M' → M' 0 43 = M2 0 43 → k66 (y + (C' 375 4 - C 375 4)) M') → l_X12_feeds_28 x k66 k (d + 1) y z M2) → kc C') → l_X11_feeds_45 x kc kr (d + 1) z C := by
  induction d with
  | zero =>
    intro i z C M kc hz hd hF hl hk
    have hit : i = t := by omega
    subst hit
    rw [l_X11_feeds_45]
    refine ⟨fun _ => hk C ⟨M, hF, rfl⟩ (fun M2 hF2 hl2 y k66 k hy hyi hk66 => ?_), fun q => by omega⟩
    have := hk66 M2 hF2 rfl
    rw [show y + (C 375 4 - C 375 4) = y by omega] at this
    rw [l_X12_feeds_28]
    exact ⟨fun _ => this, fun q => by omega⟩
  | succ d ih =>
    intro i z C M kc hz hd hF hl hk
    have hF0 := hF
    obtain ⟨-, -, ⟨o, ho, s1, -, -, s4⟩, hL, ⟨loE, nE, hE, -, hEb⟩, ⟨lo, n, hX, hxb⟩, ⟨D, m0, hq0, hb0⟩, hDE, -, -⟩ := hF
    have l43 := hq0.2.1.2.1
    have a1 := hq0.1.1
    obtain ⟨m, rfl⟩ : ∃ m, m0 = m + 1 := by
      cases m0 with
      | zero =>
        have := hq0.2.2.1
        rw [sm] at this
        omega
      | succ m => exact ⟨m, rfl⟩
    have tw := fun (M2 : hq_M) (g : FJ u i C M2) => g.two hq0 hX s1 s4
    have hitem := hq0.2.2.2.2 0 (by omega)
    have one := (tw M hF0).2.2.2.2.2.2.2.2.2.2.2
    have hmany := hq0.many
    rw [l_X11_feeds_45]
    refine ⟨fun q => by omega, fun _ => fun o2 e2 => ?_⟩
    have eo : o = o2 := by rw [e2, s1]; omega
    subst eo
    refine x8_deliver hq0 hX ho s4 hDE (fun h2 C' c9 hC => ?_) (fun h26 h25 e C' he c1 c2 c3 c4 hC => ?_) (fun h26 h25 hsz e C1 he c1 c3 c4 c5 c6 c7 hC => ?_)
    · refine ⟨fun _ => ?_, fun e => absurd rfl e⟩
      unfold b_X11_feeds_86
      refine ⟨⟨by omega, by omega⟩, fun x1 e1 => ih (i + 1) x1 C' (hq_up M 26 0 (M 26 0 - 1)) kc (by omega) (by omega) (hF0.stepA hq0 (by omega) h2 c9 hC (up_self _ _ _ _) (fun q j hq => by simp only [hq_up]; rw [if_neg hq])) (by rw [hq_up_n _ _ (by omega)]; exact hl) (fun C2 hex hre => hk C2 ?_ (fun M2 hF2 hl2 y k66 k hy hyi hk66 => ?_))⟩
      · obtain ⟨Mx, g1, g2⟩ := hex
        exact ⟨Mx, g1, by rw [g2, hq_up_n _ _ (by omega)]⟩
      · obtain ⟨q2, b2, -, -, -, r26, -⟩ := tw M2 hF2
        rw [l_X12_feeds_28]
        refine ⟨fun q => by omega, fun _ => ⟨by decide, ⟨by omega, by omega⟩, by decide, fun M5 e5 => ?_⟩⟩
        have f5 : ∀ q j, ¬ (q = 26 ∧ j = 0) → M5 q j = M2 q j := fun q j ho => by rw [e5]; simp only [hq_up]; rw [if_neg ho]
        have s5 : M5 26 0 = M2 26 0 - 1 := by rw [e5, up_self]
        refine ⟨by decide, fun _ => ?_, fun q5 => by omega⟩
        unfold b_X12_feeds_60
        refine ⟨⟨by omega, by omega⟩, fun x1' e1' => ?_⟩
        rw [show x1' = x1 by omega]
        refine hre M5 (hF2.stepA q2 b2 (by omega) (by rw [c9, r26]) hC s5 f5) (by rw [f5 _ _ (by omega)]; exact hl2) y k66 k hy (by omega) (fun M' g1 g2 => ?_)
        have := hk66 M' g1 (g2.trans (f5 0 43 (by omega)))
        rw [hC 375 4 (by omega)]
        exact this
    · have hv : 0 ≤ M 27 0 ∧ M 27 0 ≤ 200 := by omega
      have hen := he.1
      obtain ⟨Mw, hMw⟩ : ∃ Mw : hq_M, Mw = fun o j => if o = 7 ∧ j = 1 then ((lo + e : Nat) : Int) else if o = 9 ∧ j = 1 then sm (es M 1) (lo + e) (n - e) else if o = 8 ∧ j = 1 then M 27 0 else if o = 0 ∧ j = 47 then (m : Int) else if 25 ≤ o ∧ o ≤ 27 then M o (j + 1) else M o j := ⟨_, rfl⟩
      have gw : ∀ o j, ¬ ((25 ≤ o ∧ o ≤ 27) ∨ (o = 0 ∧ j = 47) ∨ ((o = 7 ∨ o = 8 ∨ o = 9) ∧ j = 1)) → Mw o j = M o j := by
        intro o j hoj
        rw [hMw]
        show (if o = 7 ∧ j = 1 then ((lo + e : Nat) : Int) else _) = _
        rw [if_neg (by omega), if_neg (by omega), if_neg (by omega), if_neg (by omega), if_neg (by omega)]
      have hFw : FJ u (i + 1) C' Mw := by
        refine hF0.stepB hq0 (by omega) hX hxb h26 h25 hv he c1 c2 c3 c4 hC (by rw [hMw]; simp) (by rw [hMw]; simp) (by rw [hMw]; simp) (by rw [hMw]; simp) (fun a j h1 h2 hj => ?_) gw
        rw [hMw]
        show (if a = 7 ∧ j = 1 then ((lo + e : Nat) : Int) else _) = _
        rw [if_neg (by omega), if_neg (by omega), if_neg (by omega), if_neg (by omega), if_pos ⟨h1, h2⟩]
      refine ⟨fun e => absurd e (by decide), fun _ => ?_⟩
      obtain ⟨t3, nr⟩ := hFw.toT3 hu
      refine dec_none t3 nr ?_
      unfold b_X11_feeds_86
      refine ⟨⟨by omega, by omega⟩, fun x1 e1 => ih (i + 1) x1 C' Mw kc (by omega) (by omega) hFw (by rw [gw _ _ (by omega)]; exact hl) (fun C2 hex hre => hk C2 ?_ (fun M2 hF2 hl2 y k66 k hy hyi hk66 => ?_))⟩
      · obtain ⟨Mx, g1, g2⟩ := hex
        exact ⟨Mx, g1, by rw [g2, gw _ _ (by omega)]⟩
      · obtain ⟨q2, b2, ⟨X2, xb2⟩, S2, DE2, r26, r25, r27, res, r8, r0, -⟩ := tw M2 hF2
        rw [l_X12_feeds_28]
        refine ⟨fun q => by omega, fun _ => ⟨by decide, ⟨by omega, by omega⟩, by decide, fun M5 e5 => ?_⟩⟩
        have f5 : ∀ q j, ¬ (q = 26 ∧ j = 0) → M5 q j = M2 q j := fun q j ho => by rw [e5]; simp only [hq_up]; rw [if_neg ho]
        have s5 : M5 26 0 = M2 26 0 - 1 := by rw [e5, up_self]
        refine ⟨by decide, fun q5 => absurd (by omega) q5, fun _ => ?_⟩
        have es5 : es M5 1 = es M2 1 := by
          funext j
          unfold es sz
          rw [f5 10 _ (by omega), f5 1 _ (by omega), f5 2 _ (by omega)]
        have hs2 := X2.szs S2
        have hS0 := S2.1
        have X2' := X2
        obtain ⟨tc, ⟨m7, m6, m9, m8⟩, t5, tle, tcap, ti⟩ := X2'
        have m9' : M2 9 1 = sm (es M2 1) lo n := by rw [m9, t5]; exact sm_cg (fun j a b => (hs2 j a b).2.1)
        refine m_does_cap (m := m) (lo := lo) (n := n) (by rw [f5 _ _ (by omega)]; omega) (by rw [f5 _ _ (by omega)]; exact q2.1.2.2.1) (by omega) (fun g hg => by rw [f5 1 g (by omega), f5 2 g (by omega)]; exact S2.2.2.1 g hg) (by rw [f5 _ _ (by omega)]; exact m7) (by rw [f5 _ _ (by omega)]; exact m6) (by omega) (by rw [f5 _ _ (by omega), es5]; exact m9') (by rw [f5 _ _ (by omega)]; omega) (fun j a b => by rw [f5 _ _ (by omega)]; have := hs2 j a b; omega) (by rw [f5 _ _ (by omega)]; omega) (fun e' M8 he' p7 p9 p8 p47 psh fp => ?_)
        rw [f5 27 0 (by omega), es5] at he'
        rw [es5] at p9
        rw [f5 27 0 (by omega)] at p8
        have he2 := he'
        rw [r27] at he'
        have ee : e = e' := IsEv.un (he.cg (fun j a b => (res j a b).symm)) he'
        subst ee
        have hF8 : FJ u (i + 1) C' M8 := hF2.stepB q2 b2 X2 xb2 (by omega) (by omega) (by omega) he2 c1 c2 (by rw [c3]; exact sm_cg (fun j a b => (res j (by omega) (by omega)).symm)) (by rw [c4, r27]) hC p7 p9 p8 p47 (fun a j h1 h2 hj => by rw [psh a j h1 h2 hj, f5 _ _ (by omega)]) (fun o j ho => by rw [fp _ _ (by omega), f5 _ _ (by omega)])
        refine ⟨⟨by omega, by omega⟩, fun x9 e9 => ?_⟩
        unfold b_X12_feeds_60
        refine ⟨⟨by omega, by omega⟩, fun x1' e1' => ?_⟩
        rw [show x1' = x1 by omega]
        refine hre M8 hF8 (by rw [fp _ _ (by omega), f5 _ _ (by omega)]; exact hl2) x9 k66 k (by omega) (by omega) (fun M' g1 g2 => ?_)
        have := hk66 M' g1 (g2.trans ((fp 0 43 (by omega)).trans (f5 0 43 (by omega))))
        rw [show x9 + (C2 375 4 - C' 375 4) = y + (C2 375 4 - C 375 4) by omega]
        exact this
    · have hf : 0 ≤ M 27 0 ∧ M 27 0 < M 0 0 := by omega
      have hen := he.1
      have e61 := hX.2.1.2.1
      have e60 := hE.2.1.2.1
      have h47 := hq0.1.2.2.1
      have hcn : 1 ≤ cn (fun i => decide (M 25 i = 1)) (M 0 47).toNat := by
        rw [show (M 0 47).toNat = m + 1 by omega, cn_shift]
        simp [h25]
      have hde3 := hDE.2.2
      have l25 := hL.2.1
      obtain ⟨M5w, h5w⟩ : ∃ M5 : hq_M, M5 = fun o j => if o = 9 ∧ j = 1 then sm (es M 1) (lo + e) (n - e) + sz M (M 27 0).toNat else if o = 7 ∧ j = 1 then ((lo + e : Nat) : Int) else if o = 6 ∧ j = 1 then ((lo + n + 1 : Nat) : Int) else if o = 10 ∧ j = 64 * 1 + (lo + n) % 64 then M 27 0 else M o j := ⟨_, rfl⟩
      have fw : ∀ o j, ¬ ((o = 6 ∨ o = 7 ∨ o = 9) ∧ j = 1) → ¬ (o = 10 ∧ j = 64 * 1 + (lo + n) % 64) → M5w o j = M o j := by
        intro o j h1 h2
        rw [h5w]
        show (if o = 9 ∧ j = 1 then sm (es M 1) (lo + e) (n - e) + sz M (M 27 0).toNat else _) = _
        rw [if_neg (by omega), if_neg (by omega), if_neg (by omega), if_neg (by omega)]
      have w6 : M5w 6 1 = ((lo + n + 1 : Nat) : Int) := by rw [h5w]; simp
      have t3w : T3 (M 6 1) C1 M5w := hF0.stepC1 hX hxb c3 (fun q j hq => hC q j (by omega)) w6 (fun o j h1 h2 _ => fw o j h1 (by omega))
      have hcw : ∀ M3 : hq_M, M3 0 25 ≤ 40 → cn (fun i => decide (M3 15 i = 1)) (M3 0 25).toNat ≤ 40 := fun M3 h3 => by
        have := cn_le (fun i => decide (M3 15 i = 1)) (M3 0 25).toNat
        omega
      refine ⟨fun e => absurd e (by decide), fun _ => ?_⟩
      unfold w_X5_decodeBlocked
      refine ⟨41, dec_sim (M 6 1) 40 0 C1 _ M5w (by decide) (by decide) t3w (hcw M5w (by rw [fw _ _ (by omega) (by omega)]; omega)) (fun C' fC hex5 hre5 => ?_)⟩
      obtain ⟨M7w, t7w, f7w, nr7w⟩ := hex5
      obtain ⟨M8w, h8w⟩ : ∃ M8 : hq_M, M8 = fun o j => if o = 0 ∧ j = 47 then (m : Int) else if 25 ≤ o ∧ o ≤ 27 then M7w o (j + 1) else M7w o j := ⟨_, rfl⟩
      have gw : ∀ o j, ¬ ((25 ≤ o ∧ o ≤ 27) ∨ (o = 0 ∧ j = 47)) → M8w o j = M7w o j := by
        intro o j hoj
        rw [h8w]
        show (if o = 0 ∧ j = 47 then (m : Int) else _) = _
        rw [if_neg (by omega), if_neg (by omega)]
      have hFw : FJ u (i + 1) C' M8w := by
        refine hF0.stepC2 hq0 (by omega) hX (by omega) h26 h25 hf he c1 c3 c4 c5 c6 c7 hC (by rw [h5w]; simp) (by rw [h5w]; simp) w6 (by rw [h5w]; simp) (fun o j h1 h2 _ => fw o j h1 h2) t7w nr7w fC f7w (by rw [h8w]; simp) (fun a j h1 h2 hj => ?_) gw
        rw [h8w]
        show (if a = 0 ∧ j = 47 then (m : Int) else _) = _
        rw [if_neg (by omega), if_pos ⟨h1, h2⟩]
      have h43w : M8w 0 43 = M 0 43 := by rw [gw _ _ (by omega), f7w _ _ (by omega), fw _ _ (by omega) (by omega)]
      have c1' : C' 375 4 = ((D + 1 : Nat) : Int) := by rw [fC _ _ (by omega)]; exact c1
      unfold b_X11_feeds_86
      refine ⟨⟨by omega, by omega⟩, fun x1 e1 => ih (i + 1) x1 C' M8w kc (by omega) (by omega) hFw (by rw [h43w]; exact hl) (fun C2 hex hre => hk C2 ?_ (fun M2 hF2 hl2 y k66 k hy hyi hk66 => ?_))⟩
      · obtain ⟨Mx, g1, g2⟩ := hex
        exact ⟨Mx, g1, by rw [g2, h43w]⟩
      · obtain ⟨q2, b2, ⟨X2, xb2⟩, S2, DE2, r26, r25, r27, res, r8, r0, -⟩ := tw M2 hF2
        have hL2 := hF2.2.2.2.1.2.1
        have hszq : sz M2 (M 27 0).toNat = sz M (M 27 0).toNat := s4.szq S2 (by omega) (by omega)
        have hsz2 : sz M2 (M2 27 0).toNat = sz M (M 27 0).toNat := by rw [r27]; exact hszq
        rw [l_X12_feeds_28]
        refine ⟨fun q => by omega, fun _ => ⟨by decide, ⟨by omega, by omega⟩, by decide, fun M3 e3 => ?_⟩⟩
        have f3 : ∀ q j, ¬ (q = 26 ∧ j = 0) → M3 q j = M2 q j := fun q j ho => by rw [e3]; simp only [hq_up]; rw [if_neg ho]
        have s3 : M3 26 0 = M2 26 0 - 1 := by rw [e3, up_self]
        refine ⟨by decide, fun q5 => absurd (by omega) q5, fun _ => ?_⟩
        have sz3 : ∀ f, sz M3 f = sz M2 f := fun f => by
          unfold sz
          rw [f3 1 _ (by omega), f3 2 _ (by omega)]
        have es3 : es M3 1 = es M2 1 := by
          funext j
          unfold es
          rw [f3 10 _ (by omega), sz3]
        have hs2 := X2.szs S2
        have hS0 := S2.1
        have X2' := X2
        obtain ⟨tc, ⟨m7, m6, m9, m8⟩, t5, tle, tcap, ti⟩ := X2'
        have m9' : M2 9 1 = sm (es M2 1) lo n := by rw [m9, t5]; exact sm_cg (fun j a b => (hs2 j a b).2.1)
        refine m_does_ins (lo := lo) (n := n) (by rw [f3 _ _ (by omega)]; omega) (fun g hg => by rw [f3 1 g (by omega), f3 2 g (by omega)]; exact S2.2.2.1 g hg) (by rw [f3 _ _ (by omega)]; exact m7) (by rw [f3 _ _ (by omega)]; exact m6) (by omega) (by rw [f3 _ _ (by omega), es3]; exact m9') (by rw [f3 _ _ (by omega)]; omega) (fun j a b => by rw [f3 _ _ (by omega)]; have := hs2 j a b; omega) (by rw [f3 _ _ (by omega)]; omega) (by rw [f3 27 0 (by omega), f3 8 1 (by omega), sz3, hsz2]; omega) (fun e' M5 he' p9 p7 p6 p10 fp => ?_)
        rw [f3 27 0 (by omega), f3 8 1 (by omega), es3, sz3] at he'
        rw [f3 27 0 (by omega), es3, sz3] at p9
        rw [f3 27 0 (by omega)] at p10
        have he2 := he'
        rw [r8, hsz2] at he'
        have ee : e = e' := IsEv.un (he.cg (fun j a b => (res j a b).symm)) he'
        subst ee
        have fp' : ∀ o j, ¬ ((o = 6 ∨ o = 7 ∨ o = 9) ∧ j = 1) → ¬ (o = 10 ∧ j = 64 * 1 + (lo + n) % 64) → ¬ (o = 26 ∧ j = 0) → M5 o j = M2 o j := fun o j h1 h2 h3 => by rw [fp o j h1 h2, f3 _ _ h3]
        have r61 : M2 6 1 = M 6 1 := by rw [m6, e61]
        have t5' : T3 (M2 6 1) C1 M5 := hF2.stepC1 X2 xb2 c3 (fun q j hq => hC q j (by omega)) p6 (fun o j h1 h2 h3 => fp' o j h1 (by omega) h3)
        unfold w_X12_readsAll
        refine hre5 M5 (by rw [← r61]; exact t5') (hcw M5 (by rw [fp' _ _ (by omega) (by omega) (by omega)]; omega)) _ (fun M7 t7 f7 nr7 => ?_) _ (fun x hx => ⟨41, hx⟩)
        refine m_pop (m := m) (by rw [f7 _ _ (by omega), fp' _ _ (by omega) (by omega) (by omega)]; exact q2.1.2.2.1) (by omega) (fun M8 p47 psh fpp => ?_)
        have hF8 : FJ u (i + 1) C' M8 := hF2.stepC2 q2 b2 X2 (by omega) (by omega) (by omega) (by omega) he2 c1 c3 c4 (by rw [c5, hsz2]; congr 1; exact sm_cg (fun j a b => (res j (by omega) (by omega)).symm)) (by rw [c6, r27]) (by rw [c7, hsz2]) hC p9 p7 p6 p10 fp' (by rw [r61]; exact t7) nr7 fC f7 p47 psh fpp
        have h43 : M8 0 43 = M2 0 43 := by rw [fpp _ _ (by omega), f7 _ _ (by omega), fp' _ _ (by omega) (by omega) (by omega)]
        refine ⟨⟨by omega, by omega⟩, fun x9 e9 => ?_⟩
        unfold b_X12_feeds_60
        refine ⟨⟨by omega, by omega⟩, fun x1' e1' => ?_⟩
        rw [show x1' = x1 by omega]
        refine hre M8 hF8 (by rw [h43]; exact hl2) x9 k66 k (by omega) (by omega) (fun M' g1 g2 => ?_)
        have := hk66 M' g1 (g2.trans h43)
        rw [show x9 + (C2 375 4 - C' 375 4) = y + (C2 375 4 - C 375 4) by omega]
        exact this
