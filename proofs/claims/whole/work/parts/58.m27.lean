/-! ===== the mathematics, part 27: one field of a section, both sides ===== -/
theorem Rw.un {C : hq_M} {a : Nat} {xs ys : List Int} (h : Rw C a xs) (g : Rw C a ys) : xs = ys := by
  have h1 := h.1
  have g1 := g.1
  exact ls_ext (by omega) (fun i hi => by rw [← h.2 i hi, ← g.2 i (by omega)])
theorem WE.two {C M M2 : hq_M} {W o lo n D m D2 m2 c B : Nat} (h : WE C M W o lo n D m c B) (g : WE C M2 W o lo n D2 m2 c B) : M2 0 0 = M 0 0 ∧ M2 0 1 = M 0 1 ∧ (∀ f : Nat, (f : Int) < M 0 0 → nm M2 f = nm M f ∧ vl M2 f = vl M f ∧ sz M2 f = sz M f) ∧ (∀ i : Nat, (i : Int) < M 0 1 → nm M2 (8 + i) = nm M (8 + i) ∧ vl M2 (8 + i) = vl M (8 + i)) ∧ (∀ i, lo ≤ i → i < lo + n → M2 10 (i % 64) = M 10 (i % 64) ∧ es M2 0 i = es M 0 i ∧ held M2 i = held M i) ∧ M2 8 0 = M 8 0 ∧ M2 0 23 = M 0 23 ∧ M2 0 43 = M 0 43 ∧ sg M2 24 0 (M2 0 43).toNat = sg M 24 0 (M 0 43).toNat := by
  have hs := h.szs
  have gs := g.szs
  obtain ⟨⟨ho, hW, hc40, b1, b2, b3⟩, h4, hS, hT, hH, hQ, h5, hkn, hSM, hDE⟩ := h
  obtain ⟨-, g4, gS, gT, gH, gQ, g5, gkn, gSM, gDE⟩ := g
  have e00 : M2 0 0 = M 0 0 := gS.2.2.2.1.1.symm.trans hS.2.2.2.1.1
  have e01 : M2 0 1 = M 0 1 := gS.2.2.2.2.1.1.symm.trans hS.2.2.2.2.1.1
  have e24 := gQ.2.1.2.2.un hQ.2.1.2.2
  have x1 := hQ.2.1.2.2.1
  have x2 := gQ.2.1.2.2.1
  rw [sg_len] at x1 x2
  have y1 := hQ.2.1.1
  have y2 := gQ.2.1.1
  refine ⟨e00, e01, fun f hf => ?_, fun i hi => ?_, fun i a b => ⟨?_, ?_, ?_⟩, gT.2.1.2.2.2.trans hT.2.1.2.2.2.symm, by omega, by omega, e24⟩
  · obtain ⟨p1, p2, -, -⟩ := hS.2.2.2.1.2 f hf
    obtain ⟨q1, q2, -, -⟩ := gS.2.2.2.1.2 f (by omega)
    exact ⟨q1.un p1, q2.un p2, hS.szq gS hf (by omega)⟩
  · obtain ⟨p1, p2, -, -⟩ := hS.2.2.2.2.1.2 i hi
    obtain ⟨q1, q2, -, -⟩ := gS.2.2.2.2.1.2 i (by omega)
    exact ⟨q1.un p1, q2.un p2⟩
  · exact (gs i a b).2.2.1.symm.trans (hs i a b).2.2.1
  · exact (gs i a b).2.1.symm.trans (hs i a b).2.1
  · have l1 := hSM.1
    have l2 := gSM.1
    have r1 := hH.fr (by omega) hc40 a b
    have r2 := gH.fr (by omega) hc40 a b
    have r3 := r1.symm.trans r2
    cases p : held M i <;> cases q : held M2 i <;> simp_all
theorem FI.two {C M M2 : hq_M} {W o lo n D m D2 m2 c B f : Nat} {x3 x7 : Int} (h : WE C M W o lo n D m c B) (g : WE C M2 W o lo n D2 m2 c B) (hf : (f : Int) < M 0 0) (hfi : FI M lo n f x3 x7) : FI M2 lo n f x3 x7 := by
  obtain ⟨t00, t01, tf, ts, ti, t8, t23, t43, t24⟩ := h.two g
  have hs := h.szs
  obtain ⟨a1, a2⟩ := hfi
  refine ⟨?_, IsHi.cg (fun i a b => ?_) a2⟩
  · rw [t01]
    exact IsLo.cg (fun i hi => by rw [(ts i (by omega)).1, (tf f hf).1]) a1
  · have := hs i (by omega) (by omega)
    rw [(ti i (by omega) (by omega)).1, (tf _ (by omega)).1, (tf f hf).1]
theorem IOx.two {C M M2 : hq_M} {W o lo n D m D2 m2 c B f e : Nat} {r : Int} {xs : List Int} (h : WE C M W o lo n D m c B) (g : WE C M2 W o lo n D2 m2 c B) (hf : (f : Int) < M 0 0) (hio : IOx M lo n f r e xs) : IOx M2 lo n f r e xs := by
  obtain ⟨t00, t01, tf, ts, ti, t8, t23, t43, t24⟩ := h.two g
  unfold IOx
  rw [(tf f hf).2.2, t8, t23, t43]
  rcases hio with h1 | ⟨h1, t, he, ht, hh⟩
  · exact .inl h1
  · exact .inr ⟨h1, t, he.cg (fun i a b => (ti i a b).2.1.symm), ht.cg (fun i a b => by rw [(ti i a (by omega)).2.2]), hh⟩
theorem ins_two {C M M2 : hq_M} {W o lo n D m D2 m2 c B f : Nat} {x3 x7 cnt : Int} (h : WE C M W o lo n D m c B) (g : WE C M2 W o lo n D2 m2 c B) (hf : (f : Int) < M 0 0) : ins M2 f x3 x7 cnt = ins M f x3 x7 cnt := by
  obtain ⟨t00, t01, tf, -⟩ := h.two g
  unfold ins
  rw [(tf f hf).1, (tf f hf).2.1]
theorem FE.two {C M M2 : hq_M} {W o lo n D m D2 m2 c B f : Nat} {base any gr ref : Int} {xs : List Int} {q : Option (Nat × List Int)} (h : WE C M W o lo n D m c B) (g : WE C M2 W o lo n D2 m2 c B) (hf : (f : Int) < M 0 0) (hfe : FE M lo n f base any gr ref xs q) : FE M2 lo n f base any gr ref xs q := by
  have hs := h.szs
  have hi2 := fun x3 x7 cnt => ins_two (x3 := x3) (x7 := x7) (cnt := cnt) h g hf
  have fi2 := fun x3 x7 (hh : FI M lo n f x3 x7) => hh.two h g hf
  have io2 := fun r e is (hh : IOx M lo n f r e is) => hh.two h g hf
  obtain ⟨t00, t01, tf, ts, ti, t8, t23, t43, t24⟩ := h.two g
  obtain ⟨en, ev, -⟩ := tf f hf
  have etp : tpv M2 lo n any = tpv M lo n any := by unfold tpv; rw [t23]
  have s3 : ∀ x, SL3 M f x → SL3 M2 f x := fun x hx => by
    unfold SL3
    rw [t01]
    exact IsLo.cg (fun i hi => by rw [(ts i (by omega)).1, (ts i (by omega)).2, en, ev]) hx
  have n3 : ∀ x, SN3 M f x → SN3 M2 f x := fun x hx => by
    unfold SN3
    rw [t01]
    exact IsLo.cg (fun i hi => by rw [(ts i (by omega)).1, en]) hx
  have lk : ∀ x, LKH M lo n f (tpv M lo n any) x → LKH M2 lo n f (tpv M2 lo n any) x := fun x hx => by
    rw [etp]
    exact IsHi.cg (fun i a b => by rw [(ti i (by omega) (by omega)).1]) hx
  have nh : ∀ x, NMH M lo n f (tpv M lo n any) x → NMH M2 lo n f (tpv M2 lo n any) x := fun x hx => by
    rw [etp]
    refine IsHi.cg (fun i a b => ?_) hx
    have := hs i (by omega) (by omega)
    rw [(ti i (by omega) (by omega)).1, (tf _ (by omega)).1, en]
  have en2 : ∀ y3 y7, nameO M2 f base y3 y7 = nameO M f base y3 y7 := fun y3 y7 => by unfold nameO; rw [en, ev]
  rcases hfe with ⟨x3, k1, k2⟩ | ⟨k1, ⟨k2, k3, k4⟩ | ⟨k2, ⟨k3, x3, x7, e, a1, a2, a3, a4, a5⟩ | ⟨hno, k5, y3, y7, a1, a2, a3, a4⟩⟩⟩
  · exact .inl ⟨x3, s3 _ k1, k2⟩
  · exact .inr ⟨s3 _ k1, .inl ⟨k2, lk _ k3, k4⟩⟩
  · exact .inr ⟨s3 _ k1, .inr ⟨lk _ k2, .inl ⟨k3, x3, x7, e, fi2 _ _ a1, by rw [hi2]; exact io2 _ _ _ a2, a3, a4, by rw [hi2]; exact a5⟩⟩⟩
  · refine .inr ⟨s3 _ k1, .inr ⟨lk _ k2, .inr ⟨?_, k5, y3, y7, n3 _ a1, nh _ a2, by rw [en2]; exact a3, a4⟩⟩⟩
    rcases hno with g0 | ⟨x3, x7, r, e, c1, c2, c3⟩
    · exact .inl g0
    · exact .inr ⟨x3, x7, r, e, fi2 _ _ c1, by rw [hi2]; exact io2 _ _ _ c2, c3⟩
theorem CQ.two {C C1 M M2 : hq_M} {W o lo n D m D2 m2 c B f : Nat} {q : Option (Nat × List Int)} (h : WE C M W o lo n D m c B) (g : WE C M2 W o lo n D2 m2 c B) (hs : D + m = D2 + m2) (hf : (f : Int) < M 0 0) (hq : CQ C C1 M W lo n D m f q) : CQ C C1 M2 W lo n D2 m2 f q := by
  obtain ⟨t00, t01, tf, ts, ti, t8, t23, t43, t24⟩ := h.two g
  unfold CQ CIp at hq ⊢
  rw [(tf f hf).2.2, t24, ← hs]
  exact hq
theorem hold_rel {C1 M1 C' M' : hq_M} {W L o lo n D m c B i : Nat} {ref : Int} {ys xs : List Int} (h : WE C1 M1 W o lo n D m c B) (hL : LW W L c) (hCF : CF C1 C' W L c ref ys xs) (hMF : MF M1 M' i ref ys xs) (h39 : M1 0 39 = (i : Int)) (hi : i < 6) (hr : ref < 0 ∨ ((lo : Int) ≤ ref ∧ ref < ((lo + n : Nat) : Int))) : WE C' M' W o lo n D m c B := by
  unfold LW at hL
  have hn50 := TBn h
  obtain ⟨⟨ho, hW, hc40, b1, b2, b3⟩, h4, hS, hT, hH, hQ, h5, hkn, hSM, hDE⟩ := h
  obtain ⟨-, c2, c3, fC⟩ := hCF
  obtain ⟨m1, m2, -, fM⟩ := hMF
  have m60 := hT.2.1.2.1
  refine ⟨⟨ho, hW, hc40, b1, b2, b3⟩, by rw [fC _ _ (by omega)]; exact h4, hS.cg (fun q j hq => fC _ _ (by omega)) (fun q j hq => fM _ _ (by omega)), hT.cg (fun q j hq => fC _ _ (by omega)) (fun q j hq => fM _ _ (by omega)), ?_, hQ.cg (fun q j hq => fC _ _ (by omega)) (fun q j hq => fM _ _ (by omega)), by rw [fC _ _ (by omega), fM _ _ (by omega)]; exact h5, by rw [fM 7 0 (by omega), fM 0 23 (by omega)]; exact hkn, ?_, hDE.cg (fun q j hq => fM _ _ (by omega))⟩
  · intro p a b
    obtain ⟨g1, g2⟩ := hH p a b
    rw [show W + 1 + 3 = W + 4 from rfl] at g1 g2 ⊢
    have hbq : ∀ k, hb M' k p = hb M1 k p := fun k => hb_cg (fM _ _ (by omega)) (fM _ _ (by omega)) (fun j _ => fM _ _ (by omega))
    have hmq : mr M' p = (mr M1 p || decide (ref = (p : Int))) := by
      unfold mr
      rw [m1, h39, show ((i + 1 : Nat) : Int).toNat = i + 1 by omega, show ((i : Nat) : Int).toNat = i by omega, any_snoc, m2]
      congr 1
      rw [Bool.eq_iff_iff]
      simp only [List.any_eq_true, List.mem_range, decide_eq_true_eq]
      constructor
      · rintro ⟨j, hj, e⟩
        exact ⟨j, hj, by rw [← fM 22 j (by omega)]; exact e⟩
      · rintro ⟨j, hj, e⟩
        exact ⟨j, hj, by rw [fM 22 j (by omega)]; exact e⟩
    by_cases q : ref = (p : Int)
    · have hp : p = ref.toNat := by omega
      rw [hp, c3 (by omega), ← hp]
      refine ⟨w6_rl _, fun k hk => ?_⟩
      rw [bt_or, g2 k hk, bt_one c (by omega) k hk]
      unfold hd
      rw [fM 0 25 (by omega), hbq, hmq]
      simp only [q, decide_true, Bool.or_true, Bool.and_true]
      cases decide (k < (M1 0 25).toNat) && hb M1 k p <;> cases decide (k = c) <;> cases mr M1 p <;> rfl
    · rw [fC (W + 4) _ (by omega)]
      refine ⟨g1, fun k hk => ?_⟩
      rw [g2 k hk]
      unfold hd
      rw [fM 0 25 (by omega), hbq, hmq]
      simp only [q, decide_false, Bool.or_false]
  · obtain ⟨s1, s2, s3, s4⟩ := hSM
    unfold SM
    rw [fM 0 25 (by omega), fM 6 0 (by omega), m1]
    refine ⟨s1, fun k hk => ?_, ⟨by omega, by omega⟩, fun j hj => ?_⟩
    · rw [fM 17 k (by omega)]
      refine ⟨(s2 k hk).1, fun j hj => ?_⟩
      rw [fM 19 _ (by omega)]
      exact (s2 k hk).2 j hj
    · by_cases q : j = i
      · rw [q, m2]; omega
      · rw [fM 22 j (by omega)]
        exact s4 j (by omega)
theorem WE.cap4 {C M : hq_M} {W o lo n D m c B : Nat} (h : WE C M W o lo n D m c B) (hn : 1 ≤ n) : 4 ≤ M 0 2 := by
  have hsz := h.szs
  obtain ⟨-, h4, hS, hT, -⟩ := h
  obtain ⟨tc, ⟨m7, m6, m9, m8⟩, t5, tle, tcap, ti⟩ := hT
  have hF := hS.1
  have h8 := hS.2.2.2.2.2.2.2.1.2
  have hs0 := hsz lo (Nat.le_refl _) (by omega)
  have hb := szb hS.2.2.1 (f := (M 10 (lo % 64)).toNat) (by omega)
  have hes : es M 0 lo = sz M (M 10 (lo % 64)).toNat := by
    unfold es
    rw [Nat.mul_zero, Nat.zero_add]
  obtain ⟨n', rfl⟩ : ∃ n', n = n' + 1 := ⟨n - 1, by omega⟩
  rw [sm] at t5
  have hnn := sm_nn (f := fun i => C (W + 3) (i % 64)) (lo := lo + 1) (n := n') (fun i a b => (hsz i (by omega) (by omega)).1)
  have t5' : C (W + 1) 5 = C (W + 3) (lo % 64) + sm (fun i => C (W + 3) (i % 64)) (lo + 1) n' := t5
  omega
/-- the frames of one field -/
def FCf (W L : Nat) (C C' : hq_M) : Prop := ∀ o j, ¬ ((W + 1 ≤ o ∧ o ≤ W + 13) ∨ (o = L ∧ j = 3)) → C' o j = C o j
def FMa (M M' : hq_M) : Prop := ∀ q j, ¬ (q = 28 ∨ q = 22 ∨ q = 23 ∨ (q = 0 ∧ (j = 39 ∨ j = 41 ∨ j = 43 ∨ j = 47 ∨ j = 49)) ∨ (24 ≤ q ∧ q ≤ 27) ∨ ((q = 6 ∨ q = 7 ∨ q = 9) ∧ j = 0) ∨ (q = 10 ∧ j < 64)) → M' q j = M q j
def FMf (M M' : hq_M) : Prop := FMa M M' ∧ (∀ j : Nat, (j : Int) < M 0 43 → M' 24 j = M 24 j) ∧ (∀ a j : Nat, 25 ≤ a → a ≤ 27 → (j : Int) < M 0 47 → M' a j = M a j) ∧ M 0 43 ≤ M' 0 43 ∧ M 0 47 ≤ M' 0 47
theorem fld_rel {C C1 C' M M1 M' : hq_M} {W L o lo n D m c B f i : Nat} {base any gr ref : Int} {ys xs : List Int} {q : Option (Nat × List Int)} (h : WE C (hq_up M 22 i (-9)) W o lo n D m c B) (hB : B + 1 ≤ 900000) (hf : (f : Int) < M 0 0) (hfe : FE (hq_up M 22 i (-9)) lo n f base any gr ref xs q) (hCQ : CQ C C1 (hq_up M 22 i (-9)) W lo n D m f q) (hMQ : MQf (hq_up M 22 i (-9)) M1 lo n m f q) (hL : LW W L c) (hCF : CF C1 C' W L c ref ys xs) (hMF : MF M1 M' i ref ys xs) (h39 : M 0 39 = (i : Int)) (hi : i < 6) : (∃ lo n D m, WE C' M' W o lo n D m c (B + 1)) ∧ FCf W L C C' ∧ FMf M M' ∧ M 6 0 ≤ M' 6 0 ∧ (ref = -9 ∨ 0 ≤ ref) ∧ ref < M' 6 0 ∧ (0 ≤ ref → 4 ≤ M' 0 2) := by
  have hL' := hL
  unfold LW at hL'
  have e00 : hq_up M 22 i (-9) 0 0 = M 0 0 := hq_up_n _ _ (by omega)
  have m60 : M 6 0 = ((lo + n : Nat) : Int) := by
    have := h.2.2.2.1.2.1.2.1
    rw [hq_up_n _ _ (by omega)] at this
    exact this
  have hLo := h.2.2.1.2.2.1
  have hF := h.2.2.1.1
  have fC := hCF.2.2.2
  have fM := hMF.2.2.2
  have h1 := h.1
  rcases hCQ with ⟨hq, f1⟩ | ⟨e, is, hq, hci⟩
  · -- no insertion
    have g1 : Fi (hq_up M 22 i (-9)) M1 := by
      rcases hMQ with ⟨-, g⟩ | ⟨e, is, hq2, -⟩
      · exact g
      · rw [hq] at hq2; exact absurd hq2 (by simp)
    have hW1 : WE C1 M1 W o lo n D m c B := h.cg (fun q j hq => f1 _ _ (by omega) (by omega)) (fun q j hq => g1 _ _ (by omega) (by omega))
    have hr : (ref = -9 ∨ ((lo : Int) ≤ ref ∧ 0 ≤ ref ∧ ref < ((lo + n : Nat) : Int))) := by
      rcases hfe with ⟨x3, k1, k2, k3, k4, k5⟩ | ⟨k1, ⟨k2, k3, k4, k5⟩ | ⟨k2, ⟨k3, x3, x7, e, a1, a2, a3, a4, a5⟩ | ⟨hno, k5, y3, y7, a1, a2, a3, a4⟩⟩⟩
      · exact .inl k4
      · have := k3.bd; omega
      · rw [hq] at a5; exact absurd a5 (by simp)
      · have := a2.bd
        rw [a4]
        split <;> omega
    have h39' : M1 0 39 = (i : Int) := by rw [g1 _ _ (by omega) (by omega), hq_up_n _ _ (by omega)]; exact h39
    have hW' := hold_rel hW1 hL hCF hMF h39' hi (by omega)
    have cap := hW'.cap4
    have gm : ∀ q j, ¬ (q = 28 ∨ q = 22 ∨ q = 23 ∨ (q = 0 ∧ (j = 39 ∨ j = 41 ∨ j = 49))) → M' q j = M q j := fun q j hq => by rw [fM _ _ (by omega), g1 _ _ (by omega) (by omega), hq_up_n _ _ (by omega)]
    have e60 : M' 6 0 = M 6 0 := by rw [fM _ _ (by omega), g1 _ _ (by omega) (by omega), hq_up_n _ _ (by omega)]
    obtain ⟨⟨y1, y2, y3, y4, y5, y6⟩, yr⟩ := hW'
    refine ⟨⟨lo, n, D, m, ⟨y1, y2, y3, by omega, by omega, by omega⟩, yr⟩, fun o j ho => by rw [fC _ _ (by omega), f1 _ _ (by omega) (by omega)], ⟨fun q j hq => gm q j (by omega), fun j _ => gm _ _ (by omega), fun a j _ _ _ => gm _ _ (by omega), Int.le_of_eq (gm _ _ (by omega)).symm, Int.le_of_eq (gm _ _ (by omega)).symm⟩, by omega, by omega, by omega, fun hr0 => cap (by omega)⟩
  · -- an insertion
    have hmi : MIp (hq_up M 22 i (-9)) M1 lo n m e (f : Int) is := by
      rcases hMQ with ⟨hq2, -⟩ | ⟨e2, is2, hq2, g⟩
      · rw [hq] at hq2; exact absurd hq2 (by simp)
      · rw [hq] at hq2
        obtain ⟨rfl, rfl⟩ := Prod.mk.inj (Option.some.inj hq2)
        exact g
    rcases hfe with ⟨x3, k1, k2, k3, k4, k5⟩ | ⟨k1, ⟨k2, k3, k4, k5⟩ | ⟨k2, ⟨k3, x3, x7, e2, a1, a2, a3, a4, a5⟩ | ⟨hno, k5, -⟩⟩⟩
    · rw [hq] at k5; exact absurd k5 (by simp)
    · rw [hq] at k5; exact absurd k5 (by simp)
    · rw [hq] at a5
      obtain ⟨rfl, rfl⟩ := Prod.mk.inj (Option.some.inj a5)
      have hil := ins_len (x3 := x3) (x7 := x7) (cnt := ((lo + n : Nat) : Int)) hLo (f := f) (by omega)
      have hW1 := IOx.rel h hB hil.1 (by omega) rfl a2 hci hmi
      have p6 := hmi.2.1
      have gC := hci.2.2.2.2.2.2.2.2.2.2
      have gM := hmi.2.2.2.2.2.2.2.2.2.2.2
      have h47 : M 0 47 = (m : Int) := by
        have := h.2.2.2.2.2.1.1.2.2.1
        rw [hq_up_n _ _ (by omega)] at this
        exact this
      have hen : e ≤ n := by
        rcases a2 with ⟨h1, -⟩ | ⟨-, t, he, -⟩
        · omega
        · exact he.1
      have h39' : M1 0 39 = (i : Int) := by rw [gM _ _ (by omega), hq_up_n _ _ (by omega)]; exact h39
      have hW' := hold_rel hW1 hL hCF hMF h39' hi (.inr (by rw [a3]; omega))
      have cap := hW'.cap4 (by omega)
      have e60 : M' 6 0 = ((lo + n + 1 : Nat) : Int) := by rw [fM _ _ (by omega)]; exact p6
      refine ⟨⟨_, _, _, _, hW'⟩, fun o j ho => by rw [fC _ _ (by omega), gC _ _ (by omega)], ⟨fun q j hq => by rw [fM _ _ (by omega), gM _ _ (by omega), hq_up_n _ _ (by omega)], fun j hj => ?_, fun a j h1 h2 hj => ?_, ?_, ?_⟩, by omega, by omega, by omega, fun _ => cap⟩
      · rw [fM _ _ (by omega), hmi.2.2.2.2.2.2.1 j (by rw [hq_up_n _ _ (by omega)]; omega), hq_up_n _ _ (by omega)]
      · rw [fM _ _ (by omega), gM _ _ (by omega), hq_up_n _ _ (by omega)]
      · rw [fM _ _ (by omega), hmi.2.2.2.2.1, hq_up_n _ _ (by omega)]; omega
      · rw [fM _ _ (by omega), hmi.2.2.2.2.2.2.2.2.2.2.1]; omega
    · rw [hq] at k5; exact absurd k5 (by simp)
/-- a state as the reference would come to it -/
theorem fld_wit (M : hq_M) (lo n m f i : Nat) (ref : Int) (ys xs : List Int) (q : Option (Nat × List Int)) (hw : 0 ≤ M 0 43) : ∃ M1 M', MQf M M1 lo n m f q ∧ MF M1 M' i ref ys xs := by
  have h2 : ∀ M1 : hq_M, ∃ M', MF M1 M' i ref ys xs := by
    intro M1
    obtain ⟨M', hM'⟩ : ∃ M' : hq_M, M' = fun o j => if o = 0 ∧ j = 39 then ((i + 1 : Nat) : Int) else if o = 22 ∧ j = i then ref else if o = 0 ∧ j = 41 then ((ys ++ xs).length : Int) else if o = 23 then gd (ys ++ xs) j else M1 o j := ⟨_, rfl⟩
    refine ⟨M', by rw [hM']; simp, by rw [hM']; simp, ⟨by rw [hM']; simp, fun j hj => by rw [hM']; simp⟩, fun o j ho => ?_⟩
    rw [hM']
    show (if o = 0 ∧ j = 39 then ((i + 1 : Nat) : Int) else _) = _
    rw [if_neg (by omega), if_neg (by omega), if_neg (by omega), if_neg (by omega)]
  cases q with
  | none =>
    obtain ⟨M', hM'⟩ := h2 M
    exact ⟨M, M', .inl ⟨rfl, Fi.rf M⟩, hM'⟩
  | some p =>
    obtain ⟨e, is⟩ := p
    obtain ⟨M1, h1⟩ : ∃ M1 : hq_M, M1 = fun o j => if o = 7 ∧ j = 0 then ((lo + e : Nat) : Int) else if o = 6 ∧ j = 0 then ((lo + n + 1 : Nat) : Int) else if o = 9 ∧ j = 0 then sm (es M 0) (lo + e) (n - e) + sz M f else if o = 10 ∧ j = (lo + n) % 64 then (f : Int) else if o = 0 ∧ j = 43 then M 0 43 + is.length else if o = 24 ∧ (M 0 43).toNat ≤ j then gd is (j - (M 0 43).toNat) else if o = 25 ∧ j = m then 1 else if o = 27 ∧ j = m then (f : Int) else if o = 26 ∧ j = m then (is.length : Int) else if o = 0 ∧ j = 47 then ((m + 1 : Nat) : Int) else M o j := ⟨_, rfl⟩
    obtain ⟨M', hM'⟩ := h2 M1
    refine ⟨M1, M', .inr ⟨e, is, rfl, by rw [h1]; simp, by rw [h1]; simp, by rw [h1]; simp, by rw [h1]; simp, by rw [h1]; simp, fun j hj => by rw [h1]; simp, fun j hj => ?_, by rw [h1]; simp, by rw [h1]; simp, by rw [h1]; simp, by rw [h1]; simp, fun o j ho => ?_⟩, hM'⟩
    · rw [h1]
      show (if 24 = 7 ∧ j = 0 then ((lo + e : Nat) : Int) else _) = _
      rw [if_neg (by omega), if_neg (by omega), if_neg (by omega), if_neg (by omega), if_neg (by omega), if_neg (by omega), if_neg (by omega), if_neg (by omega), if_neg (by omega), if_neg (by omega)]
    · rw [h1]
      show (if o = 7 ∧ j = 0 then ((lo + e : Nat) : Int) else _) = _
      rw [if_neg (by omega), if_neg (by omega), if_neg (by omega), if_neg (by omega), if_neg (by omega), if_neg (by omega), if_neg (by omega), if_neg (by omega), if_neg (by omega), if_neg (by omega)]
def RE (C M : hq_M) (W L o c B i : Nat) (base any gr req : Int) (ys : List Int) : Prop := (∃ lo n D m, WE C M W o lo n D m c (B + i)) ∧ (C W 6 = any ∧ C W 7 = gr ∧ C L 0 = (c : Int) ∧ C L 4 = base ∧ C L 3 = req) ∧ Rw C (W + 12) ys ∧ Md M ys ∧ M 0 39 = (i : Int) ∧ M 0 23 ≤ 1000000 ∧ (0 ≤ base ∧ base ≤ M 6 0) ∧ (0 ≤ req ∧ req ≤ M 6 0) ∧ ys.length ≤ 14 * i ∧ (0 < req → 4 ≤ M 0 2)
theorem RE.next {C C1 C' M M1 M' : hq_M} {W L o lo n D m c B f i : Nat} {base any gr ref req : Int} {ys xs : List Int} {q : Option (Nat × List Int)} (hR : RE C M W L o c B i base any gr req ys) (h : WE C (hq_up M 22 i (-9)) W o lo n D m c (B + i)) (hB : B + 7 ≤ 900000) (hf : (f : Int) < M 0 0) (hfe : FE (hq_up M 22 i (-9)) lo n f base any gr ref xs q) (hCQ : CQ C C1 (hq_up M 22 i (-9)) W lo n D m f q) (hMQ : MQf (hq_up M 22 i (-9)) M1 lo n m f q) (hL : LW W L c) (hCF : CF C1 C' W L c ref ys xs) (hMF : MF M1 M' i ref ys xs) (hxl : xs.length ≤ 14) (hi : i < 6) (c3 : C1 L 3 = C L 3) : RE C' M' W L o c B (i + 1) base any gr (if 0 ≤ ref then max req (ref + 1) else req) (ys ++ xs) ∧ FCf W L C C' ∧ FMf M M' ∧ M 6 0 ≤ M' 6 0 ∧ (ref = -9 ∨ 0 ≤ ref) ∧ M' 22 i = ref := by
  have hL' := hL
  unfold LW at hL'
  obtain ⟨-, ⟨r1, r2, r3, r4, r5⟩, r6, r7, r8, r9, r10, r11, r12, r13⟩ := hR
  obtain ⟨hW, fC, fM, h6, hr, hrl, hr4⟩ := fld_rel h (by omega) hf hfe hCQ hMQ hL hCF hMF r8 hi
  refine ⟨⟨hW, ⟨by rw [fC _ _ (by omega)]; exact r1, by rw [fC _ _ (by omega)]; exact r2, by rw [fC _ _ (by omega)]; exact r3, by rw [fC _ _ (by omega)]; exact r4, by rw [hCF.2.1, c3, r5]⟩, hCF.1, hMF.2.2.1, hMF.1, by rw [fM.1 _ _ (by omega)]; exact r9, by omega, ?_, by rw [List.length_append]; omega, fun hq => ?_⟩, fC, fM, h6, hr, hMF.2.1⟩
  · split <;> omega
  · by_cases q : 0 ≤ ref
    · exact hr4 q
    · rw [if_neg q] at hq
      rw [fM.1 _ _ (by omega)]
      exact r13 hq
