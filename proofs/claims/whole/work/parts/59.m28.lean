/-! ===== the mathematics, part 28: all fields of a section, in lockstep ===== -/
theorem FE.len {M : hq_M} {lo n f : Nat} {base any gr ref : Int} {xs : List Int} {q : Option (Nat × List Int)} (h : FE M lo n f base any gr ref xs q) (hL : Lo6 M) (hf : f < 32) : xs.length ≤ 14 := by
  rcases h with ⟨x3, k1, k2, k3, k4, k5⟩ | ⟨k1, ⟨k2, k3, k4, k5⟩ | ⟨k2, ⟨k3, x3, x7, e, a1, a2, a3, a4, a5⟩ | ⟨hno, k5, y3, y7, a1, a2, a3, a4⟩⟩⟩
  · rw [k3]; have := octs_len 192 6 x3; omega
  · rw [k4]; have := likeO_len base ref; omega
  · rw [a4]; have := likeO_len base ref; omega
  · rw [a3]; exact nameO_len hL hf
theorem CQ.c3 {C C1 M : hq_M} {W L lo n D m f c : Nat} {q : Option (Nat × List Int)} (h : CQ C C1 M W lo n D m f q) (hL : LW W L c) : C1 L 3 = C L 3 := by
  unfold LW at hL
  rcases h with ⟨-, f1⟩ | ⟨e, is, -, hci⟩
  · exact f1 _ _ (by omega) (by omega)
  · exact hci.2.2.2.2.2.2.2.2.2.2 _ _ (by omega)
theorem fld_step {C M : hq_M} {W L o c B i f : Nat} {v v2 v3 base any gr req : Int} {ys : List Int} {kc : hq_M → Prop} (hR : RE C M W L o c B i base any gr req ys) (hB : B + 7 ≤ 900000) (hL : LW W L c) (hi : i < 6) (hv : v = (f : Int)) (hf : (f : Int) < M 0 0) (hany : v2 = any) (hg : gr = 0 ↔ (v3 = 0 ∨ v2 = 0)) (hk : ∀ C' req' ys', (∃ M', RE C' M' W L o c B (i + 1) base any gr req' ys' ∧ FMf M M') → FCf W L C C' → (∀ M2, RE C M2 W L o c B i base any gr req ys → ∀ kk : hq_M → Prop, (∀ M', RE C' M' W L o c B (i + 1) base any gr req' ys' → FMf M2 M' → req' = max req (M' 22 i + 1) → -9 ≤ M' 22 i ∧ M' 22 i ≤ 1000000 → kk M') → w_X12_laysField v v2 v3 base M2 kk) → kc C') : w_X10_encodeField W L v (o + 1 + 2 + 5 * f) C kc := by
  have hR0 := hR
  obtain ⟨⟨lo, n, D, m, hW⟩, ⟨r1, r2, r3, r4, r5⟩, r6, r7, r8, r9, r10, r11, r12, r13⟩ := hR
  have m60 : M 6 0 = ((lo + n : Nat) : Int) := hW.2.2.2.1.2.1.2.1
  have hb := hW.1
  have mrw : ∀ (M2 : hq_M) {D' m' : Nat}, M2 0 39 = (i : Int) → WE C M2 W o lo n D' m' c (B + i) → WE C (hq_up M2 22 i (-9)) W o lo n D' m' c (B + i) := fun M2 _ _ h39 h2 => h2.cg (fun _ _ _ => rfl) (fun q j hq => hq_up_n _ _ (by omega))
  have hWr := mrw M r8 hW
  have e00 : hq_up M 22 i (-9) 0 0 = M 0 0 := hq_up_n _ _ (by omega)
  have hF := hW.2.2.1.1
  refine x10_encodeField (any := any) (gr := gr) (base := base) hWr (by rw [hq_up_n _ _ (by omega)]; exact r9) hL rfl hv (by omega) r1 r2 r3 r4 (by omega) r6 (by omega) (fun ref xs q C1 C' hfe hCQ hCF => ?_)
  have hxl := hfe.len hWr.2.2.1.2.2.1 (by omega)
  have c3 := hCQ.c3 hL
  have w43 := hW.2.2.2.2.2.1.2.1.1
  obtain ⟨M1, M', hMQ, hMF⟩ := fld_wit (hq_up M 22 i (-9)) lo n m f i ref ys xs q (by rw [hq_up_n _ _ (by omega)]; exact w43)
  have nx := hR0.next hWr hB hf hfe hCQ hMQ hL hCF hMF hxl hi c3
  refine hk C' (if 0 ≤ ref then max req (ref + 1) else req) (ys ++ xs) ⟨M', nx.1, nx.2.2.1⟩ nx.2.1 (fun M2 hR2 kk hkk => ?_)
  have hR2' := hR2
  obtain ⟨⟨lo2, n2, D2, m2, hW2⟩, -, -, s7, s8, s9, s10, s11, s12, s13⟩ := hR2
  obtain ⟨a1, a2, -⟩ := hW.2.2.2.1.1
  obtain ⟨b1, b2, -⟩ := hW2.2.2.2.1.1
  obtain ⟨a3, a4, -⟩ := hW.2.2.2.2.2.1.1
  obtain ⟨b3, b4, -⟩ := hW2.2.2.2.2.2.1.1
  have el : lo = lo2 := by omega
  subst el
  have en : n = n2 := by omega
  subst en
  have hs : D + m = D2 + m2 := by omega
  have hWr2 := mrw M2 s8 hW2
  have hf2 : (f : Int) < M2 0 0 := by rw [(hW.two hW2).1]; exact hf
  have hfe2 := hfe.two hWr hWr2 (by rw [e00]; exact hf)
  refine m_laysField (i := i) hW2 s9 hv (by omega) hany hg (by omega) s8 hi s7 (by omega) hfe2 (fun M1' M3 hMQ2 hMF2 => ?_)
  have nx2 := hR2'.next hWr2 hB hf2 hfe2 (hCQ.two hWr hWr2 hs (by rw [e00]; exact hf)) hMQ2 hL hCF hMF2 hxl hi c3
  have nr := nx2.2.2.2.2.1
  have n22 := nx2.2.2.2.2.2
  have nrq := nx2.1.2.2.2.2.2.2.2.1
  have n60 : M3 6 0 ≤ 1000000 := by
    obtain ⟨⟨l3, n3, D3, m3, hW3⟩, -⟩ := nx2.1
    have := hW3.2.2.2.1.2.1.2.1
    have := hW3.2.2.2.1.1.2.2.1
    omega
  refine hkk M3 nx2.1 nx2.2.2.1 ?_ ?_
  · rw [n22]
    split <;> omega
  · rw [n22]
    split at nrq <;> omega
theorem FCf.tr {W L : Nat} {C1 C2 C3 : hq_M} (h : FCf W L C1 C2) (g : FCf W L C2 C3) : FCf W L C1 C3 := fun o j ho => (g o j ho).trans (h o j ho)
theorem FMf.tr {M1 M2 M3 : hq_M} (h : FMf M1 M2) (g : FMf M2 M3) : FMf M1 M3 := by
  obtain ⟨h1, h2, h3, h4, h5⟩ := h
  obtain ⟨g1, g2, g3, g4, g5⟩ := g
  exact ⟨fun o j ho => (g1 o j ho).trans (h1 o j ho), fun j hj => (g2 j (by omega)).trans (h2 j hj), fun a j x1 x2 hj => (g3 a j x1 x2 (by omega)).trans (h3 a j x1 x2 hj), by omega, by omega⟩
theorem FMf.rf (M : hq_M) : FMf M M := ⟨fun _ _ _ => rfl, fun _ _ => rfl, fun _ _ _ _ _ => rfl, Int.le_refl _, Int.le_refl _⟩
def DRm (F : List Int) (nf : Int) (M : hq_M) : Prop := M 0 37 = (F.length : Int) ∧ (∀ j, j < F.length → M 21 j = gd F j) ∧ M 0 0 = nf
theorem DRm.cg {F : List Int} {nf : Int} {M M' : hq_M} (h : DRm F nf M) (f : FMf M M') : DRm F nf M' := ⟨by rw [f.1 _ _ (by omega)]; exact h.1, fun j hj => by rw [f.1 _ _ (by omega)]; exact h.2.1 j hj, by rw [f.1 _ _ (by omega)]; exact h.2.2⟩
theorem capLW {W L c : Nat} (h : LW W L c) : hq_len YC (L + 1 + 1) = 6 ∧ hq_len YC (L + 3 + 1) = 96 := by
  rcases h with ⟨-, hc, rfl⟩ | ⟨-, -, rfl⟩
  · have := capL c hc
    rw [show 170 + 5 * c + 1 + 1 = 171 + 5 * c + 1 by omega, show 170 + 5 * c + 3 + 1 = 173 + 5 * c + 1 by omega]
    exact this
  · exact ⟨by decide +kernel, by decide +kernel⟩
theorem enc_loop {W L o c B : Nat} {F : List Int} {base any gr way nf : Int} (hL : LW W L c) (hB : B + 7 ≤ 900000) (hFl : F.length ≤ 6) (hF : ∀ j, j < F.length → 0 ≤ gd F j ∧ gd F j < nf) (hg : gr = 0 ↔ (way ≠ 2 ∨ any = 0)) (kr : hq_M → Prop) (d : Nat) : ∀ (i : Nat) (z req : Int) (ys : List Int) (C M : hq_M) (kc : hq_M → Prop), z = (i : Int) → i + d = F.length → RE C M W L o c B i base any gr req ys → Rw C (L + 1) F → DRm F nf M → (∀ C' req' ys', (∃ M', RE C' M' W L o c B F.length base any gr req' ys' ∧ FMf M M') → FCf W L C C' → (∀ M2, RE C M2 W L o c B i base any gr req ys → DRm F nf M2 → ∀ (k98 k : Int → hq_M → Prop), (∀ M', RE C' M' W L o c B F.length base any gr req' ys' → FMf M2 M' → k98 req' M') → l_X12_makes_44 way any base k98 k (d + 1) req z M2) → kc C') → l_X10_encode_43 W L kc kr (d + 1) z C := by
  have hcap := capLW hL
  have hL' := hL
  unfold LW at hL'
  induction d with
  | zero =>
    intro i z req ys C M kc hz hd hR hRow hD hk
    have hit : i = F.length := by omega
    subst hit
    rw [l_X10_encode_43, hRow.1]
    refine ⟨fun _ => hk C req ys ⟨M, hR, FMf.rf M⟩ (fun _ _ _ => rfl) (fun M2 hR2 hD2 k98 k hk98 => ?_), fun q => by omega⟩
    rw [l_X12_makes_44, hD2.1]
    exact ⟨fun _ => hk98 M2 hR2 (FMf.rf M2), fun q => by omega⟩
  | succ d ih =>
    intro i z req ys C M kc hz hd hR hRow hD hk
    have hFi := hF i (by omega)
    have hR0 := hR
    obtain ⟨⟨lo, n, D, m, hW⟩, -⟩ := hR
    have h4 := hW.2.1
    have ho := hW.1.1
    have hS := hW.2.2.1
    have pc7 : PC (o + 1) 7 := by rcases ho with rfl | rfl; exact PC_9; exact PC_89
    have e00 := hD.2.2
    have hF7 := hS.1
    rw [l_X10_encode_43, hRow.1]
    refine ⟨fun q => by omega, fun _ => x6_at hRow (by rw [hcap.1]; exact hFl) ?_⟩
    rw [if_pos (by omega), show z.toNat = i by omega]
    intro o4 e4
    have : o = o4 := by omega
    subst this
    refine x3_at_in (i := (gd F i).toNat) pc7 hS.2.2.2.1.1 (by omega) (by omega) (by omega) ⟨fun e => (by cases e), fun o5 e5 => ?_⟩
    cases e5
    refine fld_step (i := i) (v2 := any) (v3 := if way = 2 then 1 else 0) hR0 hB hL (by omega) (by omega) (by omega) rfl ?_ (fun C' req' ys' hex fC hre => ?_)
    · rw [hg]
      by_cases q : way = 2
      · rw [if_pos q]; simp [q]
      · rw [if_neg q]; simp [q]
    unfold b_X10_encode_94
    obtain ⟨Mw, hRw, fMw⟩ := hex
    refine ⟨⟨by omega, by omega⟩, fun x1 e1 => ih (i + 1) x1 req' ys' C' Mw kc (by omega) (by omega) hRw (hRow.cg (fC _ _ (by omega)) (fun j => fC _ _ (by omega))) (hD.cg fMw) (fun C2 req2 ys2 hex2 fC2 hre2 => hk C2 req2 ys2 ?_ (fC.tr fC2) (fun M2 hR2 hD2 k98 k hk98 => ?_))⟩
    · obtain ⟨Mx, g1, g2⟩ := hex2
      exact ⟨Mx, g1, fMw.tr g2⟩
    · have hrq := hR2.2.2.2.2.2.2.2.1
      have h60 : M2 6 0 ≤ 1000000 := by
        obtain ⟨⟨l3, n3, D3, m3, hW3⟩, -⟩ := hR2
        have := hW3.2.2.2.1.2.1.2.1
        have := hW3.2.2.2.1.1.2.2.1
        omega
      rw [l_X12_makes_44, hD2.1, show z.toNat = i by omega, hD2.2.1 i (by omega)]
      have go : ∀ v3 : Int, v3 = (if way = 2 then 1 else 0) → b_X12_makes_72 way any base req z (gd F i) any v3 (fun v4q v5q Mq => l_X12_makes_44 way any base k98 k (d + 1) v4q v5q Mq) k M2 := by
        intro v3 hv3
        rw [hv3]
        unfold b_X12_makes_72
        rw [show z.toNat = i by omega]
        refine hre M2 hR2 _ (fun M' hR' fM' hq22 hb22 => ⟨⟨by omega, by omega⟩, ⟨by omega, by omega⟩, m_greater ⟨⟨by omega, by omega⟩, fun x6 e6 => ?_⟩⟩)
        rw [← hq22, show x6 = x1 by omega]
        exact hre2 M' hR' (hD2.cg fM') k98 k (fun M3 g1 g2 => hk98 M3 g1 (fM'.tr g2))
      refine ⟨fun q => by omega, fun _ => ⟨⟨by omega, by omega⟩, fun q => ?_, fun q => ?_⟩⟩
      · exact go 0 (by rw [if_neg q])
      · exact go 1 (by rw [if_pos q])
