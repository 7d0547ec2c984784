/-! ===== the mathematics, part 39: tells, the items of the reference ===== -/
def up1 (f : Nat → List Int) (n : Nat) (x : List Int) : Nat → List Int := fun i => if i = n then x else f i
theorem PMs.tok {T : List Int} {M M' : hq_M} {mt bd mt' bd' it : Int} {nF nS b e b' e' : Nat} {a v sa sv : Nat → List Int} (h : PMs T M mt bd nF a v nS sa sv it b e) (ht : TkM T M' b' e') (h16 : M' 0 16 = mt') (h17 : M' 0 17 = bd') (g : ∀ o j, ¬ (o = 0 ∧ ((10 ≤ j ∧ j ≤ 12) ∨ j = 16 ∨ j = 17)) → M' o j = M o j) : PMs T M' mt' bd' nF a v nS sa sv it b' e' := by
  obtain ⟨h1, h2, ⟨h3, h4, h5, h6, h7⟩, h8, h9, h10⟩ := h
  refine ⟨h1.cg (fun q j hq => g _ _ (by omega)), ht, ⟨h16, h17, by rw [g _ _ (by omega)]; exact h5, by rw [g _ _ (by omega)]; exact h6, by rw [g _ _ (by omega)]; exact h7⟩, fun i hi => ?_, fun i hi => ?_, h10.hi (fun q j hq => g _ _ (by omega))⟩
  · rw [nm_cg (M := M) (g _ _ (by omega)) (fun j => g _ _ (by omega)), vl_cg (M := M) (g _ _ (by omega)) (fun j => g _ _ (by omega))]
    exact h8 i hi
  · rw [nm_cg (M := M) (g _ _ (by omega)) (fun j => g _ _ (by omega)), vl_cg (M := M) (g _ _ (by omega)) (fun j => g _ _ (by omega))]
    exact h9 i hi
theorem FMk.toP {f : Nat} {M M' : hq_M} (h : FMk f M M') (hf : 16 ≤ f ∧ f < 32) : FMp M M' := fun q j hq => h _ _ (by omega)
theorem FMp.tr {M1 M2 M3 : hq_M} (h : FMp M1 M2) (g : FMp M2 M3) : FMp M1 M3 := fun o j ho => (g o j ho).trans (h o j ho)
theorem sgf {M M' : hq_M} {q s n : Nat} (h : ∀ i, i < n → M' q (s + i) = M q (s + i)) : sg M' q s n = sg M q s n := sg_eq h
theorem nm_fk {f g : Nat} {M M' : hq_M} (h : FMk f M M') (hL : Lo6 M) (hg : g < 32) (hne : g ≠ f) : nm M' g = nm M g := by
  have := hL g hg
  unfold nm
  rw [h 1 g (by omega)]
  exact sg_eq (fun i hi => h _ _ (by omega))
theorem vl_fk {f g : Nat} {M M' : hq_M} (h : FMk f M M') (hL : Lo6 M) (hg : g < 32) (hne : g ≠ f) : vl M' g = vl M g := by
  have := hL g hg
  unfold vl
  rw [h 2 g (by omega)]
  exact sg_eq (fun i hi => h _ _ (by omega))
theorem m_it0 {T : List Int} {M : hq_M} {mt bd it : Int} {nF nS b e : Nat} {a v sa sv : Nat → List Int} {k1 kf : hq_M → Prop} (hM : PMs T M mt bd nF a v nS sa sv it b e) (hO : OKs T mt bd nF nS b e) (hw : wd T b e = str 0) (told : mt ≠ -9 → kf M) (num : mt = -9 → ∃ b1 e1 vn, Nx T e b1 e1 ∧ NV (wd T b1 e1) vn ∧ (¬ (0 ≤ vn ∧ vn ≤ 200) → ∀ M', M' 0 11 = (b1 : Int) → Lo6 M' → FMp M M' → kf M') ∧ (0 ≤ vn ∧ vn ≤ 200 → ∃ b2 e2, Nx T e1 b2 e2 ∧ (¬ Sg T b2 e2 59 → ∀ M', M' 0 11 = (b2 : Int) → Lo6 M' → FMp M M' → kf M') ∧ (Sg T b2 e2 59 → ∃ b3 e3, Nx T (b2 + 1) b3 e3 ∧ ∀ M', PMs T M' vn bd nF a v nS sa sv it b3 e3 → FMp M M' → k1 M'))) : mIt k1 kf M := by
  have hM0 := hM
  obtain ⟨hT, hk0, ⟨h16, h17, h14, h15, h13⟩, h8, h9, hL⟩ := hM
  obtain ⟨-, -, -, -, hb, he, hN, hl⟩ := hO
  refine m_item hT hk0 hb he hN (fun _ => ?_) (fun h => absurd (str_ne (by decide) (by decide) (hw.symm.trans h)) (by decide)) (fun h => absurd (str_ne (by decide) (by decide) (hw.symm.trans h)) (by decide)) (fun h => absurd (str_ne (by decide) (by decide) (hw.symm.trans h)) (by decide)) (fun h => absurd hw (h 0 (by decide)))
  by_cases q : mt = -9
  · obtain ⟨b1, e1, vn, hN1, hv, c1, c2⟩ := num q
    have hb1 := hN1.bd
    refine m_most hT hk0 (str_pos hw (by decide)) he (by rw [h16, q]) hN1 hv (fun M' t' h16' g' => ?_)
    refine m_item40 (hT.cg (fun q j hq => g' _ _ (by omega))) t' hb1.2.1 hb1.2.2 (fun hx => ?_) (fun hx => ?_)
    · refine c1 (fun h => ?_) M' t'.1 (hL.hi (fun q j hq => g' _ _ (by omega))) (fun q j hq => g' _ _ (by omega))
      rw [if_pos h] at hx
      exact absurd hx (by decide)
    · by_cases q2 : 0 ≤ vn ∧ vn ≤ 200
      · obtain ⟨b2, e2, hN2, c3, c4⟩ := c2 q2
        refine ⟨nv_pos hv q2.1, b2, e2, hN2, fun hs M2 t2 g2 => c3 hs M2 t2.1 (hL.hi (fun q j hq => by rw [g2 _ _ (by omega), g' _ _ (by omega)])) (fun q j hq => by rw [g2 _ _ (by omega), g' _ _ (by omega)]), fun hs => ?_⟩
        obtain ⟨b3, e3, hN3, c5⟩ := c4 hs
        exact ⟨b3, e3, hN3, fun M2 t2 g2 => c5 M2 (hM0.tok t2 (by rw [g2 _ _ (by omega)]; exact h16') (by rw [g2 _ _ (by omega), g' _ _ (by omega)]; exact h17) (fun o j ho => by rw [g2 _ _ (by omega), g' _ _ (by omega)])) (fun q j hq => by rw [g2 _ _ (by omega), g' _ _ (by omega)])⟩
      · rw [if_neg q2] at hx
        exact absurd rfl hx
  · unfold w_X12_readsMost b_X12_readsMost_14 b_X12_readsItem_40
    refine ⟨fun _ => ⟨fun _ => ⟨fun _ => ⟨fun _ => told q, fun e => absurd rfl e⟩, fun e => absurd rfl e⟩, fun e => absurd rfl e⟩, fun q2 => absurd (h16.symm.trans q2) q⟩
theorem m_it1 {T : List Int} {M : hq_M} {mt bd it : Int} {nF nS b e : Nat} {a v sa sv : Nat → List Int} {k1 kf : hq_M → Prop} (hM : PMs T M mt bd nF a v nS sa sv it b e) (hO : OKs T mt bd nF nS b e) (hw : wd T b e = str 1) (told : bd ≠ -9 → kf M) (num : bd = -9 → ∃ b1 e1 vn, Nx T e b1 e1 ∧ NV (wd T b1 e1) vn ∧ (¬ (0 ≤ vn ∧ vn ≤ 9) → ∀ M', M' 0 11 = (b1 : Int) → Lo6 M' → FMp M M' → kf M') ∧ (0 ≤ vn ∧ vn ≤ 9 → ∃ b2 e2, Nx T e1 b2 e2 ∧ (¬ Sg T b2 e2 59 → ∀ M', M' 0 11 = (b2 : Int) → Lo6 M' → FMp M M' → kf M') ∧ (Sg T b2 e2 59 → ∃ b3 e3, Nx T (b2 + 1) b3 e3 ∧ ∀ M', PMs T M' mt vn nF a v nS sa sv it b3 e3 → FMp M M' → k1 M'))) : mIt k1 kf M := by
  have hM0 := hM
  obtain ⟨hT, hk0, ⟨h16, h17, h14, h15, h13⟩, h8, h9, hL⟩ := hM
  obtain ⟨-, -, -, -, hb, he, hN, hl⟩ := hO
  refine m_item hT hk0 hb he hN (fun h => absurd (str_ne (by decide) (by decide) (hw.symm.trans h)) (by decide)) (fun _ => ?_) (fun h => absurd (str_ne (by decide) (by decide) (hw.symm.trans h)) (by decide)) (fun h => absurd (str_ne (by decide) (by decide) (hw.symm.trans h)) (by decide)) (fun h => absurd hw (h 1 (by decide)))
  by_cases q : bd = -9
  · obtain ⟨b1, e1, vn, hN1, hv, c1, c2⟩ := num q
    have hb1 := hN1.bd
    refine m_bound hT hk0 (str_pos hw (by decide)) he (by rw [h17, q]) hN1 hv (fun M' t' h17' g' => ?_)
    refine m_item40 (hT.cg (fun q j hq => g' _ _ (by omega))) t' hb1.2.1 hb1.2.2 (fun hx => ?_) (fun hx => ?_)
    · refine c1 (fun h => ?_) M' t'.1 (hL.hi (fun q j hq => g' _ _ (by omega))) (fun q j hq => g' _ _ (by omega))
      rw [if_pos h] at hx
      exact absurd hx (by decide)
    · by_cases q2 : 0 ≤ vn ∧ vn ≤ 9
      · obtain ⟨b2, e2, hN2, c3, c4⟩ := c2 q2
        refine ⟨nv_pos hv q2.1, b2, e2, hN2, fun hs M2 t2 g2 => c3 hs M2 t2.1 (hL.hi (fun q j hq => by rw [g2 _ _ (by omega), g' _ _ (by omega)])) (fun q j hq => by rw [g2 _ _ (by omega), g' _ _ (by omega)]), fun hs => ?_⟩
        obtain ⟨b3, e3, hN3, c5⟩ := c4 hs
        exact ⟨b3, e3, hN3, fun M2 t2 g2 => c5 M2 (hM0.tok t2 (by rw [g2 _ _ (by omega), g' _ _ (by omega)]; exact h16) (by rw [g2 _ _ (by omega)]; exact h17') (fun o j ho => by rw [g2 _ _ (by omega), g' _ _ (by omega)])) (fun q j hq => by rw [g2 _ _ (by omega), g' _ _ (by omega)])⟩
      · rw [if_neg q2] at hx
        exact absurd rfl hx
  · unfold w_X12_readsBound b_X12_readsBound_14 b_X12_readsItem_40
    refine ⟨fun _ => ⟨fun _ => ⟨fun _ => ⟨fun _ => told q, fun e => absurd rfl e⟩, fun e => absurd rfl e⟩, fun e => absurd rfl e⟩, fun q2 => absurd (h17.symm.trans q2) q⟩
theorem m_it2 {T : List Int} {M : hq_M} {mt bd it : Int} {nF nS b e : Nat} {a v sa sv : Nat → List Int} {k1 kf : hq_M → Prop} (hM : PMs T M mt bd nF a v nS sa sv it b e) (hO : OKs T mt bd nF nS b e) (hw : wd T b e = str 2) (full : nS = 8 → ∀ M', M' 0 11 = (b : Int) → Lo6 M' → FMp M M' → kf M') (pair : nS < 8 → ∃ b1 e1, Nx T e b1 e1 ∧ (¬ IsNm T b1 e1 → ∀ M', M' 0 11 = (b1 : Int) → Lo6 M' → FMp M M' → kf M') ∧ (IsNm T b1 e1 → ∃ b2 e2, Nx T e1 b2 e2 ∧ (¬ Sg T b2 e2 61 → ∀ M', M' 0 11 = (b2 : Int) → Lo6 M' → FMp M M' → kf M') ∧ (Sg T b2 e2 61 → ∃ b3 e3, Nx T (b2 + 1) b3 e3 ∧ (6 < e3 - b3 → ∀ M', M' 0 11 = (b3 : Int) → Lo6 M' → FMp M M' → kf M') ∧ (e3 - b3 ≤ 6 → ∃ b4 e4, Nx T e3 b4 e4 ∧ (¬ Sg T b4 e4 59 → ∀ M', M' 0 11 = (b4 : Int) → Lo6 M' → FMp M M' → kf M') ∧ (Sg T b4 e4 59 → ∃ b5 e5, Nx T (b4 + 1) b5 e5 ∧ ∀ M', PMs T M' mt bd nF a v (nS + 1) (up1 sa nS (wd T b1 e1)) (up1 sv nS (wd T b3 e3)) it b5 e5 → FMp M M' → k1 M'))))) : mIt k1 kf M := by
  have hM0 := hM
  obtain ⟨hT, hk0, ⟨h16, h17, h14, h15, h13⟩, h8, h9, hL⟩ := hM
  obtain ⟨-, -, hF7, hS8, hb, he, hN, hl⟩ := hO
  refine m_item hT hk0 hb he hN (fun h => absurd (str_ne (by decide) (by decide) (hw.symm.trans h)) (by decide)) (fun h => absurd (str_ne (by decide) (by decide) (hw.symm.trans h)) (by decide)) (fun _ => ?_) (fun h => absurd (str_ne (by decide) (by decide) (hw.symm.trans h)) (by decide)) (fun h => absurd hw (h 2 (by decide)))
  have b0 : ∀ (M' : hq_M) (bf : Nat), M' 0 15 = (nS : Int) → M' 0 11 = (bf : Int) → Lo6 M' → FMp M M' → (∀ M', M' 0 11 = (bf : Int) → Lo6 M' → FMp M M' → kf M') → b_X12_readsStill_27 (fun x3 M2 => (x3 = 0 → kf M2) ∧ (¬ x3 = 0 → w_X12_readsSign 59 M2 (fun x5 M4 => (¬ x5 = 0 → k1 M4) ∧ (x5 = 0 → kf M4)))) M' := by
    intro M' bf h15' h11' hL' hF' hkf
    unfold b_X12_readsStill_27 b_X12_readsStill_28 b_X12_readsStill_43
    rw [h15']
    refine ⟨fun _ => ⟨⟨by omega, by omega⟩, fun M2 e2 => ⟨fun _ => hkf M2 (by rw [e2, hq_up_n _ _ (by omega)]; exact h11') (hL'.hi (fun q j hq => by rw [e2, hq_up_n _ _ (by omega)])) (fun q j hq => by rw [e2, hq_up_n _ _ (by omega)]; exact hF' q j hq), fun e => absurd rfl e⟩⟩, fun e => absurd rfl e⟩
  unfold w_X12_readsStill
  rw [h15]
  refine ⟨fun q => b0 M b h15 hk0.1 hL (fun _ _ _ => rfl) (full (by omega)), fun q => ⟨⟨by omega, by omega⟩, ?_⟩⟩
  obtain ⟨b1, e1, hN1, c1, c2⟩ := pair (by omega)
  have fail : ∀ (bf : Nat), (∀ M', M' 0 11 = (bf : Int) → Lo6 M' → FMp M M' → kf M') → ∀ M', At (24 + nS) bf M M' → ((0 : Int) = 0 → b_X12_readsStill_27 (fun x3 M2 => (x3 = 0 → kf M2) ∧ (¬ x3 = 0 → w_X12_readsSign 59 M2 (fun x5 M4 => (¬ x5 = 0 → k1 M4) ∧ (x5 = 0 → kf M4)))) M') ∧ (¬ (0 : Int) = 0 → b_X12_readsStill_28 1 (fun x3 M2 => (x3 = 0 → kf M2) ∧ (¬ x3 = 0 → w_X12_readsSign 59 M2 (fun x5 M4 => (¬ x5 = 0 → k1 M4) ∧ (x5 = 0 → kf M4)))) M') := by
    intro bf hkf M' hA
    exact ⟨fun _ => b0 M' bf (by rw [hA.2.2 _ _ (by omega)]; exact h15) hA.1 hA.2.1 (hA.2.2.toP (by omega)) hkf, fun e => absurd rfl e⟩
  refine m_readsPair (f := 24 + nS) hT hk0 hL (str_pos hw (by decide)) he (by omega) (by omega) hN1 (fun hno => fail b1 (c1 hno)) (fun hnm => ?_)
  obtain ⟨b2, e2, hN2, c3, c4⟩ := c2 hnm
  refine ⟨b2, e2, hN2, fun hs => fail b2 (c3 hs), fun hs => ?_⟩
  obtain ⟨b3, e3, hN3, c5, c6⟩ := c4 hs
  refine ⟨b3, e3, hN3, fun hs => fail b3 (c5 hs), fun hs => ?_⟩
  obtain ⟨b4, e4, hN4, c7, c8⟩ := c6 hs
  refine ⟨b4, e4, hN4, fun M' hA hk4 hnm4 hvl4 => ⟨fun e => absurd e (by decide), fun _ => ?_⟩⟩
  have hb4 := hN4.bd
  obtain ⟨A1, A2, A3⟩ := hA
  have h15' : M' 0 15 = (nS : Int) := by rw [A3 _ _ (by omega)]; exact h15
  unfold b_X12_readsStill_28 b_X12_readsStill_43
  rw [h15']
  refine ⟨fun e => absurd e (by decide), fun _ => ⟨⟨by omega, by omega⟩, fun M2 e2 => ⟨fun e => absurd e (by decide), fun _ => ?_⟩⟩⟩
  have g2 : ∀ q j, ¬ (q = 0 ∧ j = 15) → M2 q j = M' q j := fun q j hq => by rw [e2]; simp only [hq_up]; rw [if_neg hq]
  have s15 : M2 0 15 = ((nS + 1 : Nat) : Int) := by rw [e2, up_self]; omega
  have T2 : TxM T M2 := hT.cg (fun q j hq => by rw [g2 _ _ (by omega), A3 _ _ (by omega)])
  have t2 : TkM T M2 b4 e4 := hk4.cg (fun q j hq => g2 _ _ (by omega))
  have F2 : FMp M M2 := fun q j hq => by rw [g2 _ _ (by omega), A3 _ _ (by omega)]
  have L2 : Lo6 M2 := A2.hi (fun q j hq => g2 _ _ (by omega))
  have n2 : ∀ g, nm M2 g = nm M' g := fun g => nm_cg (g2 _ _ (by omega)) (fun j => g2 _ _ (by omega))
  have v2 : ∀ g, vl M2 g = vl M' g := fun g => vl_cg (g2 _ _ (by omega)) (fun j => g2 _ _ (by omega))
  by_cases hs4 : Sg T b4 e4 59
  · obtain ⟨b5, e5, hN5, c9⟩ := c8 hs4
    refine m_sign_yes T2 (.inl rfl) t2 hb4.2.1 hb4.2.2 hs4 hN5 (fun M5 t5 g5 => ⟨fun _ => c9 M5 ?_ (fun q j hq => by rw [g5 _ _ (by omega)]; exact F2 q j hq), fun e => absurd e (by decide)⟩)
    refine PMs.tok (M := M2) (mt := mt) (bd := bd) (b := b4) (e := e4) ⟨T2, t2, ⟨by rw [g2 _ _ (by omega), A3 _ _ (by omega)]; exact h16, by rw [g2 _ _ (by omega), A3 _ _ (by omega)]; exact h17, by rw [g2 _ _ (by omega), A3 _ _ (by omega)]; exact h14, s15, by rw [g2 _ _ (by omega), A3 _ _ (by omega)]; exact h13⟩, fun i hi => ?_, fun i hi => ?_, L2⟩ t5 (by rw [g5 _ _ (by omega), g2 _ _ (by omega), A3 _ _ (by omega)]; exact h16) (by rw [g5 _ _ (by omega), g2 _ _ (by omega), A3 _ _ (by omega)]; exact h17) (fun o j ho => g5 _ _ (by omega))
    · rw [n2, v2, nm_fk A3 hL (by omega) (by omega), vl_fk A3 hL (by omega) (by omega)]
      exact h8 i hi
    · unfold up1
      rw [n2, v2]
      by_cases q : i = nS
      · rw [if_pos q, if_pos q, q]
        exact ⟨hnm4, hvl4⟩
      · rw [if_neg q, if_neg q, nm_fk A3 hL (by omega) (by omega), vl_fk A3 hL (by omega) (by omega)]
        exact h9 i (by omega)
  · exact m_sign_no (.inl rfl) t2 hb4.2.1 hb4.2.2 hs4 ⟨fun e => absurd rfl e, fun _ => c7 hs4 M2 t2.1 L2 F2⟩
theorem m_it3 {T : List Int} {M : hq_M} {mt bd it : Int} {nF nS b e : Nat} {a v sa sv : Nat → List Int} {k1 kf : hq_M → Prop} (hM : PMs T M mt bd nF a v nS sa sv it b e) (hO : OKs T mt bd nF nS b e) (hw : wd T b e = str 3) (full : nF = 7 → ∀ M', M' 0 11 = (b : Int) → Lo6 M' → FMp M M' → kf M') (pair : nF < 7 → ∃ b1 e1, Nx T e b1 e1 ∧ (¬ IsNm T b1 e1 → ∀ M', M' 0 11 = (b1 : Int) → Lo6 M' → FMp M M' → kf M') ∧ (IsNm T b1 e1 → ∃ b2 e2, Nx T e1 b2 e2 ∧ (¬ Sg T b2 e2 61 → ∀ M', M' 0 11 = (b2 : Int) → Lo6 M' → FMp M M' → kf M') ∧ (Sg T b2 e2 61 → ∃ b3 e3, Nx T (b2 + 1) b3 e3 ∧ (6 < e3 - b3 → ∀ M', M' 0 11 = (b3 : Int) → Lo6 M' → FMp M M' → kf M') ∧ (e3 - b3 ≤ 6 → ∃ b4 e4, Nx T e3 b4 e4 ∧ (¬ Sg T b4 e4 59 ∨ (∃ i, i < nF ∧ a i = wd T b1 e1 ∧ v i = wd T b3 e3) → ∀ M', M' 0 11 = (b4 : Int) → Lo6 M' → FMp M M' → kf M') ∧ (Sg T b4 e4 59 → (∀ i, i < nF → ¬ (a i = wd T b1 e1 ∧ v i = wd T b3 e3)) → ∃ b5 e5, Nx T (b4 + 1) b5 e5 ∧ ∀ M', PMs T M' mt bd (nF + 1) (up1 a nF (wd T b1 e1)) (up1 v nF (wd T b3 e3)) nS sa sv it b5 e5 → FMp M M' → k1 M'))))) : mIt k1 kf M := by
  have hM0 := hM
  obtain ⟨hT, hk0, ⟨h16, h17, h14, h15, h13⟩, h8, h9, hL⟩ := hM
  obtain ⟨-, -, hF7, hS8, hb, he, hN, hl⟩ := hO
  refine m_item hT hk0 hb he hN (fun h => absurd (str_ne (by decide) (by decide) (hw.symm.trans h)) (by decide)) (fun h => absurd (str_ne (by decide) (by decide) (hw.symm.trans h)) (by decide)) (fun h => absurd (str_ne (by decide) (by decide) (hw.symm.trans h)) (by decide)) (fun _ => ?_) (fun h => absurd hw (h 3 (by decide)))
  unfold w_X12_readsField
  rw [h14]
  refine ⟨fun q => ⟨fun _ => ⟨fun _ => full (by omega) M hk0.1 hL (fun _ _ _ => rfl), fun e => absurd rfl e⟩, fun e => absurd rfl e⟩, fun q => ⟨⟨by omega, by omega⟩, ?_⟩⟩
  obtain ⟨b1, e1, hN1, c1, c2⟩ := pair (by omega)
  refine m_readsPair (f := 16 + nF) hT hk0 hL (str_pos hw (by decide)) he (by omega) (by omega) hN1 (fun hno M' hA => ⟨fun _ => ⟨fun _ => ⟨fun _ => c1 hno M' hA.1 hA.2.1 (hA.2.2.toP (by omega)), fun e => absurd rfl e⟩, fun e => absurd rfl e⟩, fun e => absurd rfl e⟩) (fun hnm => ?_)
  obtain ⟨b2, e2, hN2, c3, c4⟩ := c2 hnm
  refine ⟨b2, e2, hN2, fun hs M' hA => ⟨fun _ => ⟨fun _ => ⟨fun _ => c3 hs M' hA.1 hA.2.1 (hA.2.2.toP (by omega)), fun e => absurd rfl e⟩, fun e => absurd rfl e⟩, fun e => absurd rfl e⟩, fun hs => ?_⟩
  obtain ⟨b3, e3, hN3, c5, c6⟩ := c4 hs
  refine ⟨b3, e3, hN3, fun hs M' hA => ⟨fun _ => ⟨fun _ => ⟨fun _ => c5 hs M' hA.1 hA.2.1 (hA.2.2.toP (by omega)), fun e => absurd rfl e⟩, fun e => absurd rfl e⟩, fun e => absurd rfl e⟩, fun hs => ?_⟩
  obtain ⟨b4, e4, hN4, c7, c8⟩ := c6 hs
  refine ⟨b4, e4, hN4, fun M' hA hk4 hnm4 hvl4 => ⟨fun e => absurd e (by decide), fun _ => ?_⟩⟩
  have hb4 := hN4.bd
  obtain ⟨A1, A2, A3⟩ := hA
  have h14' : M' 0 14 = (nF : Int) := by rw [A3 _ _ (by omega)]; exact h14
  have ea : ∀ i, i < nF → nm M' (16 + i) = a i ∧ vl M' (16 + i) = v i := fun i hi => by
    rw [nm_fk A3 hL (by omega) (by omega), vl_fk A3 hL (by omega) (by omega)]
    exact h8 i hi
  rw [hk4.2.2]
  refine ⟨fun q59 => ?_, fun q59 => ⟨fun _ => ⟨fun _ => c7 (.inl (fun h => q59 ((tkn_sg (.inl rfl) hb4.2.1 hb4.2.2).mpr h))) M' A1 A2 (A3.toP (by omega)), fun e => absurd rfl e⟩, fun e => absurd rfl e⟩⟩
  have hs4 := (tkn_sg (.inl rfl) hb4.2.1 hb4.2.2).mp q59
  refine m_field36 A2 h14' (by omega) (fun hno => ?_) (fun hyes => ?_)
  · rw [h14']
    refine ⟨⟨by omega, by omega⟩, fun M2 e2 => ⟨fun e => absurd e (by decide), fun _ => ⟨fun e => absurd e (by decide), fun _ => ?_⟩⟩⟩
    have g2 : ∀ q j, ¬ (q = 0 ∧ j = 14) → M2 q j = M' q j := fun q j hq => by rw [e2]; simp only [hq_up]; rw [if_neg hq]
    have s14 : M2 0 14 = ((nF + 1 : Nat) : Int) := by rw [e2, up_self]; omega
    have T2 : TxM T M2 := hT.cg (fun q j hq => by rw [g2 _ _ (by omega), A3 _ _ (by omega)])
    have t2 : TkM T M2 b4 e4 := hk4.cg (fun q j hq => g2 _ _ (by omega))
    have F2 : FMp M M2 := fun q j hq => by rw [g2 _ _ (by omega), A3 _ _ (by omega)]
    have L2 : Lo6 M2 := A2.hi (fun q j hq => g2 _ _ (by omega))
    have n2 : ∀ g, nm M2 g = nm M' g := fun g => nm_cg (g2 _ _ (by omega)) (fun j => g2 _ _ (by omega))
    have v2 : ∀ g, vl M2 g = vl M' g := fun g => vl_cg (g2 _ _ (by omega)) (fun j => g2 _ _ (by omega))
    obtain ⟨b5, e5, hN5, c9⟩ := c8 hs4 (fun i hi h => hno i hi (by rw [(ea i hi).1, (ea i hi).2, hnm4, hvl4]; exact h))
    refine m_sign_yes T2 (.inl rfl) t2 hb4.2.1 hb4.2.2 hs4 hN5 (fun M5 t5 g5 => ⟨fun _ => c9 M5 ?_ (fun q j hq => by rw [g5 _ _ (by omega)]; exact F2 q j hq), fun e => absurd e (by decide)⟩)
    refine PMs.tok (M := M2) (mt := mt) (bd := bd) (b := b4) (e := e4) ⟨T2, t2, ⟨by rw [g2 _ _ (by omega), A3 _ _ (by omega)]; exact h16, by rw [g2 _ _ (by omega), A3 _ _ (by omega)]; exact h17, s14, by rw [g2 _ _ (by omega), A3 _ _ (by omega)]; exact h15, by rw [g2 _ _ (by omega), A3 _ _ (by omega)]; exact h13⟩, fun i hi => ?_, fun i hi => ?_, L2⟩ t5 (by rw [g5 _ _ (by omega), g2 _ _ (by omega), A3 _ _ (by omega)]; exact h16) (by rw [g5 _ _ (by omega), g2 _ _ (by omega), A3 _ _ (by omega)]; exact h17) (fun o j ho => g5 _ _ (by omega))
    · unfold up1
      rw [n2, v2]
      by_cases q : i = nF
      · rw [if_pos q, if_pos q, q]
        exact ⟨hnm4, hvl4⟩
      · rw [if_neg q, if_neg q]
        exact ea i (by omega)
    · rw [n2, v2, nm_fk A3 hL (by omega) (by omega), vl_fk A3 hL (by omega) (by omega)]
      exact h9 i hi
  · obtain ⟨i, hi, h1, h2⟩ := hyes
    refine ⟨fun _ => ⟨fun _ => c7 (.inr ⟨i, hi, ?_, ?_⟩) M' A1 A2 (A3.toP (by omega)), fun e => absurd rfl e⟩, fun e => absurd rfl e⟩
    · rw [← (ea i hi).1, h1, hnm4]
    · rw [← (ea i hi).2, h2, hvl4]
theorem m_it4 {T : List Int} {M : hq_M} {mt bd it : Int} {nF nS b e : Nat} {a v sa sv : Nat → List Int} {k1 kf : hq_M → Prop} (hM : PMs T M mt bd nF a v nS sa sv it b e) (hO : OKs T mt bd nF nS b e) (hw : ∀ i, i < 4 → wd T b e ≠ str i) (hk : kf M) : mIt k1 kf M := by
  obtain ⟨hT, hk0, -⟩ := hM
  obtain ⟨-, -, hF7, hS8, hb, he, hN, hl⟩ := hO
  exact m_item hT hk0 hb he hN (fun h => absurd h (hw 0 (by decide))) (fun h => absurd h (hw 1 (by decide))) (fun h => absurd h (hw 2 (by decide))) (fun h => absurd h (hw 3 (by decide))) (fun _ => ⟨fun _ => hk, fun e => absurd rfl e⟩)
