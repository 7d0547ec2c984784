/-! ===== the mathematics, part 37: tells, a pair ===== -/
theorem Nx.bd {T : List Int} {p b e : Nat} (h : Nx T p b e) : p ≤ b ∧ b ≤ e ∧ e ≤ T.length := ⟨h.1.1, h.2.1, h.2.2.1⟩
theorem Nx.un {T : List Int} {p b e b' e' : Nat} (h : Nx T p b e) (g : Nx T p b' e') : b = b' ∧ e = e' := by
  have h1 := h.1.un g.1
  subst h1
  exact ⟨rfl, h.2.un g.2⟩
/-- no piece at hand: going on stays there -/
theorem Nx.stay {T : List Int} {p b b' e' : Nat} (h : Nx T p b b) (g : Nx T b b' e') : b' = b ∧ e' = b := by
  have h0 : Nx T b b b := ⟨⟨Nat.le_refl _, h.1.2.1, fun k h1 h2 => absurd h2 (by omega), h.1.2.2.2⟩, h.2⟩
  have := h0.un g
  exact ⟨this.1.symm, this.2.symm⟩
theorem x3_next {P c : Nat} {n : Nat} {C : hq_M} {k : Option Nat → Prop} (hc : PC P c) (h : C P 1 = (n : Int)) (hn : n ≤ c) (hk : k (if n < c then some (P + 2 + 5 * n) else none)) : w_X3_next P C k := by
  unfold w_X3_next
  rw [h, hc.1, show P + 1 + 1 = P + 2 from rfl, show ((n : Nat) : Int).toNat = n by omega]
  refine ⟨fun q => by omega, fun _ => ⟨fun q => ⟨⟨by omega, by omega⟩, ?_⟩, fun q => ?_⟩⟩
  · rw [if_pos (by omega)] at hk
    intro o5 e5
    rw [e5]
    exact hk
  · rwa [if_neg (by omega)] at hk
theorem x4_readPair {C : hq_M} {T : List Int} {P c nP e : Nat} {v2 : Int} {k : Int → hq_M → Prop} (hT : Rw C 1 T) (hl : T.length ≤ 200) (h5 : C 7 5 = (e : Int)) (he : e ≤ T.length) (hc : PC P c) (hP8 : 8 ≤ P) (hn : C P 1 = (nP : Int)) (hnc : nP ≤ c)
    (full : nP = c → k 0 C)
    (f1 : ∀ b1 e1 C', nP < c → Nx T e b1 e1 → ¬ IsNm T b1 e1 → C' 7 4 = (b1 : Int) → (∀ q j, ¬ (q = 7 ∧ (j = 4 ∨ j = 5)) → C' q j = C q j) → k 0 C')
    (f2 : ∀ b1 e1 b2 e2 C', nP < c → Nx T e b1 e1 → IsNm T b1 e1 → Nx T e1 b2 e2 → ¬ Sg T b2 e2 61 → C' 7 4 = (b2 : Int) → (∀ q j, ¬ ((q = 7 ∧ (j = 4 ∨ j = 5)) ∨ (P + 2 + 5 * nP + 1 ≤ q ∧ q ≤ P + 2 + 5 * nP + 2)) → C' q j = C q j) → k 0 C')
    (f3 : ∀ b1 e1 b2 e2 b3 e3 C', nP < c → Nx T e b1 e1 → IsNm T b1 e1 → Nx T e1 b2 e2 → Sg T b2 e2 61 → Nx T (b2 + 1) b3 e3 → 6 < e3 - b3 → C' 7 4 = (b3 : Int) → (∀ q j, ¬ ((q = 7 ∧ (j = 4 ∨ j = 5)) ∨ (P + 2 + 5 * nP + 1 ≤ q ∧ q ≤ P + 2 + 5 * nP + 2)) → C' q j = C q j) → k 0 C')
    (rest : ∀ b1 e1 b2 e2 b3 e3 b4 e4 C', nP < c → Nx T e b1 e1 → IsNm T b1 e1 → Nx T e1 b2 e2 → Sg T b2 e2 61 → Nx T (b2 + 1) b3 e3 → e3 - b3 ≤ 6 → Nx T e3 b4 e4 → C' 7 4 = (b4 : Int) → C' 7 5 = (e4 : Int) → Rw C' (P + 2 + 5 * nP + 1) (wd T b1 e1) → Rw C' (P + 2 + 5 * nP + 3) (wd T b3 e3) → (∀ q j, ¬ ((q = 7 ∧ (j = 4 ∨ j = 5)) ∨ (P + 2 + 5 * nP + 1 ≤ q ∧ q ≤ P + 2 + 5 * nP + 4)) → C' q j = C q j) → (v2 = 0 → b_X4_readPair_81 P k C') ∧ (¬ v2 = 0 → w_X3_lowestLike P (P + 2 + 5 * nP) C' (fun x12 => (x12 < 0 → b_X4_readPair_81 P k C') ∧ (¬ x12 < 0 → k 0 C')))) : w_X4_readPair P v2 C k := by
  have hc8 := hc.2.1
  unfold w_X4_readPair
  refine x3_next hc hn hnc ?_
  by_cases q : nP < c
  · rw [if_pos q]
    have hcp := hc.2.2 nP q
    refine ⟨fun e => (by cases e), fun o1 eo1 => ?_⟩
    cases eo1
    refine x4_advance hT hl h5 he (fun b1 e1 C1 hN1 g4 g5 fC1 => ?_)
    have hb1 := hN1.bd
    have hT1 : Rw C1 1 T := hT.cg (fC1 _ _ (by omega)) (fun j => fC1 _ _ (by omega))
    refine x4_isName hT1 hl g4 g5 hb1.2.1 hb1.2.2 (fun hno => ⟨fun e => absurd rfl e, fun _ => f1 b1 e1 C1 q hN1 hno g4 fC1⟩) (fun hyes => ⟨fun _ => ?_, fun e => absurd e (by decide)⟩)
    refine x4_readWord hT1 hl g4 g5 hb1.2.1 hb1.2.2 hyes.2.1 hcp.1 (by omega) (fun b2 e2 C2 hN2 k4 k5 r2 fC2 => ?_)
    have hb2 := hN2.bd
    have hT2 : Rw C2 1 T := hT1.cg (fC2 _ _ (by omega)) (fun j => fC2 _ _ (by omega))
    have o2 : ∀ q j, ¬ ((q = 7 ∧ (j = 4 ∨ j = 5)) ∨ (P + 2 + 5 * nP + 1 ≤ q ∧ q ≤ P + 2 + 5 * nP + 2)) → C2 q j = C q j := fun q j hq => by rw [fC2 _ _ (by omega), fC1 _ _ (by omega)]
    refine x4_readSign hT2 hl k4 k5 hb2.2.1 hb2.2.2 (by decide) (fun hno => ⟨fun e => absurd rfl e, fun _ => f2 b1 e1 b2 e2 C2 q hN1 hyes hN2 hno k4 o2⟩) (fun hsg b3 e3 C3 hN3 l4 l5 fC3 => ⟨fun _ => ?_, fun e => absurd e (by decide)⟩)
    have hb3 := hN3.bd
    have hT3 : Rw C3 1 T := hT2.cg (fC3 _ _ (by omega)) (fun j => fC3 _ _ (by omega))
    rw [l4, l5]
    refine ⟨⟨by omega, by omega⟩, fun q6 => ?_, fun q6 => f3 b1 e1 b2 e2 b3 e3 C3 q hN1 hyes hN2 hsg hN3 (by omega) l4 (fun q j hq => by rw [fC3 _ _ (by omega), o2 _ _ (by omega)])⟩
    refine x4_readWord hT3 hl l4 l5 hb3.2.1 hb3.2.2 (by omega) hcp.2 (by omega) (fun b4 e4 C4 hN4 m4 m5 r4 fC4 => ?_)
    exact rest b1 e1 b2 e2 b3 e3 b4 e4 C4 q hN1 hyes hN2 hsg hN3 (by omega) hN4 m4 m5 (r2.cg (by rw [fC4 _ _ (by omega), fC3 _ _ (by omega)]) (fun j => by rw [fC4 _ _ (by omega), fC3 _ _ (by omega)])) r4 (fun q j hq => by rw [fC4 _ _ (by omega), fC3 _ _ (by omega), o2 _ _ (by omega)])
  · rw [if_neg q]
    exact ⟨fun _ => full (by omega), fun o1 e => (by cases e)⟩
/-- the frame of a pair, of a text, in the reference -/
def FMk (f : Nat) (M M' : hq_M) : Prop := ∀ q j, ¬ ((q = 0 ∧ 10 ≤ j ∧ j ≤ 12) ∨ ((q = 1 ∨ q = 2) ∧ j = f) ∨ ((q = 3 ∨ q = 4) ∧ 6 * f ≤ j ∧ j < 6 * f + 6)) → M' q j = M q j
def At (f bf : Nat) (M M' : hq_M) : Prop := M' 0 11 = (bf : Int) ∧ Lo6 M' ∧ FMk f M M'
theorem Lo6.k1 {M M' : hq_M} {f : Nat} (h : Lo6 M) (hM : ∀ q j, q = 1 ∨ q = 2 → j ≠ f → M' q j = M q j) (h1 : 0 ≤ M' 1 f ∧ M' 1 f ≤ 6) (h2 : 0 ≤ M' 2 f ∧ M' 2 f ≤ 6) : Lo6 M' := by
  intro g hg
  by_cases q : g = f
  · rw [q]; exact ⟨h1, h2⟩
  · rw [hM 1 g (.inl rfl) q, hM 2 g (.inr rfl) q]; exact h g hg
theorem m_readsPair {M : hq_M} {T : List Int} {b e f b1 e1 : Nat} {v : Int} {k : Int → hq_M → Prop} (hT : TxM T M) (hk0 : TkM T M b e) (hL : Lo6 M) (hbe : b < e) (he : e ≤ T.length) (hv : v = (f : Int)) (hf : 8 ≤ f ∧ f < 32) (hN1 : Nx T e b1 e1) (c1 : ¬ IsNm T b1 e1 → ∀ M', At f b1 M M' → k 0 M') (c2 : IsNm T b1 e1 → ∃ b2 e2, Nx T e1 b2 e2 ∧ (¬ Sg T b2 e2 61 → ∀ M', At f b2 M M' → k 0 M') ∧ (Sg T b2 e2 61 → ∃ b3 e3, Nx T (b2 + 1) b3 e3 ∧ (6 < e3 - b3 → ∀ M', At f b3 M M' → k 0 M') ∧ (e3 - b3 ≤ 6 → ∃ b4 e4, Nx T e3 b4 e4 ∧ ∀ M', At f b4 M M' → TkM T M' b4 e4 → nm M' f = wd T b1 e1 → vl M' f = wd T b3 e3 → k 1 M'))) : w_X12_readsPair v M k := by
  have hT0 := hT
  obtain ⟨hT9, hT5, hl, hx⟩ := hT
  have hb1 := hN1.bd
  have hvn : v.toNat = f := by omega
  have hLf := hL f hf.2
  have tx : ∀ M' : hq_M, FMk f M M' → TxM T M' := fun M' fM => hT0.cg (fun q j hq => fM _ _ (by omega))
  unfold w_X12_readsPair
  refine m_take hT0 (by rw [hk0.2.1, hre_pc hbe he]) hN1 (fun M1 t1 g1 => ?_)
  have F1 : FMk f M M1 := fun q j hq => g1 _ _ (by omega)
  have L1 : Lo6 M1 := fun g hg => by rw [g1 1 g (by omega), g1 2 g (by omega)]; exact hL g hg
  refine m_isName (tx M1 F1) t1 hb1.2.1 hb1.2.2 (fun hno => ⟨fun e => absurd rfl e, fun _ => c1 hno M1 ⟨t1.1, L1, F1⟩⟩) (fun hnm => ⟨fun _ => ?_, fun e => absurd e (by decide)⟩)
  obtain ⟨b2, e2, hN2, c3, c4⟩ := c2 hnm
  have hb2 := hN2.bd
  have hn1 := hnm.1
  have hn2 := hnm.2.1
  rw [t1.1, t1.2.1, hre_pc hn1 hb1.2.2, hvn]
  refine ⟨⟨by omega, by omega⟩, ⟨by omega, by omega⟩, fun M7 e7 => ?_⟩
  have g7 : ∀ q j, ¬ (q = 1 ∧ j = f) → M7 q j = M1 q j := fun q j hq => by rw [e7]; simp only [hq_up]; rw [if_neg hq]
  have s7 : M7 1 f = ((e1 - b1 : Nat) : Int) := by rw [e7, up_self]; omega
  have F7 : FMk f M M7 := fun q j hq => by rw [g7 _ _ (by omega)]; exact F1 q j hq
  refine m_copy30 (f := f) (b := b1) (e := e1) (tx M7 F7) hv hf.2 (by rw [g7 _ _ (by omega)]; exact t1.1) hb1.2.1 hb1.2.2 hn2 s7 (fun M8 c8 g8 => ?_)
  have F8 : FMk f M M8 := fun q j hq => by rw [g8 _ _ (by omega)]; exact F7 q j hq
  refine m_take (tx M8 F8) (by rw [g8 _ _ (by omega), g7 _ _ (by omega), t1.2.1, hre_pc hn1 hb1.2.2]) hN2 (fun M9 t9 g9 => ?_)
  have F9 : FMk f M M9 := fun q j hq => by rw [g9 _ _ (by omega)]; exact F8 q j hq
  have n9 : M9 1 f = ((e1 - b1 : Nat) : Int) := by rw [g9 _ _ (by omega), g8 _ _ (by omega)]; exact s7
  have v9 : M9 2 f = M 2 f := by rw [g9 _ _ (by omega), g8 _ _ (by omega), g7 _ _ (by omega), g1 _ _ (by omega)]
  have w9 : ∀ t, t < e1 - b1 → M9 3 (6 * f + t) = gd T (b1 + t) := fun t ht => by rw [g9 _ _ (by omega)]; exact c8 t ht
  have L9 : Lo6 M9 := hL.k1 (f := f) (fun q j hq hj => F9 _ _ (by omega)) (by omega) (by omega)
  by_cases hsg : Sg T b2 e2 61
  · obtain ⟨b3, e3, hN3, c5, c6⟩ := c4 hsg
    have hb3 := hN3.bd
    refine m_sign_yes (tx M9 F9) (.inr rfl) t9 hb2.2.1 hb2.2.2 hsg hN3 (fun M10 t10 g10 => ⟨fun _ => ?_, fun e => absurd e (by decide)⟩)
    refine ⟨⟨by omega, by omega⟩, fun M13 e13 => ?_⟩
    have g13 : ∀ q j, ¬ (q = 2 ∧ j = f) → M13 q j = M10 q j := fun q j hq => by rw [e13]; simp only [hq_up]; rw [if_neg hq]
    have s13 : M13 2 f = 0 := by rw [e13, up_self]
    have F13 : FMk f M M13 := fun q j hq => by rw [g13 _ _ (by omega), g10 _ _ (by omega)]; exact F9 q j hq
    have t13 : TkM T M13 b3 e3 := t10.cg (fun q j hq => g13 _ _ (by omega))
    have n13 : M13 1 f = ((e1 - b1 : Nat) : Int) := by rw [g13 _ _ (by omega), g10 _ _ (by omega)]; exact n9
    have w13 : ∀ t, t < e1 - b1 → M13 3 (6 * f + t) = gd T (b1 + t) := fun t ht => by rw [g13 _ _ (by omega), g10 _ _ (by omega)]; exact w9 t ht
    have L13 : Lo6 M13 := hL.k1 (f := f) (fun q j hq hj => F13 _ _ (by omega)) (by omega) (by omega)
    rw [t13.1, t13.2.1, t13.2.2]
    refine ⟨fun q => ?_, fun q => ?_⟩
    · have hbe3 : b3 = e3 := by
        rw [tkn_pc hb3.2.1 hb3.2.2] at q
        omega
      subst hbe3
      obtain ⟨b4, e4, hN4, c7⟩ := c6 (by omega)
      obtain ⟨x1, x2⟩ := hN3.stay hN4
      subst x1 x2
      refine c7 M13 ⟨t13.1, L13, F13⟩ t13 ?_ ?_
      · exact sg_iff (by rw [wd_len, n13]; omega) (fun t ht => by rw [n13] at ht; rw [w13 t (by omega), wd_gd (by omega)])
      · exact sg_iff (by rw [wd_len, s13]; omega) (fun t ht => by rw [s13] at ht; exact absurd ht (by simp))
    · have hbe3 := (tkn_pc hb3.2.1 hb3.2.2).mp q
      rw [hre_pc hbe3 hb3.2.2]
      refine ⟨⟨by omega, by omega⟩, fun q6 => ⟨⟨by omega, by omega⟩, ⟨by omega, by omega⟩, fun M22 e22 => ?_⟩, fun q6 => c5 (by omega) M13 ⟨t13.1, L13, F13⟩⟩
      obtain ⟨b4, e4, hN4, c7⟩ := c6 (by omega)
      have g22 : ∀ q j, ¬ (q = 2 ∧ j = f) → M22 q j = M13 q j := fun q j hq => by rw [e22]; simp only [hq_up]; rw [if_neg hq]
      have s22 : M22 2 f = ((e3 - b3 : Nat) : Int) := by rw [e22, up_self]; omega
      have F22 : FMk f M M22 := fun q j hq => by rw [g22 _ _ (by omega)]; exact F13 q j hq
      refine m_copy132 (f := f) (b := b3) (e := e3) (tx M22 F22) hv hf.2 (by rw [g22 _ _ (by omega)]; exact t13.1) hb3.2.1 hb3.2.2 (by omega) s22 (fun M23 c23 g23 => ?_)
      have F23 : FMk f M M23 := fun q j hq => by rw [g23 _ _ (by omega)]; exact F22 q j hq
      refine m_take (tx M23 F23) (by rw [g23 _ _ (by omega), g22 _ _ (by omega), t13.2.1, hre_pc hbe3 hb3.2.2]) hN4 (fun M24 t24 g24 => ?_)
      have F24 : FMk f M M24 := fun q j hq => by rw [g24 _ _ (by omega)]; exact F23 q j hq
      have n24 : M24 1 f = ((e1 - b1 : Nat) : Int) := by rw [g24 _ _ (by omega), g23 _ _ (by omega), g22 _ _ (by omega)]; exact n13
      have v24 : M24 2 f = ((e3 - b3 : Nat) : Int) := by rw [g24 _ _ (by omega), g23 _ _ (by omega)]; exact s22
      refine c7 M24 ⟨t24.1, hL.k1 (f := f) (fun q j hq hj => F24 _ _ (by omega)) (by omega) (by omega), F24⟩ t24 ?_ ?_
      · exact sg_iff (by rw [wd_len, n24]; omega) (fun t ht => by rw [n24] at ht; rw [g24 _ _ (by omega), g23 _ _ (by omega), g22 _ _ (by omega), w13 t (by omega), wd_gd (by omega)])
      · exact sg_iff (by rw [wd_len, v24]; omega) (fun t ht => by rw [v24] at ht; rw [g24 _ _ (by omega), c23 t (by omega), wd_gd (by omega)])
  · exact m_sign_no (.inr rfl) t9 hb2.2.1 hb2.2.2 hsg ⟨fun e => absurd rfl e, fun _ => c3 hsg M9 ⟨t9.1, L9, F9⟩⟩
