/-! ===== the mathematics, part 29: a whole section, both sides ===== -/
def startO (cap base req : Int) : List Int := octs 0 8 (if req = 0 then 0 else req % (cap / 4 * 2) + 1) ++ (if req = 0 then octs 0 7 0 else if base < req then octs 128 7 (req - base - 1) else octs 0 7 (base - req))
theorem startO_len (cap base req : Int) : (startO cap base req).length ≤ 12 := by
  have h1 := octs_len 0 8 (if req = 0 then 0 else req % (cap / 4 * 2) + 1)
  have h2 := octs_len 0 7 0
  have h3 := octs_len 128 7 (req - base - 1)
  have h4 := octs_len 0 7 (base - req)
  have key : (if req = 0 then octs 0 7 0 else if base < req then octs 128 7 (req - base - 1) else octs 0 7 (base - req)).length ≤ 6 := by
    split
    · omega
    · split
      · omega
      · omega
  unfold startO
  rw [List.length_append]
  omega
theorem x10_encodeStart {C : hq_M} {W L o c : Nat} {cap base req : Int} {kk : hq_M → Prop} (hL : LW W L c) (h4 : C W 4 = (o : Int)) (h2 : C o 2 = cap) (hc : 0 ≤ cap ∧ cap ≤ 200) (h3 : C L 3 = req) (hb4 : C L 4 = base) (hb : 0 ≤ base ∧ base ≤ 1000000) (hr : 0 ≤ req ∧ req ≤ 1000000) (hcap : 0 < req → 4 ≤ cap) (hr3 : Rw C (L + 3) []) (hk : ∀ C', Rw C' (L + 3) (startO cap base req) → Fa C C' (L + 3) → kk C') : w_X10_encodeStart W L C kk := by
  have hlen := startO_len cap base req
  have hcp := (capLW hL).2
  have hL' := hL
  unfold LW at hL'
  unfold w_X10_encodeStart
  intro o2 e2
  have : o = o2 := by omega
  subst this
  rw [h2, h3]
  unfold startO at hk hlen
  rw [List.length_append] at hlen
  refine ⟨⟨by omega, by decide⟩, ⟨by omega, by omega⟩, fun x6 e6 => ?_⟩
  rw [← e6] at hk hlen
  have zero : req = 0 → b_X10_encodeStart_23 L kk C := by
    intro q
    rw [if_pos q, if_pos q] at hk hlen
    unfold b_X10_encodeStart_23
    refine x6_addInteger (by decide) (by decide) (by decide) hr3 (by rw [hcp, List.length_nil]; omega) (fun C1 r1 f1 => ?_)
    rw [List.nil_append] at r1
    exact x6_addInteger (by decide) (by decide) (by decide) r1 (by rw [hcp]; omega) (fun C2 r2 f2 => hk C2 r2 (f1.tr f2))
  refine ⟨zero, fun q => ⟨fun q6 => ?_, fun q6 => by omega⟩⟩
  rw [if_neg q, if_neg q] at hk hlen
  have m1 := Int.emod_nonneg req q6
  have m2 := Int.emod_lt_of_pos req (show 0 < x6 by omega)
  refine ⟨⟨hr.1, by omega⟩, ⟨by omega, by omega⟩, ?_⟩
  refine x6_addInteger (by decide) (by decide) (by omega) hr3 (by rw [hcp, List.length_nil]; omega) (fun C1 r1 f1 => ?_)
  rw [List.nil_append] at r1
  rw [f1 L 3 (by omega) (by omega), f1 L 4 (by omega) (by omega), h3, hb4]
  refine ⟨fun q2 => ⟨⟨by omega, by omega⟩, ⟨by omega, by omega⟩, ?_⟩, fun q2 => ⟨⟨by omega, by omega⟩, ?_⟩⟩
  · rw [if_pos q2] at hk hlen
    exact x6_addInteger (by decide) (by decide) (by omega) r1 (by rw [hcp]; omega) (fun C2 r2 f2 => hk C2 r2 (f1.tr f2))
  · rw [if_neg q2] at hk hlen
    exact x6_addInteger (by decide) (by decide) (by omega) r1 (by rw [hcp]; omega) (fun C2 r2 f2 => hk C2 r2 (f1.tr f2))
theorem m_start {M : hq_M} {cap base req : Int} {k : Int → hq_M → Prop} (hi : In M []) (h2 : M 0 2 = cap) (hc : 0 ≤ cap ∧ cap ≤ 200) (hb : 0 ≤ base ∧ base ≤ 1000000) (hr : 0 ≤ req ∧ req ≤ 1000000) (hcap : 0 < req → 4 ≤ cap) (hk : ∀ M', In M' (startO cap base req) → Fi M M' → k req M') : (¬ req = 0 → (0 ≤ (M 0 2) ∧ (0 : Int) < 4) ∧ rg (2 * ((M 0 2) / 4)) ∧ (0 ≤ req ∧ (0 : Int) < (2 * ((M 0 2) / 4))) ∧ rg ((req % (2 * ((M 0 2) / 4))) + 1) ∧ b_X12_makes_129 base req 0 8 ((req % (2 * ((M 0 2) / 4))) + 1) k M) ∧ (req = 0 → b_X12_makes_129 base req 0 8 0 k M) := by
  have hlen := startO_len cap base req
  rw [h2]
  unfold startO at hk hlen
  rw [List.length_append] at hlen
  refine ⟨fun q => ?_, fun q => ?_⟩
  · have hsp : 2 * (cap / 4) = cap / 4 * 2 := Int.mul_comm _ _
    rw [hsp]
    obtain ⟨x6, e6⟩ : ∃ x6, x6 = cap / 4 * 2 := ⟨_, rfl⟩
    rw [← e6] at hk hlen ⊢
    rw [if_neg q, if_neg q] at hk hlen
    have m1 := Int.emod_nonneg req (show x6 ≠ 0 by omega)
    have m2 := Int.emod_lt_of_pos req (show 0 < x6 by omega)
    refine ⟨⟨hc.1, by decide⟩, ⟨by omega, by omega⟩, ⟨hr.1, by omega⟩, ⟨by omega, by omega⟩, ?_⟩
    unfold b_X12_makes_129
    refine m_laysNumber (by decide) (by decide) (by omega) hi (by rw [List.length_nil]; omega) (fun M1 i1 f1 => ⟨fun e => absurd e q, fun _ => ⟨fun q2 => ⟨⟨by omega, by omega⟩, ⟨by omega, by omega⟩, ?_⟩, fun q2 => ?_⟩⟩)
    · rw [List.nil_append] at i1
      rw [if_pos q2] at hk hlen
      rw [show req - base - 1 = req - base - 1 from rfl]
      exact m_laysNumber (by decide) (by decide) (by omega) i1 (by omega) (fun M2 i2 f2 => hk M2 i2 (f1.tr f2))
    · rw [List.nil_append] at i1
      rw [if_neg q2] at hk hlen
      unfold b_X12_makes_143 b_X12_makes_160
      exact ⟨fun _ => ⟨⟨by omega, by omega⟩, m_laysNumber (by decide) (by decide) (by omega) i1 (by omega) (fun M2 i2 f2 => hk M2 i2 (f1.tr f2))⟩, fun e => absurd e q⟩
  · rw [if_pos q, if_pos q] at hk hlen
    unfold b_X12_makes_129
    refine m_laysNumber (by decide) (by decide) (by decide) hi (by rw [List.length_nil]; omega) (fun M1 i1 f1 => ⟨fun _ => ?_, fun e => absurd q e⟩)
    rw [List.nil_append] at i1
    unfold b_X12_makes_143 b_X12_makes_160
    exact ⟨fun e => absurd q e, fun _ => m_laysNumber (by decide) (by decide) (by decide) i1 (by omega) (fun M2 i2 f2 => hk M2 i2 (f1.tr f2))⟩
theorem RE.cg {C M C' M' : hq_M} {W L o c B i : Nat} {base any gr req : Int} {ys : List Int} (h : RE C M W L o c B i base any gr req ys) (hL : LW W L c) (hC : ∀ q j, q ≠ L + 3 → q ≠ L + 4 → C' q j = C q j) (hM : Fi M M') : RE C' M' W L o c B i base any gr req ys := by
  unfold LW at hL
  obtain ⟨⟨lo, n, D, m, hW⟩, ⟨r1, r2, r3, r4, r5⟩, r6, r7, r8, r9, r10, r11, r12, r13⟩ := h
  have ho := hW.1
  refine ⟨⟨lo, n, D, m, hW.cg (fun q j hq => hC _ _ (by omega) (by omega)) (fun q j hq => hM _ _ (by omega) (by omega))⟩, ⟨by rw [hC _ _ (by omega) (by omega)]; exact r1, by rw [hC _ _ (by omega) (by omega)]; exact r2, by rw [hC _ _ (by omega) (by omega)]; exact r3, by rw [hC _ _ (by omega) (by omega)]; exact r4, by rw [hC _ _ (by omega) (by omega)]; exact r5⟩, r6.cg (hC _ _ (by omega) (by omega)) (fun j => hC _ _ (by omega) (by omega)), ⟨by rw [hM _ _ (by omega) (by omega)]; exact r7.1, fun j hj => by rw [hM _ _ (by omega) (by omega)]; exact r7.2 j hj⟩, by rw [hM _ _ (by omega) (by omega)]; exact r8, by rw [hM _ _ (by omega) (by omega)]; exact r9, by rw [hM _ _ (by omega) (by omega)]; exact r10, by rw [hM _ _ (by omega) (by omega)]; exact r11, r12, by rw [hM _ _ (by omega) (by omega)]; exact r13⟩
theorem Fi.toF {M M' : hq_M} (h : Fi M M') : FMf M M' := ⟨fun q j hq => h _ _ (by omega) (by omega), fun j _ => h _ _ (by omega) (by omega), fun a j _ _ _ => h _ _ (by omega) (by omega), Int.le_of_eq (h _ _ (by omega) (by omega)).symm, Int.le_of_eq (h _ _ (by omega) (by omega)).symm⟩
theorem enc_all {C M : hq_M} {W L o c B lo n D m : Nat} {F : List Int} {way any nf gv : Int} {kc : hq_M → Prop} (h : WE C M W o lo n D m c B) (hk23 : M 0 23 ≤ 1000000) (hB : B + 7 ≤ 900000) (hL : LW W L c) (hFl : F.length ≤ 6) (hF : ∀ j, j < F.length → 0 ≤ gd F j ∧ gd F j < nf) (hRow : Rw C (L + 1) F) (hR3 : Rw C (L + 3) []) (hD : DRm F nf M) (h39 : M 0 39 = 0) (h41 : M 0 41 = 0) (h0 : C L 0 = (c : Int)) (h3 : C L 3 = 0) (hw : gv = 0 ↔ way ≠ 2) (hk : ∀ C' req ys gr, (∃ M', RE C' M' W L o c B F.length (M 6 0) any gr req ys ∧ FMf M M') → (∀ q j, ¬ ((W + 1 ≤ q ∧ q ≤ W + 13) ∨ (q = W ∧ (j = 6 ∨ j = 7)) ∨ (q = L ∧ (j = 3 ∨ j = 4)) ∨ q = L + 3 ∨ q = L + 4) → C' q j = C q j) → Rw C' (L + 3) (startO (M 0 2) (M 6 0) req ++ ys) → (∀ k : Int → hq_M → Prop, (∀ M', RE C' M' W L o c B F.length (M 6 0) any gr req ys → FMf M M' → In M' (startO (M 0 2) (M 6 0) req) → k req M') → b_X12_makes_30 way any k M) → kc C') : w_X10_encode W L any gv C kc := by
  have hL' := hL
  unfold LW at hL'
  have hcp := (capLW hL).2
  have ho := h.1
  have hc3 := h.2.2.2.1.1.2.1
  have m60 : M 6 0 = ((lo + n : Nat) : Int) := h.2.2.2.1.2.1.2.1
  have h02 := h.2.2.1.2.2.2.2.2.2.2.1.1
  unfold w_X10_encode
  intro C1 e1
  have f1 : ∀ o j, ¬ (o = W ∧ j = 6) → C1 o j = C o j := fun o j ho => by rw [e1]; simp only [hq_up]; rw [if_neg ho]
  have s1 : C1 W 6 = any := by rw [e1, up_self]
  have go : ∀ g : Int, (g = 0 ↔ (way ≠ 2 ∨ any = 0)) → b_X10_encode_19 W L W g kc C1 := by
    intro g hg
    unfold b_X10_encode_19
    intro C2 e2 C3 e3
    have f2 : ∀ o j, ¬ (o = W ∧ j = 7) → C2 o j = C1 o j := fun o j ho => by rw [e2]; simp only [hq_up]; rw [if_neg ho]
    have s2 : C2 W 7 = g := by rw [e2, up_self]
    have f3 : ∀ o j, ¬ (o = L ∧ j = 4) → C3 o j = C2 o j := fun o j ho => by rw [e3]; simp only [hq_up]; rw [if_neg ho]
    have s3 : C3 L 4 = M 6 0 := by rw [e3, up_self, f2 _ _ (by omega), f1 _ _ (by omega), hc3, m60]
    refine x6_empty (fun C4 r4 f4 => ?_)
    have g4 : ∀ q j, ¬ (q = W + 12 ∨ q = W + 13 ∨ (q = W ∧ (j = 6 ∨ j = 7)) ∨ (q = L ∧ j = 4)) → C4 q j = C q j := fun q j hq => by rw [f4 _ _ (by omega) (by omega), f3 _ _ (by omega), f2 _ _ (by omega), f1 _ _ (by omega)]
    have hRE : RE C4 M W L o c B 0 (M 6 0) any g 0 [] := ⟨⟨lo, n, D, m, h.cg (fun q j hq => g4 _ _ (by omega)) (fun _ _ _ => rfl)⟩, ⟨by rw [f4 _ _ (by omega) (by omega), f3 _ _ (by omega), f2 _ _ (by omega)]; exact s1, by rw [f4 _ _ (by omega) (by omega), f3 _ _ (by omega)]; exact s2, by rw [g4 _ _ (by omega)]; exact h0, by rw [f4 _ _ (by omega) (by omega)]; exact s3, by rw [g4 _ _ (by omega)]; exact h3⟩, r4, ⟨by rw [h41]; rfl, fun j hj => absurd hj (by simp)⟩, by rw [h39]; rfl, hk23, ⟨by omega, Int.le_refl _⟩, ⟨Int.le_refl _, by omega⟩, by simp, fun e => absurd e (by decide)⟩
    refine ⟨F.length + 1, enc_loop hL hB hFl hF hg _ F.length 0 0 0 [] C4 M _ rfl (by omega) hRE (hRow.cg (g4 _ _ (by omega)) (fun j => g4 _ _ (by omega))) hD (fun C5 req ys hex fC hre => ?_)⟩
    obtain ⟨Mw, hRw, fMw⟩ := hex
    have hRw0 := hRw
    obtain ⟨⟨lo5, n5, D5, m5, hW5⟩, ⟨-, -, -, r4', r5'⟩, r6', -, -, -, r10', r11', r12', r13'⟩ := hRw
    have e02 : Mw 0 2 = M 0 2 := fMw.1 _ _ (by omega)
    have w60 : Mw 6 0 = ((lo5 + n5 : Nat) : Int) := hW5.2.2.2.1.2.1.2.1
    have wb := hW5.1
    rw [e02] at r13'
    have hlen := startO_len (M 0 2) (M 6 0) req
    refine x10_encodeStart (o := o) (cap := M 0 2) (base := M 6 0) (req := req) hL hW5.2.1 (by rw [hW5.2.2.1.2.2.2.2.2.1]; exact e02) h02 r5' r4' (by omega) (by omega) r13' (hR3.cg (by rw [fC _ _ (by omega), g4 _ _ (by omega)]) (fun j => by rw [fC _ _ (by omega), g4 _ _ (by omega)])) (fun C6 r6 f6 => ?_)
    refine x6_addAll r6 (r6'.cg (f6 _ _ (by omega) (by omega)) (fun j => f6 _ _ (by omega) (by omega))) (by omega) (by rw [hcp]; omega) (by rw [show W + 12 + 1 = W + 13 from rfl, (capW (by omega)).2.2.2.2.2.2.2]; omega) (fun C7 r7 f7 => ?_)
    have f67 := f6.tr f7
    refine hk C7 req ys g ⟨Mw, hRw0.cg hL (fun q j h1 h2 => f67 _ _ (by omega) (by omega)) (Fi.rf _), fMw⟩ (fun q j hq => by rw [f67 _ _ (by omega) (by omega), fC _ _ (by omega), g4 _ _ (by omega)]) r7 (fun k hk' => ?_)
    unfold b_X12_makes_30
    refine ⟨by decide, fun x3 e3 => ⟨F.length + 1, ?_⟩⟩
    rw [e3]
    refine hre M hRE hD _ _ (fun M' hR' fM' => fun M6 e6 => ?_)
    obtain ⟨i6, g6⟩ := In.new e6
    refine m_start (cap := M 0 2) i6 (by rw [g6 _ _ (by omega) (by omega)]; exact fM'.1 _ _ (by omega)) h02 (by omega) (by omega) r13' (fun M7 i7 g7 => ?_)
    have g67 := g6.tr g7
    exact hk' M7 (hR'.cg hL (fun q j h1 h2 => f67 _ _ (by omega) (by omega)) g67) (fM'.tr g67.toF) i7
  refine ⟨fun q => ?_, fun q => ⟨fun q2 => ?_, fun q2 => ?_⟩⟩
  · unfold b_X10_encode_18
    exact go 0 ⟨fun _ => .inr q, fun _ => rfl⟩
  · unfold b_X10_encode_18
    exact go 0 ⟨fun _ => .inl (hw.mp q2), fun _ => rfl⟩
  · refine go 1 ⟨fun e => absurd e (by decide), fun e => ?_⟩
    rcases e with e | e
    · exact absurd (hw.mpr e) q2
    · exact absurd e q
