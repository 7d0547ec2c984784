theorem o_repeats {u : Nat} {C M : hq_M} (h : JJ u C M) (hu : 8 * u + 8 ≤ 900000) (v : Int) : w_X11_repeats v C (fun z C' => w_X12_repeats v M (fun z' M' => z = z' ∧ JJ (u + 1) C' M')) := by
  have hJ := h
  obtain ⟨o, lo, n, D, m, hW, h09, ho⟩ := h.toWE hu
  have hsz := hW.szs
  have hF := hW.2.2.1.1
  have hL := hW.2.2.1.2.2.1
  have m60 := hW.2.2.2.1.2.1.2.1
  have m70 := hW.2.2.2.1.2.1.1
  have hT := hW.2.2.2.1.1
  have hlb := hW.1.2.2.2.1
  obtain ⟨w2, w3, w4, w7, w8, w9, w11, w13⟩ := capW (W := 370) (.inl rfl)
  unfold w_X11_repeats w_X10_repeatEntry
  refine x9_has hT ?_
  by_cases q : (lo : Int) ≤ v ∧ v < ((lo + n : Nat) : Int)
  · rw [if_pos q]
    obtain ⟨z1, z2, z3, z4, z5⟩ := hsz v.toNat (by omega) (by omega)
    refine ⟨fun _ => x6_empty (fun C1 r1 f1 => ?_), fun e => absurd e (by decide)⟩
    have g1 : ∀ q j, q < 380 → C1 q j = C q j := fun q j hq => f1 q j (by omega) (by omega)
    rw [g1 (370 + 1) 3 (by omega), hT.2.1]
    have ol := octs_len 0 5 (((lo + n : Nat) : Int) - 1 - v)
    refine ⟨⟨by omega, by omega⟩, ⟨by omega, by omega⟩, x6_addInteger (by decide) (by decide) (by omega) r1 (by rw [show 370 + 10 + 1 = 370 + 11 by omega, w11, List.length_nil]; omega) (fun C2 r2 f2 => ?_)⟩
    rw [List.nil_append] at r2
    have f12 := f1.tr f2
    have g2 : ∀ q j, q < 380 → C2 q j = C q j := fun q j hq => f12 q j (by omega) (by omega)
    have hW2 : WE C2 M 370 o lo n D m 40 (8 * u) := hW.cg (fun q j hq => g2 _ _ (by omega)) (fun _ _ _ => rfl)
    refine x9_fieldAt (i := v.toNat) (by decide +kernel) (by omega) (x9_sizeAt (i := v.toNat) (by decide +kernel) (by omega) ?_)
    rw [show 370 + 1 + 1 = 370 + 2 by omega, show 370 + 1 + 2 = 370 + 3 by omega, g2 _ _ (by omega), g2 _ _ (by omega), z3, z2]
    have ef : M 10 (v.toNat % 64) = (((M 10 (v.toNat % 64)).toNat : Nat) : Int) := by omega
    have ees : es M 0 v.toNat = sz M (M 10 (v.toNat % 64)).toNat := by unfold es; rw [Nat.mul_zero, Nat.zero_add]
    rw [ef, ees]
    refine x10_ins hW2 r2 (by omega) (by omega) (fun r e C' hio hC' => ?_)
    unfold w_X12_repeats
    refine m_isThere (t := 0) rfl (by decide) (by omega) ?_
    rw [if_pos (by omega)]
    refine ⟨fun _ => fun M2 e2 => ?_, fun e => absurd e (by decide)⟩
    obtain ⟨i2, fi2⟩ := In.new e2
    rw [fi2.cg0 6 0 (by omega), m60]
    refine ⟨by decide, ⟨by omega, by omega⟩, ⟨by omega, by omega⟩, m_laysNumber (by decide) (by decide) (by omega) i2 (by rw [List.length_nil]; omega) (fun M7 i7 f7 => ?_)⟩
    rw [List.nil_append] at i7
    have fm := (fi2.tr f7).cg0
    refine m_fieldAt (t := 0) (i := v.toNat) rfl (by decide) (by omega) ?_
    rw [Nat.mul_zero, Nat.zero_add, fm 10 _ (by omega), ef]
    have hW7 : WE C M7 370 o lo n D m 40 (8 * u) := hW.cg (fun _ _ _ => rfl) (fun q j hq => fm _ _ (by omega))
    have ez : ∀ g, sz M7 g = sz M g := fun g => by unfold sz; rw [fm 1 _ (by omega), fm 2 _ (by omega)]
    have ees' : es M7 0 = es M 0 := by funext i; unfold es; rw [ez, fm 10 _ (by omega)]
    have ehe : (fun i => held M7 i = false) = (fun i => held M i = false) := by
      funext i
      have : held M7 i = held M i := by
        unfold held
        rw [mr_cg (M := M) (fm _ _ (by omega)) (fun j _ => fm _ _ (by omega)), fm 0 25 (by omega)]
        congr 1
        have : (fun k => hb M7 k i) = (fun k => hb M k i) := by
          funext k
          exact hb_cg (fm _ _ (by omega)) (fm _ _ (by omega)) (fun j _ => fm _ _ (by omega))
        rw [this]
      rw [this]
    have hio7 : IOx M7 lo n (M 10 (v.toNat % 64)).toNat r e (octs 0 5 (((lo + n : Nat) : Int) - 1 - v)) := by
      unfold IOx
      rw [ez, ees', ehe, fm 8 0 (by omega), fm 0 23 (by omega), fm 0 43 (by omega)]
      exact hio
    refine m_ins hW7 i7 (by omega) (by rw [fm 0 0 (by omega)]; omega) hio7 (fun M' hM' => ⟨rfl, ?_⟩)
    rcases hM' with ⟨a, b⟩ | ⟨a, hM'⟩
    · rcases hC' with ⟨a2, b2⟩ | ⟨a2, hC'⟩
      · rw [b, b2]
        exact hJ.ofWE h09 (hW2.cg (fun _ _ _ => rfl) (fun q j hq => fm _ _ (by omega))) (by omega) (by rw [fm 6 0 (by omega)]; omega) (fun q j hq => f12 _ _ (by omega) (by omega)) (fun q j hq => fm _ _ (by omega))
      · omega
    · rcases hC' with ⟨a2, b2⟩ | ⟨a2, hC'⟩
      · omega
      · have hW27 : WE C2 M7 370 o lo n D m 40 (8 * u) := hW2.cg (fun _ _ _ => rfl) (fun q j hq => fm _ _ (by omega))
        have hC'' : CIp C2 C' 370 lo n D m e (((M 10 (v.toNat % 64)).toNat : Nat) : Int) (sz M7 (M 10 (v.toNat % 64)).toNat) (sg M7 24 0 (M7 0 43).toNat) (octs 0 5 (((lo + n : Nat) : Int) - 1 - v)) := by
          rw [ez, fm 0 43 (by omega), show sg M7 24 0 (M 0 43).toNat = sg M 24 0 (M 0 43).toNat from sg_eq (fun i _ => fm _ _ (by omega))]
          exact hC'
        have hrel := IOx.rel hW27 (by omega) ol.1 (by rw [fm 0 0 (by omega)]; omega) a hio7 hC'' hM'
        have p6 := hM'.2.1
        obtain ⟨-, -, -, -, -, -, -, -, -, -, fC⟩ := hC'
        obtain ⟨-, -, -, -, -, -, -, -, -, -, -, fM⟩ := hM'
        exact hJ.ofWE h09 hrel (by omega) (by rw [p6, m60]; omega) (fun q j hq => by rw [fC _ _ (by omega), f12 _ _ (by omega) (by omega)]) (fun q j hq => by rw [fM _ _ (by omega), fm _ _ (by omega)])
  · rw [if_neg q]
    refine ⟨fun e => absurd rfl e, fun _ => ?_⟩
    unfold w_X12_repeats
    refine m_isThere (t := 0) rfl (by decide) (by omega) ?_
    rw [if_neg (by omega)]
    exact ⟨fun e => absurd rfl e, fun _ => ⟨rfl, hJ.mono (by omega)⟩⟩
