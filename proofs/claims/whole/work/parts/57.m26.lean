/-! ===== the mathematics, part 26: one field of a section, the reference ===== -/
def Md (M : hq_M) (ys : List Int) : Prop := M 0 41 = (ys.length : Int) ∧ ∀ j, j < ys.length → M 23 j = gd ys j
def MG (M M' : hq_M) (i : Nat) (ref : Int) (xs : List Int) : Prop := In M' xs ∧ M' 22 i = ref ∧ ∀ o j, ¬ (o = 28 ∨ (o = 0 ∧ j = 49) ∨ (o = 22 ∧ j = i)) → M' o j = M o j
def MF (M1 M' : hq_M) (i : Nat) (ref : Int) (ys xs : List Int) : Prop := M' 0 39 = ((i + 1 : Nat) : Int) ∧ M' 22 i = ref ∧ Md M' (ys ++ xs) ∧ ∀ o j, ¬ (o = 28 ∨ (o = 0 ∧ (j = 39 ∨ j = 41 ∨ j = 49)) ∨ (o = 22 ∧ j = i) ∨ o = 23) → M' o j = M1 o j
def MQf (Mr M1 : hq_M) (lo n m f : Nat) (q : Option (Nat × List Int)) : Prop := (q = none ∧ Fi Mr M1) ∨ ∃ e is, q = some (e, is) ∧ MIp Mr M1 lo n m e (f : Int) is
theorem m_laysToLetter {M : hq_M} {xs ys : List Int} {kk : hq_M → Prop} (hx : In M xs) (hy : Md M ys) (hxl : xs.length ≤ 32) (hl : ys.length + xs.length ≤ 112) (hk : ∀ M', Md M' (ys ++ xs) → (∀ o j, ¬ (o = 23 ∨ (o = 0 ∧ (j = 41 ∨ j = 49))) → M' o j = M o j) → kk M') : w_X12_laysToLetter M kk := by
  unfold w_X12_laysToLetter
  refine ⟨xs.length + 1, ?_⟩
  have key : ∀ (d i : Nat) (z : Int) (N : hq_M), z = (i : Int) → i + d = xs.length → Md N (ys ++ xs.take i) → (∀ o j, ¬ (o = 23 ∨ (o = 0 ∧ j = 41)) → N o j = M o j) → l_X12_laysToLetter_2 (fun M1 => ∀ M2 : hq_M, M2 = hq_up M1 0 49 0 → kk M2) kk (d + 1) z N := by
    intro d
    induction d with
    | zero =>
      intro i z N hz hi hN hF
      rw [l_X12_laysToLetter_2, hF 0 49 (by omega), hx.1]
      refine ⟨fun _ => fun M2 e2 => ?_, fun q => by omega⟩
      rw [List.take_of_length_le (by omega)] at hN
      refine hk M2 ⟨by rw [e2, hq_up_n _ _ (by omega)]; exact hN.1, fun j hj => by rw [e2, hq_up_n _ _ (by omega)]; exact hN.2 j hj⟩ (fun o j ho => ?_)
      rw [e2, hq_up_n _ _ (by omega)]
      exact hF o j (by omega)
    | succ d ih =>
      intro i z N hz hi hN hF
      obtain ⟨n1, n2⟩ := hN
      have hle : (ys ++ xs.take i).length = ys.length + i := by simp; omega
      rw [hle] at n1 n2
      rw [l_X12_laysToLetter_2, hF 0 49 (by omega), hx.1, n1, show z.toNat = i by omega, show ((ys.length + i : Nat) : Int).toNat = ys.length + i by omega, hF 28 i (by omega), hx.2 i (by omega)]
      refine ⟨fun q => by omega, fun _ => ⟨⟨by omega, by omega⟩, ⟨by omega, by omega⟩, fun M6 e6 => ?_⟩⟩
      have s6 : M6 0 41 = ((ys.length + i : Nat) : Int) := by rw [e6, hq_up_n _ _ (by omega)]; exact n1
      rw [s6]
      refine ⟨⟨by omega, by omega⟩, fun M9 e9 => ⟨⟨by omega, by omega⟩, fun x10 e10 => ?_⟩⟩
      refine ih (i + 1) x10 M9 (by omega) (by omega) ⟨?_, fun j hj => ?_⟩ (fun o j ho => ?_)
      · rw [e9, up_self]
        have : (ys ++ xs.take (i + 1)).length = ys.length + (i + 1) := by simp; omega
        rw [this]
        omega
      · have hl2 : (ys ++ xs.take (i + 1)).length = ys.length + (i + 1) := by simp; omega
        rw [hl2] at hj
        rw [e9, hq_up_n _ _ (by omega), e6, take_snoc (by omega), ← List.append_assoc]
        by_cases q : j = ys.length + i
        · rw [q, up_self]
          have := gd_snoc (xs := ys ++ xs.take i) (v := gd xs i)
          rw [hle] at this
          exact this.symm
        · rw [hq_up_n _ _ (by omega), gd_left (by rw [hle]; omega)]
          exact n2 j (by omega)
      · rw [e9, hq_up_n _ _ (by omega), e6, hq_up_n _ _ (by omega)]
        exact hF o j ho
  exact key xs.length 0 0 M rfl (by omega) (by simpa using hy) (fun _ _ _ => rfl)
theorem m_fin {Mq M7 : hq_M} {i : Nat} {ref : Int} {ys xs : List Int} {kk : hq_M → Prop} (hi : i < 6) (h39 : Mq 0 39 = (i : Int)) (hg : MG Mq M7 i ref xs) (hy : Md Mq ys) (hl : ys.length + xs.length ≤ 112) (hx : xs.length ≤ 32) (hk : ∀ M', MF Mq M' i ref ys xs → kk M') : b_X12_laysField_143 kk M7 := by
  obtain ⟨g1, g2, g3⟩ := hg
  unfold b_X12_laysField_143
  refine m_laysToLetter g1 ⟨by rw [g3 0 41 (by omega)]; exact hy.1, fun j hj => by rw [g3 23 j (by omega)]; exact hy.2 j hj⟩ hx hl (fun M1 h1 f1 => ?_)
  rw [f1 0 39 (by omega), g3 0 39 (by omega), h39]
  refine ⟨⟨by omega, by omega⟩, fun M4 e4 => hk M4 ⟨by rw [e4, up_self]; omega, by rw [e4, hq_up_n _ _ (by omega), f1 _ _ (by omega)]; exact g2, ⟨by rw [e4, hq_up_n _ _ (by omega)]; exact h1.1, fun j hj => by rw [e4, hq_up_n _ _ (by omega)]; exact h1.2 j hj⟩, fun o j ho => by rw [e4, hq_up_n _ _ (by omega), f1 _ _ (by omega), g3 _ _ (by omega)]⟩⟩
theorem m_laysLike {M : hq_M} {v base : Int} {i : Nat} {kk : hq_M → Prop} (hv : 0 ≤ v ∧ v ≤ 1000000) (hb : 0 ≤ base ∧ base ≤ 1000000) (h39 : M 0 39 = (i : Int)) (hi : i < 6) (hk : ∀ M', MG M M' i v (likeO base v) → kk M') : w_X12_laysLike v base M kk := by
  have ol1 := octs_len 16 4 (v - base)
  have ol2 := octs_len 128 6 (base - 1 - v)
  unfold w_X12_laysLike
  intro M1 e1
  obtain ⟨i1, f1⟩ := In.new e1
  unfold likeO at hk
  have fin : ∀ M3 xs, In M3 xs → Fi M M3 → (∀ M', MG M M' i v xs → kk M') → b_X12_laysLike_37 v kk M3 := by
    intro M3 xs i3 f3 hk
    unfold b_X12_laysLike_37 w_X12_refersTo
    rw [f3 0 39 (by omega) (by omega), h39, show ((i : Nat) : Int).toNat = i by omega]
    refine ⟨⟨by omega, by omega⟩, fun M4 e4 => hk M4 ⟨⟨by rw [e4, hq_up_n _ _ (by omega)]; exact i3.1, fun j hj => by rw [e4, hq_up_n _ _ (by omega)]; exact i3.2 j hj⟩, by rw [e4, up_self], fun o j ho => by rw [e4, hq_up_n _ _ (by omega)]; exact f3 _ _ (by omega) (by omega)⟩⟩
  refine ⟨fun q => ⟨⟨by omega, by omega⟩, ?_⟩, fun q => ⟨⟨by omega, by omega⟩, ⟨by omega, by omega⟩, ?_⟩⟩
  · rw [if_pos q] at hk
    exact m_laysNumber (by decide) (by decide) (by omega) i1 (by rw [List.length_nil]; omega) (fun M3 i3 f3 => fin M3 _ (by simpa using i3) (f1.tr f3) hk)
  · rw [if_neg q] at hk
    exact m_laysNumber (by decide) (by decide) (by omega) i1 (by rw [List.length_nil]; omega) (fun M3 i3 f3 => fin M3 _ (by simpa using i3) (f1.tr f3) hk)
theorem m_laysByName {C M : hq_M} {W o lo n D m c B f i : Nat} {v top base y3 y7 : Int} {kk : hq_M → Prop} (h : WE C M W o lo n D m c B) (hv : v = (f : Int)) (hf : f < (M 0 0).toNat) (ht : 0 ≤ top ∧ top ≤ 2147483647) (hb : 0 ≤ base ∧ base ≤ 1000000) (h39 : M 0 39 = (i : Int)) (hi : i < 6) (h22 : M 22 i = -9) (h3 : SN3 M f y3) (h7 : NMH M lo n f top y7) (hk : ∀ M', MG M M' i (if y3 = -9 then y7 else -9) (nameO M f base y3 y7) → kk M') : w_X12_laysByName v top base M kk := by
  have hsz := h.szs
  have hWE := h
  obtain ⟨⟨ho, hW, hc40, b1, b2, b3⟩, h4, hS, hT, hH, hQ, h5, hkn, hSM, hDE⟩ := h
  have hL := hS.2.2.1
  have hF := hS.1
  have hN1 := hS.2.1
  have hn6 := nm_len hL (f := f) (by omega)
  have hv6 := vl_len hL (f := f) (by omega)
  have hL1 := hL f (by omega)
  have m6 := hT.2.1.2.1
  have m7 := hT.2.1.1
  have hxb3 := h3.bd
  have hxb7 := h7.bd
  unfold w_X12_laysByName
  intro M1 e1
  obtain ⟨i1, f1⟩ := In.new e1
  have g1 : ∀ q j, ¬ (q = 28 ∨ (q = 0 ∧ j = 49)) → M1 q j = M q j := fun q j hq => f1 q j (by omega) (by omega)
  have hL1' : Lo6 M1 := fun g hg => by rw [g1 1 g (by omega), g1 2 g (by omega)]; exact hL g hg
  have enm : ∀ g, nm M1 g = nm M g := fun g => nm_cg (g1 _ _ (by omega)) (fun j => g1 _ _ (by omega))
  refine m_stillOf (f := f) hv (by omega) hL1' (by rw [g1 0 1 (by omega)]; exact hS.2.1) (fun z3 hz3 => ?_)
  have ey3 : z3 = y3 := by
    rw [g1 0 1 (by omega)] at hz3
    refine IsLo.un (IsLo.cg (fun i hi => ?_) hz3) h3
    rw [enm, enm]
    constructor
    · exact fun hh => hh.1
    · exact fun hh => ⟨hh, .inl rfl⟩
  subst ey3
  refine m_latest (lo := lo) (n := n) (f := f) hv (by omega) hL1' (by rw [g1 7 0 (by omega)]; exact m7) (by rw [g1 6 0 (by omega)]; exact m6) (by omega) (fun i a b => by rw [g1 10 _ (by omega)]; have := hsz i a b; omega) ht (fun z7 hz7 => ?_)
  have ey7 : z7 = y7 := by
    refine IsHi.un (IsHi.cg (fun i a b => ?_) hz7) h7
    rw [enm, enm, g1 10 _ (by omega)]
    constructor
    · rintro (hh | hh)
      · exact hh.2
      · exact absurd rfl hh.1
    · exact fun hh => .inl ⟨rfl, hh⟩
  subst ey7
  unfold nameO at hk
  have fin : ∀ (M2 : hq_M) (zs : List Int) (ref : Int), zs.length ≤ 7 → In M2 zs → M2 22 i = ref → (∀ o j, ¬ (o = 28 ∨ (o = 0 ∧ j = 49) ∨ (o = 22 ∧ j = i)) → M2 o j = M o j) → (∀ M', MG M M' i ref (zs ++ ((0 + ((vl M f).length : Int)) :: vl M f)) → kk M') → b_X12_laysByName_107 v kk M2 := by
    intro M2 zs ref hzl i2 h22 f2 hk
    have evl : vl M2 f = vl M f := vl_cg (f2 _ _ (by omega)) (fun j => f2 _ _ (by omega))
    unfold b_X12_laysByName_107
    refine m_laysValue (f := f) hv (by omega) (by rw [f2 2 f (by omega)]; exact hL1.2) i2 (by rw [evl]; omega) (fun M3 i3 f3 => hk M3 ⟨by rw [← evl]; exact i3, by rw [f3 _ _ (by omega) (by omega)]; exact h22, fun o j ho => by rw [f3 _ _ (by omega) (by omega)]; exact f2 o j ho⟩)
  have ol1 := octs_len 0 3 (z7 - base)
  have ol2 := octs_len 64 4 (base - 1 - z7)
  have ol3 := octs_len 80 4 z3
  refine ⟨fun q => ⟨fun q2 => ⟨⟨by omega, by omega⟩, ?_⟩, fun q2 => ?_⟩, fun q => ?_⟩
  · rw [if_pos q, if_pos q2, if_pos q] at hk
    have ho : octs 32 3 (M 1 f) = [32 + ((nm M f).length : Int)] := by
      rw [octs_one (show M 1 f < pw 3 - 1 from Int.lt_of_le_of_lt hL1.1.2 (by decide)), hn6.2]
    rw [show v.toNat = f by omega, g1 1 f (by omega)]
    refine m_laysNumber (by decide) (by decide) (by omega) i1 (by rw [ho]; simp) (fun M2 i2 f2 => ?_)
    rw [ho, List.nil_append] at i2
    have f02 := f1.tr f2
    have enm2 : nm M2 f = nm M f := nm_cg (f02 _ _ (by omega) (by omega)) (fun j => f02 _ _ (by omega) (by omega))
    refine m_laysName (f := f) hv (by omega) (by rw [f02 1 f (by omega) (by omega)]; exact hL1.1) i2 (by rw [enm2]; simp; omega) (fun M3 i3 f3 => ?_)
    have f03 := f02.tr f3
    rw [enm2] at i3
    exact fin M3 ((32 + ((nm M f).length : Int)) :: nm M f) z7 (by simp only [List.length_cons]; omega) i3 (by rw [f03 _ _ (by omega) (by omega), h22, q2]) (fun o j ho => f03 _ _ (by omega) (by omega)) hk
  · rw [if_pos q, if_pos q, if_neg q2] at hk
    unfold w_X12_refersTo
    rw [g1 0 39 (by omega), h39, show ((i : Nat) : Int).toNat = i by omega]
    refine ⟨⟨by omega, by omega⟩, fun M8 e8 => ?_⟩
    have i8 : In M8 [] := ⟨by rw [e8, hq_up_n _ _ (by omega)]; exact i1.1, by simp⟩
    have f8 : ∀ o j, ¬ (o = 28 ∨ (o = 0 ∧ j = 49) ∨ (o = 22 ∧ j = i)) → M8 o j = M o j := fun o j ho => by rw [e8, hq_up_n _ _ (by omega)]; exact g1 _ _ (by omega)
    have s8 : M8 22 i = z7 := by rw [e8, up_self]
    refine ⟨fun q3 => ⟨⟨by omega, by omega⟩, ?_⟩, fun q3 => ⟨⟨by omega, by omega⟩, ⟨by omega, by omega⟩, ?_⟩⟩
    · rw [if_pos q3] at hk
      exact m_laysNumber (by decide) (by decide) (by omega) i8 (by rw [List.length_nil]; omega) (fun M3 i3 f3 => fin M3 _ z7 (by omega) (by simpa using i3) (by rw [f3 _ _ (by omega) (by omega)]; exact s8) (fun o j ho => by rw [f3 _ _ (by omega) (by omega)]; exact f8 o j ho) hk)
    · rw [if_neg q3] at hk
      exact m_laysNumber (by decide) (by decide) (by omega) i8 (by rw [List.length_nil]; omega) (fun M3 i3 f3 => fin M3 _ z7 (by omega) (by simpa using i3) (by rw [f3 _ _ (by omega) (by omega)]; exact s8) (fun o j ho => by rw [f3 _ _ (by omega) (by omega)]; exact f8 o j ho) hk)
  · rw [if_neg q, if_neg q] at hk
    exact m_laysNumber (by decide) (by decide) (by omega) i1 (by rw [List.length_nil]; omega) (fun M3 i3 f3 => fin M3 _ (-9) (by omega) (by simpa using i3) (by rw [f3 _ _ (by omega) (by omega), g1 _ _ (by omega)]; exact h22) (fun o j ho => by rw [f3 _ _ (by omega) (by omega)]; exact g1 _ _ (by omega)) hk)
theorem m_laysField {C M : hq_M} {W o lo n D m c B f i : Nat} {v v2 v3 base any gr ref : Int} {ys xs : List Int} {q : Option (Nat × List Int)} {kk : hq_M → Prop} (h : WE C M W o lo n D m c B) (hk23 : M 0 23 ≤ 1000000) (hv : v = (f : Int)) (hf : f < (M 0 0).toNat) (hany : v2 = any) (hg : gr = 0 ↔ (v3 = 0 ∨ v2 = 0)) (hb : 0 ≤ base ∧ base ≤ 1000000) (h39 : M 0 39 = (i : Int)) (hi : i < 6) (hy : Md M ys) (hyl : ys.length + 14 ≤ 112) (hfe : FE (hq_up M 22 i (-9)) lo n f base any gr ref xs q) (hk : ∀ M1 M', MQf (hq_up M 22 i (-9)) M1 lo n m f q → MF M1 M' i ref ys xs → kk M') : w_X12_laysField v v2 v3 base M kk := by
  unfold w_X12_laysField w_X12_refersTo
  rw [h39, show ((i : Nat) : Int).toNat = i by omega]
  refine ⟨⟨by omega, by omega⟩, fun M1 e1 => ?_⟩
  have f1 : ∀ o j, ¬ (o = 22 ∧ j = i) → M1 o j = M o j := fun o j ho => by rw [e1]; simp only [hq_up]; rw [if_neg ho]
  have s1 : M1 22 i = -9 := by rw [e1, up_self]
  rw [← e1] at hfe hk
  have hW1 : WE C M1 W o lo n D m c B := h.cg (fun _ _ _ => rfl) (fun q j hq => f1 _ _ (by omega))
  have h39' : M1 0 39 = (i : Int) := by rw [f1 _ _ (by omega)]; exact h39
  have hy1 : Md M1 ys := ⟨by rw [f1 _ _ (by omega)]; exact hy.1, fun j hj => by rw [f1 _ _ (by omega)]; exact hy.2 j hj⟩
  have hk23' : M1 0 23 ≤ 1000000 := by rw [f1 _ _ (by omega)]; exact hk23
  have hf1 : f < (M1 0 0).toNat := by rw [f1 _ _ (by omega)]; exact hf
  clear h h39 hk23 hf hy e1 f1
  have hsz := hW1.szs
  have hWE := hW1
  obtain ⟨⟨ho, hW, hc40, b1, b2, b3⟩, h4, hS, hT, hH, hQ, h5, hkn, hSM, hDE⟩ := hW1
  have hL := hS.2.2.1
  have hF := hS.1
  have hN1 := hS.2.1
  have hv6 := vl_len hL (f := f) (by omega)
  have m6 := hT.2.1.2.1
  have m7 := hT.2.1.1
  subst hany
  refine m_stillOf (f := f) hv (by omega) hL hS.2.1 (fun z3 hz3 => ?_)
  have hz3' : SL3 M1 f z3 := by
    refine IsLo.cg (fun i hi => ?_) hz3
    constructor
    · rintro ⟨a, b⟩
      exact ⟨a, b.resolve_left (by decide)⟩
    · rintro ⟨a, b⟩
      exact ⟨a, .inr b⟩
  rcases hfe with ⟨x3, k1, k2, k3, k4, k5⟩ | ⟨k1, hfe⟩
  · have : x3 = z3 := IsLo.un k1 hz3'
    subst this
    have hb3 := k1.bd
    have ol := octs_len 192 6 x3
    refine ⟨fun e => absurd e k2, fun _ => fun M6 e6 => ?_⟩
    obtain ⟨i6, f6⟩ := In.new e6
    refine m_laysNumber (by decide) (by decide) (by omega) i6 (by rw [List.length_nil]; omega) (fun M7 i7 f7 => ?_)
    have f67 := f6.tr f7
    subst k3 k4 k5
    refine m_fin (Mq := M1) (ref := -9) (ys := ys) hi h39' ⟨by simpa using i7, by rw [f67 _ _ (by omega) (by omega)]; exact s1, fun o j ho => f67 _ _ (by omega) (by omega)⟩ hy1 (by omega) (by omega) (fun M' hM' => hk M1 M' (.inl ⟨rfl, Fi.rf _⟩) hM')
  · have : z3 = -9 := IsLo.un hz3' k1
    subst this
    have go : b_X12_laysField_59 v v2 v3 base v (tpv M1 lo n v2) kk M1 := by
      have htp : 0 ≤ tpv M1 lo n v2 ∧ tpv M1 lo n v2 ≤ 2147483647 := by
        unfold tpv
        split <;> omega
      unfold b_X12_laysField_59
      refine m_latest (lo := lo) (n := n) (f := f) hv (by clear hfe; omega) hL m7 m6 (by clear hfe; omega) (fun i a b => by clear hfe; have := hsz i a b; omega) htp (fun z5 hz5 => ?_)
      have hz5' : LKH M1 lo n f (tpv M1 lo n v2) z5 := by
        refine IsHi.cg (fun i a b => ?_) hz5
        rw [hv]
        constructor
        · rintro (hh | hh)
          · exact absurd hh.1 (by decide)
          · exact hh.2
        · exact fun hh => .inr ⟨by decide, hh⟩
      -- by its name
      have val : ∀ M2, Fi M1 M2 → q = none → (∃ y3 y7, SN3 M1 f y3 ∧ NMH M1 lo n f (tpv M1 lo n v2) y7 ∧ xs = nameO M1 f base y3 y7 ∧ ref = (if y3 = -9 then y7 else -9)) → b_X12_laysField_101 v v2 base (-9) kk M2 := by
        intro M2 f2 hq hyy
        obtain ⟨y3, y7, a1, a2, a3, a4⟩ := hyy
        have g2 : ∀ q j, ¬ (q = 28 ∨ (q = 0 ∧ j = 49)) → M2 q j = M1 q j := fun q j hq => f2 q j (by omega) (by omega)
        have enm : ∀ g, nm M2 g = nm M1 g := fun g => nm_cg (g2 _ _ (by omega)) (fun j => g2 _ _ (by omega))
        have evl : ∀ g, vl M2 g = vl M1 g := fun g => vl_cg (g2 _ _ (by omega)) (fun j => g2 _ _ (by omega))
        have hnl := nameO_len (base := base) (y3 := y3) (y7 := y7) hL (f := f) (by clear hfe a1 a2 a3 a4 hk; omega)
        have byn : ∀ top, top = tpv M1 lo n v2 → b_X12_laysField_138 base v top kk M2 := by
          intro top htop
          subst htop
          unfold b_X12_laysField_138
          refine m_laysByName (y3 := y3) (y7 := y7) (hWE.cg (fun _ _ _ => rfl) (fun q j hq => g2 _ _ (by omega))) hv (by rw [g2 0 0 (by omega)]; exact hf1) htp hb (by rw [g2 0 39 (by omega)]; exact h39') hi (by rw [g2 22 i (by omega)]; exact s1) ?_ ?_ (fun M3 h3 => ?_)
          · unfold SN3
            rw [g2 0 1 (by omega)]
            exact IsLo.cg (fun i hi => by rw [enm, enm]) a1
          · exact IsHi.cg (fun i a b => by rw [enm, enm, g2 10 _ (by omega)]) a2
          · have eno : nameO M2 f base y3 y7 = xs := by rw [a3]; unfold nameO; rw [enm, evl]
            rw [eno, ← a4] at h3
            exact m_fin (Mq := M2) (ys := ys) hi (by rw [g2 0 39 (by omega)]; exact h39') h3 ⟨by rw [g2 0 41 (by omega)]; exact hy1.1, fun j hj => by rw [g2 23 j (by omega)]; exact hy1.2 j hj⟩ (by rw [a3]; omega) (by rw [a3]; omega) (fun M' hM' => hk M2 M' (.inl ⟨hq, f2⟩) hM')
        unfold b_X12_laysField_101
        refine ⟨fun _ => ⟨fun q0 => ?_, fun q0 => ⟨by decide, ?_⟩⟩, fun e => absurd rfl e⟩
        · exact byn _ (by unfold tpv; rw [if_pos q0, g2 0 23 (by omega)])
        · exact byn _ (by unfold tpv; rw [if_neg q0, g2 6 0 (by omega)]; exact m6)
      have hb5 := hz5'.bd
      have ll := likeO_len base ref
      rcases hfe with ⟨k2, k3, k4, k5⟩ | ⟨k2, ⟨k3, x3, x7, e, hfi, hio, k4, k5, k6⟩ | ⟨hno, k5, hyy⟩⟩
      · have : z5 = ref := IsHi.un hz5' k3
        subst this
        refine ⟨fun _ => ?_, fun e => by omega⟩
        unfold b_X12_laysField_101
        refine ⟨fun e => by omega, fun _ => ?_⟩
        refine m_laysLike (by omega) hb h39' hi (fun M4 h4 => ?_)
        rw [← k4] at h4
        exact m_fin (ys := ys) hi h39' h4 hy1 (by rw [k4]; omega) (by rw [k4]; omega) (fun M' hM' => hk M1 M' (.inl ⟨k5, Fi.rf _⟩) hM')
      · have : z5 = -9 := IsHi.un hz5' k2
        subst this
        have hno : ¬ (v3 = 0 ∨ v2 = 0) := fun hh => k3 (hg.mpr hh)
        refine ⟨fun e => absurd rfl e, fun _ => ⟨fun e => absurd (.inl e) hno, fun _ => ⟨fun e => absurd (.inr e) hno, fun _ => ?_⟩⟩⟩
        refine m_insertsField hWE hv hf1 hfi hio (fun M2 hM2 => ⟨fun _ => ?_, fun e => by omega⟩)
        rcases hM2 with ⟨hh, -⟩ | ⟨-, hM2⟩
        · omega
        · have fr := hM2.2.2.2.2.2.2.2.2.2.2.2
          unfold b_X12_laysField_99 b_X12_laysField_101
          refine ⟨fun e => by omega, fun _ => ?_⟩
          refine m_laysLike (by omega) hb (by rw [fr 0 39 (by omega)]; exact h39') hi (fun M4 h4 => ?_)
          rw [← k4, ← k5] at h4
          exact m_fin (ys := ys) hi (by rw [fr 0 39 (by omega)]; exact h39') h4 ⟨by rw [fr 0 41 (by omega)]; exact hy1.1, fun j hj => by rw [fr 23 j (by omega)]; exact hy1.2 j hj⟩ (by rw [k5]; omega) (by rw [k5]; omega) (fun M' hM' => hk M2 M' (.inr ⟨e, _, k6, hM2⟩) hM')
      · have : z5 = -9 := IsHi.un hz5' k2
        subst this
        refine ⟨fun e => absurd rfl e, fun _ => ⟨fun _ => val M1 (Fi.rf _) k5 hyy, fun n3 => ⟨fun _ => val M1 (Fi.rf _) k5 hyy, fun n2 => ?_⟩⟩⟩
        rcases hno with g0 | ⟨x3, x7, r, e, hfi, hio, hr⟩
        · rcases hg.mp g0 with hh | hh
          · exact absurd hh n3
          · exact absurd hh n2
        · refine m_insertsField hWE hv hf1 hfi hio (fun M2 hM2 => ⟨fun e => by omega, fun _ => ?_⟩)
          rcases hM2 with ⟨-, f2⟩ | ⟨hh, -⟩
          · unfold b_X12_laysField_99
            exact val M2 f2 k5 hyy
          · omega
    refine ⟨fun _ => ⟨fun q0 => ?_, fun q0 => ⟨by decide, ?_⟩⟩, fun e => absurd rfl e⟩
    · have : tpv M1 lo n v2 = M1 0 23 := by unfold tpv; rw [if_pos q0]
      rw [← this]
      exact go
    · have : tpv M1 lo n v2 = M1 6 0 := by unfold tpv; rw [if_neg q0]; exact m6.symm
      rw [← this]
      exact go
