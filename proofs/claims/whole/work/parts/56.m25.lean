/-! ===== the mathematics, part 25: one field of a section, the class ===== -/
def tpv (M : hq_M) (lo n : Nat) (any : Int) : Int := if any = 0 then M 0 23 else ((lo + n : Nat) : Int)
def likeO (base p : Int) : List Int := if base ≤ p then octs 16 4 (p - base) else octs 128 6 (base - 1 - p)
def nameO (M : hq_M) (f : Nat) (base y3 y7 : Int) : List Int := (if y3 = -9 then (if y7 = -9 then (32 + ((nm M f).length : Int)) :: nm M f else if base ≤ y7 then octs 0 3 (y7 - base) else octs 64 4 (base - 1 - y7)) else octs 80 4 y3) ++ ((0 + ((vl M f).length : Int)) :: vl M f)
def SL3 (M : hq_M) (f : Nat) (x : Int) : Prop := IsLo (fun i => nm M (8 + i) = nm M f ∧ vl M (8 + i) = vl M f) (M 0 1).toNat x
def SN3 (M : hq_M) (f : Nat) (x : Int) : Prop := IsLo (fun i => nm M (8 + i) = nm M f) (M 0 1).toNat x
def LKH (M : hq_M) (lo n f : Nat) (tp x : Int) : Prop := IsHi (fun i => M 10 (i % 64) = (f : Int)) lo (min tp ((lo + n : Nat) : Int)) x
def NMH (M : hq_M) (lo n f : Nat) (tp x : Int) : Prop := IsHi (fun i => nm M (M 10 (i % 64)).toNat = nm M f) lo (min tp ((lo + n : Nat) : Int)) x
/-- what becomes of a field: the place that it refers to (or -9), its octets, and the insertion that goes with it -/
def FE (M : hq_M) (lo n f : Nat) (base any gr ref : Int) (xs : List Int) (q : Option (Nat × List Int)) : Prop :=
  (∃ x3, SL3 M f x3 ∧ x3 ≠ -9 ∧ xs = octs 192 6 x3 ∧ ref = -9 ∧ q = none) ∨
  (SL3 M f (-9) ∧ ((0 ≤ ref ∧ LKH M lo n f (tpv M lo n any) ref ∧ xs = likeO base ref ∧ q = none) ∨
    (LKH M lo n f (tpv M lo n any) (-9) ∧ ((gr ≠ 0 ∧ ∃ x3 x7 e, FI M lo n f x3 x7 ∧ IOx M lo n f ((lo + n : Nat) : Int) e (ins M f x3 x7 ((lo + n : Nat) : Int)) ∧ ref = ((lo + n : Nat) : Int) ∧ xs = likeO base ref ∧ q = some (e, ins M f x3 x7 ((lo + n : Nat) : Int))) ∨
      ((gr = 0 ∨ ∃ x3 x7 r e, FI M lo n f x3 x7 ∧ IOx M lo n f r e (ins M f x3 x7 ((lo + n : Nat) : Int)) ∧ r < 0) ∧ q = none ∧ ∃ y3 y7, SN3 M f y3 ∧ NMH M lo n f (tpv M lo n any) y7 ∧ xs = nameO M f base y3 y7 ∧ ref = (if y3 = -9 then y7 else -9))))))
def CQ (C C1 M : hq_M) (W lo n D m f : Nat) (q : Option (Nat × List Int)) : Prop := (q = none ∧ Fa C C1 (W + 10)) ∨ ∃ e is, q = some (e, is) ∧ CIp C C1 W lo n D m e (f : Int) (sz M f) (sg M 24 0 (M 0 43).toNat) is
def CF (C1 C' : hq_M) (W L c : Nat) (ref : Int) (ys xs : List Int) : Prop := Rw C' (W + 12) (ys ++ xs) ∧ C' L 3 = (if 0 ≤ ref then max (C1 L 3) (ref + 1) else C1 L 3) ∧ (0 ≤ ref → C' (W + 4) (ref.toNat % 64) = hq_or (C1 (W + 4) (ref.toNat % 64)) (hq_lsh 1 (c : Int))) ∧ ∀ o j, ¬ (o = W + 12 ∨ o = W + 13 ∨ (o = L ∧ j = 3) ∨ (o = W + 4 ∧ 0 ≤ ref ∧ j = ref.toNat % 64)) → C' o j = C1 o j
def LW (W L c : Nat) : Prop := (W = 370 ∧ c < 40 ∧ L = 170 + 5 * c) ∨ (W = 391 ∧ c = 40 ∧ L = 405)
theorem CF_none {C C' : hq_M} {W L c : Nat} {ref : Int} {ys xs : List Int} (hL : LW W L c) (hr : Rw C' (W + 12) (ys ++ xs)) (f : Fa C C' (W + 12)) (h0 : ref < 0) : CF C C' W L c ref ys xs := by
  unfold LW at hL
  exact ⟨hr, by rw [if_neg (by omega)]; exact f _ _ (by omega) (by omega), fun h => absurd h (by omega), fun o j ho => f _ _ (by omega) (by omega)⟩
theorem CF_of {C C1 C' : hq_M} {W L c p : Nat} {v : Int} {ys xs : List Int} (hL : LW W L c) (hv : v = (p : Int)) (r1 : Rw C1 (W + 12) (ys ++ xs)) (f1 : Fa C C1 (W + 12)) (e3 : C' L 3 = max (C1 L 3) (v + 1)) (e4 : C' (W + 4) (p % 64) = hq_or (C1 (W + 4) (p % 64)) (hq_lsh 1 (c : Int))) (fr : ∀ o j, ¬ (o = L ∧ j = 3) → ¬ (o = W + 4 ∧ j = p % 64) → C' o j = C1 o j) : CF C C' W L c v ys xs := by
  unfold LW at hL
  have hp : v.toNat = p := by omega
  refine ⟨r1.cg (fr _ _ (by omega) (by omega)) (fun i => fr _ _ (by omega) (by omega)), ?_, fun _ => ?_, fun o j ho => ?_⟩
  · rw [if_pos (by omega), e3, f1 _ _ (by omega) (by omega)]
  · rw [hp, e4, f1 _ _ (by omega) (by omega)]
  · rw [fr _ _ (by omega) (by omega), f1 _ _ (by omega) (by omega)]
theorem CF_ext {C C1 C' : hq_M} {W L c : Nat} {ref : Int} {ys xs zs : List Int} (hL : LW W L c) (h : CF C C1 W L c ref ys xs) (r : Rw C' (W + 12) (ys ++ xs ++ zs)) (f : Fa C1 C' (W + 12)) : CF C C' W L c ref ys (xs ++ zs) := by
  unfold LW at hL
  obtain ⟨h1, h2, h3, h4⟩ := h
  refine ⟨by rw [← List.append_assoc]; exact r, by rw [f _ _ (by omega) (by omega)]; exact h2, fun hr => by rw [f _ _ (by omega) (by omega)]; exact h3 hr, fun o j ho => by rw [f _ _ (by omega) (by omega)]; exact h4 o j ho⟩
theorem x10_refer {W L p c : Nat} {v : Int} {C : hq_M} {kk : hq_M → Prop} (hL : LW W L c) (hv : v = (p : Int)) (hp : p ≤ 1000000) (hl : hq_len YC (W + 4) = 64) (h0 : C L 0 = (c : Int)) (hk : ∀ C' : hq_M, C' L 3 = max (C L 3) (v + 1) → C' (W + 4) (p % 64) = hq_or (C (W + 4) (p % 64)) (hq_lsh 1 (c : Int)) → (∀ o j, ¬ (o = L ∧ j = 3) → ¬ (o = W + 4 ∧ j = p % 64) → C' o j = C o j) → kk C') : w_X10_refer W L v C kk := by
  unfold LW at hL
  unfold w_X10_refer
  refine ⟨⟨by omega, by omega⟩, fun M3 e3 => ?_⟩
  have f3 : ∀ o j, ¬ (o = L ∧ j = 3) → M3 o j = C o j := fun o j ho => by rw [e3]; simp only [hq_up]; rw [if_neg ho]
  have s3 : M3 L 3 = max (C L 3) (v + 1) := by rw [e3, up_self]
  unfold w_X9_hold
  rw [show W + 1 + 3 = W + 4 from rfl, hl, show (v % 64).toNat = p % 64 by omega, f3 L 0 (by omega), h0]
  refine ⟨⟨by omega, by omega⟩, ⟨by omega, by omega⟩, fun M4 e4 => hk M4 ?_ ?_ (fun o j h1 h2 => ?_)⟩
  · rw [e4, hq_up_n _ _ (by omega)]; exact s3
  · rw [e4, up_self, f3 _ _ (by omega)]
  · rw [e4]
    simp only [hq_up]
    rw [if_neg h2]
    exact f3 _ _ h1
theorem x10_top {C M : hq_M} {W o lo n D m c B : Nat} {any : Int} {kk : Int → Prop} (h : WE C M W o lo n D m c B) (h6 : C W 6 = any) (hk : 0 ≤ tpv M lo n any ∧ tpv M lo n any ≤ 2147483647 → kk (tpv M lo n any)) (hb : M 0 23 ≤ 1000000) : w_X10_top W C kk := by
  have hcnt : C (W + 1) 3 = ((lo + n : Nat) : Int) := h.2.2.2.1.1.2.1
  have h5 := h.2.2.2.2.2.2.1
  have hkn := h.2.2.2.2.2.2.2.1
  have hB := h.1
  unfold w_X10_top
  unfold tpv at hk
  rw [h6, h5, hcnt]
  refine ⟨fun q => ?_, fun q => ?_⟩
  · rw [if_pos q] at hk; exact hk (by omega)
  · rw [if_neg q] at hk; exact hk (by omega)
theorem likeO_len (base p : Int) : (likeO base p).length ≤ 6 := by
  unfold likeO
  split
  · exact (octs_len _ _ _).2
  · exact (octs_len _ _ _).2
theorem nameO_len {M : hq_M} {f : Nat} {base y3 y7 : Int} (hL : Lo6 M) (hf : f < 32) : (nameO M f base y3 y7).length ≤ 14 := by
  have h1 := nm_len hL hf
  have h2 := vl_len hL hf
  have h3 := octs_len 0 3 (y7 - base)
  have h4 := octs_len 64 4 (base - 1 - y7)
  have h5 := octs_len 80 4 y3
  unfold nameO
  rw [List.length_append]
  simp only [List.length_cons]
  split
  · split
    · simp only [List.length_cons]; omega
    · split
      · omega
      · omega
  · omega
theorem x10_like {W L c p pr : Nat} {C : hq_M} {v base : Int} {ys : List Int} {kk : hq_M → Prop} (hL : LW W L c) (hv : v = (p : Int)) (hp : p ≤ 1000000) (hl : hq_len YC (W + 4) = 64) (hcap : hq_len YC (W + 13) = 96) (h0 : C L 0 = (c : Int)) (h4 : C L 4 = base) (hb : 0 ≤ base ∧ base ≤ 1000000) (hy : Rw C (W + 12) ys) (hyl : ys.length + 6 ≤ 96) (hk : ∀ C', CF C C' W L c v ys (likeO base v) → kk C') : b_X10_encodeField_66 W L pr v kk C := by
  have hL' := hL
  unfold LW at hL'
  have ol1 := octs_len 16 4 (v - base)
  have ol2 := octs_len 128 6 (base - 1 - v)
  unfold b_X10_encodeField_66
  rw [h4]
  unfold likeO at hk
  refine ⟨fun _ => ⟨fun q => ⟨⟨by omega, by omega⟩, ?_⟩, fun q => ⟨⟨by omega, by omega⟩, ⟨by omega, by omega⟩, ?_⟩⟩, fun q => by omega⟩
  · rw [if_pos q] at hk
    exact x6_addInteger (by decide) (by decide) (by omega) hy (by rw [show W + 12 + 1 = W + 13 from rfl, hcap]; omega) (fun C1 r1 f1 => x10_refer hL hv hp hl (by rw [f1 _ _ (by omega) (by omega)]; exact h0) (fun C' e3 e4 fr => hk C' (CF_of hL hv r1 f1 e3 e4 fr)))
  · rw [if_neg q] at hk
    exact x6_addInteger (by decide) (by decide) (by omega) hy (by rw [show W + 12 + 1 = W + 13 from rfl, hcap]; omega) (fun C1 r1 f1 => x10_refer hL hv hp hl (by rw [f1 _ _ (by omega) (by omega)]; exact h0) (fun C' e3 e4 fr => hk C' (CF_of hL hv r1 f1 e3 e4 fr)))
theorem x10_encodeValue {C M : hq_M} {W L o lo n D m c B f pr : Nat} {base any : Int} {ys : List Int} {kk : hq_M → Prop} (h : WE C M W o lo n D m c B) (hk23 : M 0 23 ≤ 1000000) (hL : LW W L c) (hpr : pr = o + 1 + 2 + 5 * f) (hf : f < (M 0 0).toNat) (h6 : C W 6 = any) (h0 : C L 0 = (c : Int)) (hb4 : C L 4 = base) (hb : 0 ≤ base ∧ base ≤ 1000000) (hy : Rw C (W + 12) ys) (hyl : ys.length + 14 ≤ 96) (hk : ∀ y3 y7 C', SN3 M f y3 → NMH M lo n f (tpv M lo n any) y7 → CF C C' W L c (if y3 = -9 then y7 else -9) ys (nameO M f base y3 y7) → kk C') : w_X10_encodeValue W L pr C kk := by
  have hL' := hL
  unfold LW at hL'
  have hsz := h.szs
  have hWE := h
  obtain ⟨⟨ho, hW, hc40, b1, b2, b3⟩, h4, hS, hT, hH, hQ, h5, hkn, hSM, hDE⟩ := h
  obtain ⟨w2, w3, w4, w7, w8, w9, w11, w13⟩ := capW hW
  have pc7 : PC (o + 1) 7 := by rcases ho with rfl | rfl; exact PC_9; exact PC_89
  have pc8 : PC (o + 38) 8 := by rcases ho with rfl | rfl; exact PC_46; exact PC_126
  have hLo := hS.2.2.1
  have hF := hS.1
  have hN1 := hS.2.1
  have hcap := pc7.2.2 f (by omega)
  obtain ⟨p1, p2, p3, p4⟩ := hS.2.2.2.1.2 f (by omega)
  have hn6 := nm_len hLo (f := f) (by omega)
  have hv6 := vl_len hLo (f := f) (by omega)
  have hoW : o + 80 ≤ W := by omega
  subst hpr
  unfold w_X10_encodeValue
  intro o2 eo2
  have : o = o2 := by omega
  subst this
  refine x3_lowestNamed pc8 hS.2.2.2.2.1 (by omega) p1 hn6.1 hcap.1 (fun x3 hx3 => ?_)
  intro o5 eo5
  have : o = o5 := by omega
  subst this
  refine x10_top hWE h6 (fun htp => ?_) hk23
  refine x9_highestNamed hT.1 htp pc7 hS.2.2.2.1 (by omega) p1 hn6.1 hcap.1 (fun i a b => by rw [show W + 1 + 1 = W + 2 from rfl]; have := hsz i a b; omega) (fun x7 hx7 => ?_)
  have hx7' : NMH M lo n f (tpv M lo n any) x7 := by
    refine hx7.cg (fun i a b => ?_)
    rw [show W + 1 + 1 = W + 2 from rfl, (hsz i (by omega) (by omega)).2.2.1]
  have hxb3 := hx3.bd
  have hxb7 := hx7'.bd
  have hk := fun C' => hk x3 x7 C' hx3 hx7'
  unfold nameO at hk
  rw [hb4]
  -- behind the value
  have fin : ∀ (C2 : hq_M) (ref : Int) (zs : List Int), zs.length ≤ 7 → CF C C2 W L c ref ys zs → (∀ C', CF C C' W L c ref ys (zs ++ ((0 + ((vl M f).length : Int)) :: vl M f)) → kk C') → b_X10_encodeValue_136 W (o + 1 + 2 + 5 * f) kk C2 := by
    intro C2 ref zs hzl hcf hk2
    unfold b_X10_encodeValue_136
    have fr := hcf.2.2.2
    refine x6_addWord (by decide) hcf.1 (p2.cg (fr _ _ (by omega)) (fun i => fr _ _ (by omega))) (by omega) (by rw [show W + 12 + 1 = W + 13 from rfl, w13, List.length_append]; omega) (by omega) (fun C3 r3 f3 => hk2 C3 (CF_ext hL hcf r3 f3))
  have ol1 := octs_len 0 3 (x7 - base)
  have ol2 := octs_len 64 4 (base - 1 - x7)
  have ol3 := octs_len 80 4 x3
  refine ⟨fun q => ⟨fun q2 => ⟨fun q3 => ⟨⟨by omega, by omega⟩, ?_⟩, fun q3 => ⟨⟨by omega, by omega⟩, ⟨by omega, by omega⟩, ?_⟩⟩, fun q2 => ?_⟩, fun q => ?_⟩
  · rw [if_pos (by omega), if_pos (by omega), if_neg (by omega), if_pos q3] at hk
    refine x6_addInteger (by decide) (by decide) (by omega) hy (by rw [show W + 12 + 1 = W + 13 from rfl, w13]; omega) (fun C1 r1 f1 => x10_refer (p := x7.toNat) hL (by omega) (by omega) w4 (by rw [f1 _ _ (by omega) (by omega)]; exact h0) (fun C' e3 e4 fr => fin C' x7 _ (by omega) (CF_of hL (by omega) r1 f1 e3 e4 fr) hk))
  · rw [if_pos (by omega), if_pos (by omega), if_neg (by omega), if_neg q3] at hk
    refine x6_addInteger (by decide) (by decide) (by omega) hy (by rw [show W + 12 + 1 = W + 13 from rfl, w13]; omega) (fun C1 r1 f1 => x10_refer (p := x7.toNat) hL (by omega) (by omega) w4 (by rw [f1 _ _ (by omega) (by omega)]; exact h0) (fun C' e3 e4 fr => fin C' x7 _ (by omega) (CF_of hL (by omega) r1 f1 e3 e4 fr) hk))
  · rw [if_pos (by omega), if_pos (by omega), if_pos (by omega)] at hk
    refine x6_addWord (by decide) hy p1 (by omega) (by rw [show W + 12 + 1 = W + 13 from rfl, w13]; omega) (by omega) (fun C1 r1 f1 => fin C1 x7 _ (by simp only [List.length_cons]; omega) (CF_none hL r1 f1 (by omega)) hk)
  · rw [if_neg (by omega), if_neg (by omega)] at hk
    refine x6_addInteger (by decide) (by decide) (by omega) hy (by rw [show W + 12 + 1 = W + 13 from rfl, w13]; omega) (fun C1 r1 f1 => fin C1 (-9) _ (by omega) (CF_none hL r1 f1 (by omega)) hk)
theorem x10_encodeField {C M : hq_M} {W L o lo n D m c B f pr : Nat} {v base any gr : Int} {ys : List Int} {kk : hq_M → Prop} (h : WE C M W o lo n D m c B) (hk23 : M 0 23 ≤ 1000000) (hL : LW W L c) (hpr : pr = o + 1 + 2 + 5 * f) (hv : v = (f : Int)) (hf : f < (M 0 0).toNat) (h6 : C W 6 = any) (h7 : C W 7 = gr) (h0 : C L 0 = (c : Int)) (hb4 : C L 4 = base) (hb : 0 ≤ base ∧ base ≤ 1000000) (hy : Rw C (W + 12) ys) (hyl : ys.length + 14 ≤ 96) (hk : ∀ ref xs q C1 C', FE M lo n f base any gr ref xs q → CQ C C1 M W lo n D m f q → CF C1 C' W L c ref ys xs → kk C') : w_X10_encodeField W L v pr C kk := by
  have hL' := hL
  unfold LW at hL'
  have hsz := h.szs
  have hWE := h
  obtain ⟨⟨ho, hW, hc40, b1, b2, b3⟩, h4, hS, hT, hH, hQ, h5, hkn, hSM, hDE⟩ := h
  obtain ⟨w2, w3, w4, w7, w8, w9, w11, w13⟩ := capW hW
  have pc7 : PC (o + 1) 7 := by rcases ho with rfl | rfl; exact PC_9; exact PC_89
  have pc8 : PC (o + 38) 8 := by rcases ho with rfl | rfl; exact PC_46; exact PC_126
  have hLo := hS.2.2.1
  have hF := hS.1
  have hN1 := hS.2.1
  have hcap := pc7.2.2 f (by omega)
  obtain ⟨p1, p2, p3, p4⟩ := hS.2.2.2.1.2 f (by omega)
  have hn6 := nm_len hLo (f := f) (by omega)
  have hv6 := vl_len hLo (f := f) (by omega)
  have hoW : o + 80 ≤ W := by omega
  unfold w_X10_encodeField
  intro o2 eo2
  have : o = o2 := by omega
  subst this
  rw [hpr]
  refine x3_lowestLike pc8 hS.2.2.2.2.1 (by omega) p1 hn6.1 hcap.1 p2 hv6.1 hcap.2 (fun x3 hx3 => ⟨fun q => ?_, fun q => ?_⟩)
  · have hx9 : x3 = -9 := by have := hx3.bd; omega
    subst hx9
    refine x10_top hWE h6 (fun htp => ?_) hk23
    refine x9_highestLike hT.1 htp (fun x5 hx5 => ?_)
    have hx5' : LKH M lo n f (tpv M lo n any) x5 := by
      refine hx5.cg (fun i a b => ?_)
      rw [show W + 1 + 1 = W + 2 from rfl, (hsz i (by omega) (by omega)).2.2.1, hv]
    have hb5 := hx5'.bd
    -- no entry like it
    have val : ∀ C1, Fa C C1 (W + 10) → x5 = -9 → (gr = 0 ∨ ∃ x3 x7 r e, FI M lo n f x3 x7 ∧ IOx M lo n f r e (ins M f x3 x7 ((lo + n : Nat) : Int)) ∧ r < 0) → ∀ x5' : Int, x5' < 0 → b_X10_encodeField_66 W L (o + 1 + 2 + 5 * f) x5' kk C1 := by
      intro C1 f1 e5 hno x5' hneg
      subst e5
      unfold b_X10_encodeField_66
      refine ⟨fun q => by omega, fun _ => ?_⟩
      refine x10_encodeValue (any := any) (base := base) (hWE.cg (fun q j hq => f1 _ _ (by omega) (by omega)) (fun _ _ _ => rfl)) hk23 hL rfl hf (by rw [f1 _ _ (by omega) (by omega)]; exact h6) (by rw [f1 _ _ (by omega) (by omega)]; exact h0) (by rw [f1 _ _ (by omega) (by omega)]; exact hb4) hb (hy.cg (f1 _ _ (by omega) (by omega)) (fun i => f1 _ _ (by omega) (by omega))) hyl (fun y3 y7 C' a1 a2 hcf => hk _ _ none C1 C' (.inr ⟨hx3, .inr ⟨hx5', .inr ⟨hno, rfl, y3, y7, a1, a2, rfl, rfl⟩⟩⟩) (.inl ⟨rfl, f1⟩) hcf)
    refine ⟨fun q5 => ?_, fun q5 => ?_⟩
    · exact x10_like (p := x5.toNat) hL (by omega) (by omega) w4 w13 h0 hb4 hb hy (by omega) (fun C' hcf => hk x5 _ none C C' (.inr ⟨hx3, .inl ⟨q5, hx5', rfl, rfl⟩⟩) (.inl ⟨rfl, Fa.rf _ _⟩) hcf)
    · have e5 : x5 = -9 := by omega
      rw [h7]
      refine ⟨fun g0 => val C (Fa.rf _ _) e5 (.inl g0) x5 (by omega), fun g0 => ?_⟩
      refine x10_insertField hWE hv hf (fun a3 a7 r e C1 hfi hio hC1 => ?_)
      rcases hC1 with ⟨hr, f1⟩ | ⟨hr, hci⟩
      · exact val C1 f1 e5 (.inr ⟨a3, a7, r, e, hfi, hio, hr⟩) r hr
      · have fr := hci.2.2.2.2.2.2.2.2.2.2
        subst hr
        rw [e5] at hx5'
        exact x10_like (p := lo + n) hL rfl (by omega) w4 w13 (by rw [fr _ _ (by omega)]; exact h0) (by rw [fr _ _ (by omega)]; exact hb4) hb (hy.cg (fr _ _ (by omega)) (fun i => fr _ _ (by omega))) (by omega) (fun C' hcf => hk _ _ (some (e, ins M f a3 a7 ((lo + n : Nat) : Int))) C1 C' (.inr ⟨hx3, .inr ⟨hx5', .inl ⟨g0, a3, a7, e, hfi, hio, rfl, rfl, rfl⟩⟩⟩) (.inr ⟨e, _, rfl, hci⟩) hcf)
  · have hb3 := hx3.bd
    have ol := octs_len 192 6 x3
    exact x6_addInteger (by decide) (by decide) (by omega) hy (by rw [show W + 12 + 1 = W + 13 from rfl, w13]; omega) (fun C' r1 f1 => hk (-9) _ none C C' (.inl ⟨x3, hx3, by omega, rfl, rfl, rfl⟩) (.inl ⟨rfl, Fa.rf _ _⟩) (CF_none hL r1 f1 (by decide)))
