/-! ===== the mathematics, part 12: an insertion, on both sides ===== -/
/-- the stream of a Writer at W: the encoder's holds what the reference's orders say; the trial's holds the octets alone, and counts on -/
def kz (W : Nat) : Nat := if W = 370 then 0 else 256
theorem kz_cs (W : Nat) : kz W = 0 ∨ kz W = 256 := by
  unfold kz
  by_cases q : W = 370
  · rw [if_pos q]; exact .inl rfl
  · rw [if_neg q]; exact .inr rfl
def SW0 (C M : hq_M) (W D m : Nat) : Prop := W = 370 → SQ C M 375 D m
def SW (C M : hq_M) (W D m : Nat) : Prop := (SW0 C M W D m ∧ C (W + 5) 3 + ((kz W : Nat) : Int) = ((D + m : Nat) : Int) ∧ M 0 47 = (m : Int) ∧ D + m ≤ 1000000 ∧ 0 ≤ C (W + 5) 3) ∧ (0 ≤ M 0 43 ∧ M 0 43 ≤ 200 ∧ Rw C (W + 5 + 1) (sg M 24 0 (M 0 43).toNat)) ∧ M 0 43 = sm (fun i => M 26 i) 0 m ∧ (∀ i, i < m → 1 ≤ M 26 i)
theorem SQ.toW {C M : hq_M} {D m : Nat} (h : SQ C M 375 D m) : SW C M 370 D m := by
  have h0 := h
  obtain ⟨⟨h4, h3, h47, hb⟩, h2, h5, h6, -⟩ := h
  have e : kz 370 = 0 := rfl
  refine ⟨⟨fun _ => h0, ?_, h47, hb, ?_⟩, h2, h5, h6⟩
  · rw [e, show 370 + 5 = 375 from rfl, h3]; rfl
  · rw [show 370 + 5 = 375 from rfl, h3]; omega
theorem SW.many {C M : hq_M} {W D m : Nat} (h : SW C M W D m) : m ≤ 200 := by
  have h1 := sm_one (f := fun i => M 26 i) (lo := 0) (n := m) (fun i _ b => h.2.2.2 i (by omega))
  have h2 := h.2.2.1
  have := h.2.1.2.1
  omega
theorem SW.cg {C M C' M' : hq_M} {W D m : Nat} (h : SW C M W D m) (hC : ∀ o j, W + 5 ≤ o ∧ o < W + 5 + 5 → C' o j = C o j) (hM : ∀ o j, (24 ≤ o ∧ o ≤ 27) ∨ (o = 0 ∧ (j = 43 ∨ j = 47 ∨ j = 0)) → M' o j = M o j) : SW C' M' W D m := by
  obtain ⟨⟨h1, h2, h3⟩, h4, h5, h6⟩ := h
  unfold SW
  rw [hM 0 47 (by simp), hM 0 43 (by simp), hC (W + 5) 3 (by omega)]
  refine ⟨⟨fun e => (h1 e).cg (fun o j ho => hC o j (by omega)) hM, h2, h3⟩, ⟨h4.1, h4.2.1, ?_⟩, ?_, fun i hi => by rw [hM 26 i (by omega)]; exact h6 i hi⟩
  · rw [show sg M' 24 0 (M 0 43).toNat = sg M 24 0 (M 0 43).toNat from sg_eq (fun i _ => hM _ _ (by omega))]
    exact h4.2.2.cg (hC _ _ (by omega)) (fun i => hC _ _ (by omega))
  · rw [h5]
    exact sm_cg (fun i _ _ => (hM _ _ (by omega)).symm)
theorem SW.push {C M C' M' : hq_M} {W D m : Nat} {a b d : Int} {xs : List Int} (h : SW C M W D m) (hx1 : 1 ≤ xs.length) (hroom : M 0 43 + xs.length ≤ 200) (hDm : D + m + 1 ≤ 1000000) (c1 : Rw C' (W + 5 + 1) (sg M 24 0 (M 0 43).toNat ++ xs)) (c2 : C' (W + 5) 3 = C (W + 5) 3 + 1) (c3 : C' (W + 5 + 3) ((D + m) % 256) = d) (c4 : C' (W + 5 + 4) ((D + m) % 256) = (xs.length : Int)) (c5 : C' (W + 5) 4 = C (W + 5) 4) (c6 : ∀ j, j ≠ (D + m) % 256 → C' (W + 5 + 3) j = C (W + 5 + 3) j ∧ C' (W + 5 + 4) j = C (W + 5 + 4) j) (m1 : M' 0 43 = M 0 43 + xs.length) (m2 : ∀ i, i < xs.length → M' 24 ((M 0 43).toNat + i) = gd xs i) (m3 : ∀ i, i < (M 0 43).toNat → M' 24 i = M 24 i) (m4 : M' 25 m = a) (m5 : M' 27 m = b) (m6 : M' 26 m = (xs.length : Int)) (m7 : M' 0 47 = ((m + 1 : Nat) : Int)) (m8 : ∀ o j, (o = 25 ∨ o = 26 ∨ o = 27) ∧ j < m → M' o j = M o j) (m9 : M' 0 0 = M 0 0) (hab : (a = 0 ∧ 0 ≤ b ∧ b ≤ 200 ∧ d = -1 - b) ∨ (a = 1 ∧ 0 ≤ b ∧ b < M 0 0 ∧ d = b)) : SW C' M' W D (m + 1) := by
  have hm := h.many
  obtain ⟨⟨h1, h3, h47, hb, hn⟩, ⟨g1, g2, g3⟩, hsm, hone⟩ := h
  unfold SW
  rw [c2, m7, m1]
  refine ⟨⟨fun e => ?_, by omega, rfl, by omega, by omega⟩, ⟨by omega, by omega, ?_⟩, ?_, fun i hi => ?_⟩
  · subst e
    have h3' := (h1 rfl).1.2.1
    refine (h1 rfl).push hx1 hroom hDm c1 ?_ c3 c4 c5 c6 m1 m2 m3 m4 m5 m6 m7 m8 m9 hab
    rw [show 375 = 370 + 5 from rfl, c2, show 370 + 5 = 375 from rfl, h3']; omega
  · have : sg M' 24 0 (M 0 43 + xs.length).toNat = sg M 24 0 (M 0 43).toNat ++ xs := by
      refine sg_iff (by rw [List.length_append, sg_len]; omega) (fun i hi => ?_)
      rw [Nat.zero_add]
      by_cases q : i < (M 0 43).toNat
      · rw [m3 i q, gd_left (by rw [sg_len]; exact q), sg_gd q, Nat.zero_add]
      · obtain ⟨j, rfl⟩ := Nat.exists_eq_add_of_le (Nat.not_lt.mp q)
        rw [m2 j (by omega)]
        have := gd_right (xs := sg M 24 0 (M 0 43).toNat) (ys := xs) (i := j)
        rw [sg_len] at this
        exact this.symm
    rw [this]
    exact c1
  · rw [sm_snoc, Nat.zero_add, m6, hsm, sm_cg (g := fun i => M' 26 i) (fun i _ hi => (m8 26 i (by omega)).symm)]
  · by_cases q : i = m
    · rw [q, m6]; omega
    · rw [m8 26 i (by omega)]; exact hone i (by omega)
def WE (C M : hq_M) (W o lo n D m c B : Nat) : Prop := ((o = 8 ∨ o = 88) ∧ (W = 370 ∨ W = 391) ∧ c ≤ 40 ∧ lo + n ≤ B ∧ D + m ≤ B + kz W ∧ B ≤ 900000) ∧ C W 4 = (o : Int) ∧ SS C o M ∧ TB C M (W + 1) 0 lo n ∧ HO C M (W + 1) lo n c ∧ SW C M W D m ∧ C W 5 = M 0 23 ∧ (M 7 0 ≤ M 0 23 ∧ 0 ≤ M 0 23) ∧ SM M ∧ DE M
def CIp (C C' : hq_M) (W lo n D m e : Nat) (f z : Int) (ws xs : List Int) : Prop := Rw C' (W + 6) (ws ++ xs) ∧ C' (W + 5) 3 = C (W + 5) 3 + 1 ∧ C' (W + 8) ((D + m) % 256) = f ∧ C' (W + 9) ((D + m) % 256) = (xs.length : Int) ∧ C' (W + 1) 3 = ((lo + n + 1 : Nat) : Int) ∧ C' (W + 1) 4 = ((lo + e : Nat) : Int) ∧ C' (W + 1) 5 = sm (fun i => C (W + 3) (i % 64)) (lo + e) (n - e) + z ∧ C' (W + 2) ((lo + n) % 64) = f ∧ C' (W + 3) ((lo + n) % 64) = z ∧ C' (W + 4) ((lo + n) % 64) = 0 ∧ ∀ o j, ¬ (o = W + 6 ∨ o = W + 7 ∨ o = W + 10 ∨ o = W + 11 ∨ (o = W + 5 ∧ j = 3) ∨ ((o = W + 8 ∨ o = W + 9) ∧ j = (D + m) % 256) ∨ (o = W + 1 ∧ (j = 3 ∨ j = 4 ∨ j = 5)) ∨ ((o = W + 2 ∨ o = W + 3 ∨ o = W + 4) ∧ j = (lo + n) % 64)) → C' o j = C o j
theorem capW {W : Nat} (h : W = 370 ∨ W = 391) : hq_len YC (W + 2) = 64 ∧ hq_len YC (W + 3) = 64 ∧ hq_len YC (W + 4) = 64 ∧ hq_len YC (W + 7) = 200 ∧ hq_len YC (W + 8) = 256 ∧ hq_len YC (W + 9) = 256 ∧ hq_len YC (W + 11) = 32 ∧ hq_len YC (W + 13) = 96 := by
  rcases h with rfl | rfl <;> decide +kernel
theorem WE.szs {C M : hq_M} {W o lo n D m c B : Nat} (h : WE C M W o lo n D m c B) : ∀ i, lo ≤ i → i < lo + n → 0 ≤ C (W + 3) (i % 64) ∧ C (W + 3) (i % 64) = es M 0 i ∧ C (W + 2) (i % 64) = M 10 (i % 64) ∧ 0 ≤ M 10 (i % 64) ∧ M 10 (i % 64) < M 0 0 := by
  intro i a b
  obtain ⟨-, -, hS, hT, -⟩ := h
  obtain ⟨-, -, -, -, -, h6⟩ := hT
  obtain ⟨g1, g2, g3⟩ := h6 i a b
  have hL := hS.2.2.1
  rw [Nat.mul_zero, Nat.zero_add] at g1 g2 g3
  have := hL (M 10 (i % 64)).toNat (by have := hS.1; omega)
  refine ⟨?_, ?_, g1, g2⟩
  · rw [g3]; unfold sz; omega
  · rw [g3]; unfold es; rw [Nat.mul_zero, Nat.zero_add]
theorem x10_insert {C M : hq_M} {W o lo n D m c B : Nat} {f z : Int} {xs : List Int} {kk : Int → hq_M → Prop} (h : WE C M W o lo n D m c B) (hx : Rw C (W + 10) xs) (hxl : xs.length ≤ 32) (hz : 0 ≤ z ∧ z ≤ 100) (no : C (W + 1) 6 < z → kk (-2) C) (ev : z ≤ C (W + 1) 6 → ∀ e t : Nat, IsEv (fun i => C (W + 3) (i % 64)) lo n (C (W + 1) 6 - z) e → IsFr (fun i => C (W + 4) (i % 64) = 0) lo (min (lo + n) (M 0 23).toNat) t → (t < e → kk (-2) C) ∧ (e ≤ t → 200 < M 0 43 + xs.length → kk (-3) C) ∧ (e ≤ t → M 0 43 + xs.length ≤ 200 → ∀ C', CIp C C' W lo n D m e f z (sg M 24 0 (M 0 43).toNat) xs → kk ((lo + n : Nat) : Int) C')) : w_X10_insert W f z C kk := by
  have hsz := h.szs
  obtain ⟨⟨ho, hW, hc40, b1, b2, b3⟩, h4, hS, hT, hH, hQ, h5, hkn, hSM, hDE⟩ := h
  obtain ⟨w2, w3, w4, w7, w8, w9, w11, w13⟩ := capW hW
  obtain ⟨tc, tm, t5, tle, tcap, ti⟩ := hT
  obtain ⟨q1, ⟨q2, q3, q4⟩, -⟩ := hQ
  have e376 : C (W + 6) 1 = M 0 43 := by rw [q4.1, sg_len]; omega
  unfold w_X10_insert w_X9_canInsert
  rw [h5]
  refine ⟨fun q => ⟨fun e => absurd rfl e, fun _ => no q⟩, fun q => ⟨⟨by omega, by omega⟩, ?_⟩⟩
  refine x9_tooMany tc t5 (fun i a b => (hsz i a b).1) (by omega) (by omega) (fun e he => ?_)
  refine x9_evictable tc hkn.2 (fun t ht => ?_)
  obtain ⟨ev1, ev2, ev3⟩ := ev (by omega) e t he ht
  refine ⟨fun q2 => ⟨fun e => absurd rfl e, fun _ => ev1 (by omega)⟩, fun q2 => ⟨fun _ => ?_, fun e => absurd e (by decide)⟩⟩
  unfold w_X8_hasRoom
  rw [show W + 5 + 1 = W + 6 by omega, e376, hx.1]
  refine ⟨⟨by omega, by omega⟩, fun q3 => ⟨fun e => absurd rfl e, fun _ => ev2 (by omega) q3⟩, fun q3 => ⟨fun _ => ?_, fun e => absurd e (by decide)⟩⟩
  have hlw : (sg M 24 0 (M 0 43).toNat).length = (M 0 43).toNat := sg_len _ _ _ _
  refine x8_write (s := W + 5) (q := W + 10) (D := D) (m := m) q4 hx (by omega) w7 w8 w9 (by rw [hlw]; omega) (by rw [w11]; exact hxl) q1.2.1 (kz_cs W) (by omega) (fun C1 r1 a3 a8 a9 f1 => ?_)
  unfold w_X9_insert
  rw [f1 (W + 1) 6 (by omega)]
  have g1 : ∀ o j, (o = W + 1 ∨ o = W + 2 ∨ o = W + 3 ∨ o = W + 4) → C1 o j = C o j := fun o j ho => f1 o j (by omega)
  have fe : (fun i => C1 (W + 1 + 2) (i % 64)) = (fun i => C (W + 3) (i % 64)) := by
    funext i
    exact g1 _ _ (by omega)
  have tc1 : TC C1 (W + 1) lo n := by
    obtain ⟨y1, y2, y3, y4⟩ := tc
    exact ⟨(g1 _ _ (by omega)).trans y1, (g1 _ _ (by omega)).trans y2, y3, y4⟩
  refine ⟨⟨by omega, by omega⟩, x9_shrink (lim := C (W + 1) 6 - z) tc1 (by rw [fe, g1 _ 5 (by omega)]; exact t5) (fun i a b => by rw [show W + 1 + 2 = W + 3 by omega, g1 _ _ (by omega)]; exact (hsz i a b).1) (by rw [g1 _ 5 (by omega)]; omega) (by omega) (fun e' C2 he' s5 s4 f2 => ?_)⟩
  rw [fe] at he' s5
  have hee : e' = e := he'.un he
  subst hee
  intro x5 ex5
  have hx5 : x5 = ((lo + n : Nat) : Int) := by rw [ex5, f2 _ 3 (by omega), g1 _ _ (by omega)]; exact tc.2.1
  have x64 : (x5 % 64).toNat = (lo + n) % 64 := by omega
  rw [x64, show W + 1 + 1 = W + 2 by omega, show W + 1 + 2 = W + 3 by omega, show W + 1 + 3 = W + 4 by omega, w2, w3, w4]
  refine ⟨⟨by omega, by omega⟩, fun M7 e7 => ⟨⟨by omega, by omega⟩, fun M9 e9 => ⟨⟨by omega, by omega⟩, fun M11 e11 => ?_⟩⟩⟩
  have f7 : ∀ o j, ¬ (o = W + 2 ∧ j = (lo + n) % 64) → M7 o j = C2 o j := fun o j ho => by rw [e7]; simp only [hq_up]; rw [if_neg ho]
  have f9 : ∀ o j, ¬ (o = W + 3 ∧ j = (lo + n) % 64) → M9 o j = M7 o j := fun o j ho => by rw [e9]; simp only [hq_up]; rw [if_neg ho]
  have f11 : ∀ o j, ¬ (o = W + 4 ∧ j = (lo + n) % 64) → M11 o j = M9 o j := fun o j ho => by rw [e11]; simp only [hq_up]; rw [if_neg ho]
  have g5 : M11 (W + 1) 5 = sm (fun i => C (W + 3) (i % 64)) (lo + e') (n - e') := by rw [f11 _ _ (by omega), f9 _ _ (by omega), f7 _ _ (by omega)]; exact s5
  have g3 : M11 (W + 1) 3 = ((lo + n : Nat) : Int) := by rw [f11 _ _ (by omega), f9 _ _ (by omega), f7 _ _ (by omega), f2 _ _ (by omega), g1 _ _ (by omega)]; exact tc.2.1
  have g4 : M11 (W + 1) 4 = ((lo + e' : Nat) : Int) := by rw [f11 _ _ (by omega), f9 _ _ (by omega), f7 _ _ (by omega)]; exact s4
  have hsl : sm (fun i => C (W + 3) (i % 64)) (lo + e') (n - e') ≤ C (W + 1) 6 - z := he.2.1
  have hsn := sm_nn (f := fun i => C (W + 3) (i % 64)) (lo := lo + e') (n := n - e') (fun i a b => (hsz i (by omega) (by have := he.1; omega)).1)
  rw [g5]
  refine ⟨⟨by omega, by omega⟩, fun M14 e14 => ?_⟩
  have f14 : ∀ o j, ¬ (o = W + 1 ∧ j = 5) → M14 o j = M11 o j := fun o j ho => by rw [e14]; simp only [hq_up]; rw [if_neg ho]
  rw [f14 _ 3 (by omega), g3]
  refine ⟨⟨by omega, by omega⟩, fun M17 e17 => ?_⟩
  have f17 : ∀ o j, ¬ (o = W + 1 ∧ j = 3) → M17 o j = M14 o j := fun o j ho => by rw [e17]; simp only [hq_up]; rw [if_neg ho]
  have out : ∀ o j, ¬ ((o = W + 1 ∧ (j = 3 ∨ j = 4 ∨ j = 5)) ∨ ((o = W + 2 ∨ o = W + 3 ∨ o = W + 4) ∧ j = (lo + n) % 64)) → M17 o j = C1 o j := fun o j ho => by rw [f17 _ _ (by omega), f14 _ _ (by omega), f11 _ _ (by omega), f9 _ _ (by omega), f7 _ _ (by omega), f2 _ _ (by omega)]
  rw [hx5]
  refine ev3 (by omega) (by omega) M17 ⟨r1.cg (out _ _ (by omega)) (fun i => out _ _ (by omega)), ?_, ?_, ?_, ?_, ?_, ?_, ?_, ?_, ?_, fun o j ho => ?_⟩
  · rw [out _ _ (by omega)]; exact a3
  · rw [out _ _ (by omega)]; exact a8
  · rw [out _ _ (by omega)]; exact a9
  · rw [e17, up_self]; omega
  · rw [f17 _ _ (by omega), f14 _ _ (by omega)]; exact g4
  · rw [f17 _ _ (by omega), e14, up_self]
  · rw [f17 _ _ (by omega), f14 _ _ (by omega), f11 _ _ (by omega), f9 _ _ (by omega), e7, up_self]
  · rw [f17 _ _ (by omega), f14 _ _ (by omega), f11 _ _ (by omega), e9, up_self]
  · rw [f17 _ _ (by omega), f14 _ _ (by omega), e11, up_self]
  · rw [out _ _ (by omega), f1 _ _ (by omega)]
def MIp (M M' : hq_M) (lo n m e : Nat) (f : Int) (xs : List Int) : Prop := M' 7 0 = ((lo + e : Nat) : Int) ∧ M' 6 0 = ((lo + n + 1 : Nat) : Int) ∧ M' 9 0 = sm (es M 0) (lo + e) (n - e) + sz M f.toNat ∧ M' 10 ((lo + n) % 64) = f ∧ M' 0 43 = M 0 43 + xs.length ∧ (∀ i, i < xs.length → M' 24 ((M 0 43).toNat + i) = gd xs i) ∧ (∀ i, i < (M 0 43).toNat → M' 24 i = M 24 i) ∧ M' 25 m = 1 ∧ M' 27 m = f ∧ M' 26 m = (xs.length : Int) ∧ M' 0 47 = ((m + 1 : Nat) : Int) ∧ ∀ o j, ¬ ((o = 0 ∧ (j = 43 ∨ j = 47 ∨ j = 49)) ∨ o = 28 ∨ o = 24 ∨ ((o = 25 ∨ o = 26 ∨ o = 27) ∧ j = m) ∨ ((o = 6 ∨ o = 7 ∨ o = 9) ∧ j = 0) ∨ (o = 10 ∧ j = (lo + n) % 64)) → M' o j = M o j
theorem m_inserted {C M : hq_M} {W o lo n D m c B : Nat} {f : Int} {xs : List Int} {kk : Int → hq_M → Prop} (h : WE C M W o lo n D m c B) (hi : In M xs) (hx32 : xs.length ≤ 32) (hf : 0 ≤ f ∧ f < M 0 0) (no : M 8 0 < sz M f.toNat → kk (-2) M) (ev : sz M f.toNat ≤ M 8 0 → ∃ e t : Nat, IsEv (es M 0) lo n (M 8 0 - sz M f.toNat) e ∧ IsFr (fun i => held M i = false) lo (min (lo + n) (M 0 23).toNat) t ∧ (t < e → kk (-2) M) ∧ (e ≤ t → 200 < M 0 43 + xs.length → kk (-3) M) ∧ (e ≤ t → M 0 43 + xs.length ≤ 200 → ∀ M', MIp M M' lo n m e f xs → kk ((lo + n : Nat) : Int) M')) : w_X12_inserted f M kk := by
  have hsz := h.szs
  have hWE := h
  obtain ⟨⟨ho, hW, hc40, b1, b2, b3⟩, h4, hS, hT, hH, hQ, h5, hkn, hSM, hDE⟩ := h
  obtain ⟨tc, ⟨m7, m6, m9, m8⟩, t5, tle, tcap, ti⟩ := hT
  have hmm := hQ.many
  obtain ⟨q1, ⟨q2, q3, q4⟩, -⟩ := hQ
  have hL := hS.2.2.1
  have hnF := hS.1
  have hzz : 0 ≤ sz M f.toNat ∧ sz M f.toNat ≤ 16 := by
    have := hL f.toNat (by omega)
    unfold sz
    omega
  have m9' : M 9 0 = sm (es M 0) lo n := by
    rw [m9, t5]
    exact sm_cg (fun i a b => (hsz i a b).2.1)
  unfold w_X12_inserted
  refine m_sizeOf (f := f.toNat) (by omega) (by omega) hL ⟨by decide, ?_⟩
  by_cases q : M 8 0 < sz M f.toNat
  · refine m_canHave_no hL hSM m7 m6 (by omega) m9' (by omega) (fun i a b => by have := hsz i a b; omega) (by omega) (by omega) ?_
    exact ⟨fun e => absurd rfl e, fun _ => no q⟩
  · obtain ⟨e, t, he, ht, ev1, ev2, ev3⟩ := ev (by omega)
    refine m_canHave hL hSM m7 m6 (by omega) m9' (by omega) (fun i a b => by have := hsz i a b; omega) (by omega) (by omega) hkn.2 he ht ?_
    by_cases q2 : e ≤ t
    · rw [if_pos q2]
      refine ⟨fun _ => ?_, fun e => absurd e (by decide)⟩
      unfold w_X12_isOverfull
      rw [hi.1]
      refine ⟨⟨by omega, by omega⟩, fun q3 => ⟨fun _ => ?_, fun e => absurd rfl e⟩, fun q3 => ⟨fun e => absurd e (by decide), fun _ => ev2 q2 (by omega)⟩⟩
      unfold w_X12_comes
      refine m_sizeOf (f := f.toNat) (by omega) (by omega) hL ?_
      refine m_makesRoom (t := 0) rfl (by decide) hL m7 m6 (by omega) m9' (by omega) (fun i a b => by rw [Nat.mul_zero, Nat.zero_add]; have := hsz i a b; omega) (by omega) (fun e' M2 he' s9 s7 f2 => ?_)
      have hee : e' = e := he'.un he
      subst hee
      have s6 : M2 6 0 = ((lo + n : Nat) : Int) := by rw [f2 _ _ (by omega)]; exact m6
      rw [show (0 : Int).toNat = 0 from rfl, s6, show (64 * (0 : Int) + ((lo + n : Nat) : Int) % 64).toNat = (lo + n) % 64 by omega]
      refine ⟨by decide, by decide, ⟨by omega, by decide⟩, ⟨by omega, by omega⟩, ⟨by omega, by omega⟩, fun M10 e10 => ⟨by decide, ?_⟩⟩
      have f10 : ∀ o j, ¬ (o = 10 ∧ j = (lo + n) % 64) → M10 o j = M2 o j := fun o j ho => by rw [e10]; simp only [hq_up]; rw [if_neg ho]
      rw [f10 6 0 (by omega), s6]
      refine ⟨⟨by omega, by omega⟩, by decide, fun M15 e15 => ⟨by decide, ?_⟩⟩
      have f15 : ∀ o j, ¬ (o = 6 ∧ j = 0) → M15 o j = M10 o j := fun o j ho => by rw [e15]; simp only [hq_up]; rw [if_neg ho]
      have o15 : ∀ o j, ¬ ((o = 6 ∧ j = 0) ∨ (o = 10 ∧ j = (lo + n) % 64) ∨ ((o = 7 ∨ o = 9) ∧ j = 0)) → M15 o j = M o j := fun o j ho => by rw [f15 _ _ (by omega), f10 _ _ (by omega), f2 _ _ (by omega)]
      have hL15 : Lo6 M15 := fun g hg => by rw [o15 1 g (by omega), o15 2 g (by omega)]; exact hL g hg
      have sz15 : sz M15 f.toNat = sz M f.toNat := by unfold sz; rw [o15 1 _ (by omega), o15 2 _ (by omega)]
      refine m_sizeOf (f := f.toNat) (by omega) (by omega) hL15 ?_
      have s9' : M15 9 0 = sm (es M 0) (lo + e') (n - e') := by rw [f15 _ _ (by omega), f10 _ _ (by omega)]; exact s9
      have hsl := he.2.1
      have hsn := sm_nn (f := es M 0) (lo := lo + e') (n := n - e') (fun i a b => by have := hsz i (by omega) (by have := he.1; omega); omega)
      rw [s9', sz15]
      refine ⟨⟨by omega, by omega⟩, by decide, fun M21 e21 => ?_⟩
      have f21 : ∀ o j, ¬ (o = 9 ∧ j = 0) → M21 o j = M15 o j := fun o j ho => by rw [e21]; simp only [hq_up]; rw [if_neg ho]
      have o21 : ∀ o j, ¬ ((o = 6 ∧ j = 0) ∨ (o = 10 ∧ j = (lo + n) % 64) ∨ ((o = 7 ∨ o = 9) ∧ j = 0)) → M21 o j = M o j := fun o j ho => by rw [f21 _ _ (by omega), o15 _ _ (by omega)]
      refine m_sendsOrder (w := (M 0 43).toNat) (m := m) (xs := xs) ⟨by rw [o21 _ _ (by omega)]; exact hi.1, fun i hi' => by rw [o21 _ _ (by omega)]; exact hi.2 i hi'⟩ hx32 (by rw [o21 _ _ (by omega)]; omega) (by rw [o21 _ _ (by omega)]; exact q1.2.2.1) (by omega) hmm (fun M' p43 p24 p24' p25 p27 p26 p47 fp => ⟨by decide, ?_⟩)
      have p60 : M' 6 0 = ((lo + n + 1 : Nat) : Int) := by rw [fp _ _ (by omega), f21 _ _ (by omega), e15, up_self]; omega
      rw [p60]
      refine ⟨⟨by omega, by omega⟩, ?_⟩
      rw [show ((lo + n + 1 : Nat) : Int) - 1 = ((lo + n : Nat) : Int) by omega]
      refine ev3 q2 (by omega) M' ⟨?_, p60, ?_, ?_, by omega, p24, fun i hi' => ?_, p25, p27, p26, p47, fun o j ho => ?_⟩
      · rw [fp _ _ (by omega), f21 _ _ (by omega), f15 _ _ (by omega), f10 _ _ (by omega)]; exact s7
      · rw [fp _ _ (by omega), e21, up_self]
      · rw [fp _ _ (by omega), f21 _ _ (by omega), f15 _ _ (by omega), e10, up_self]
      · rw [p24' i hi', o21 _ _ (by omega)]
      · rw [fp _ _ (by omega), o21 _ _ (by omega)]
    · rw [if_neg q2]
      exact ⟨fun e => absurd rfl e, fun _ => ev1 (by omega)⟩
theorem TBn {C M : hq_M} {W o lo n D m c B : Nat} (h : WE C M W o lo n D m c B) : n ≤ 50 := h.2.2.2.1.live h.2.2.1.2.2.1 h.2.2.1.1.2
theorem ins_rel {C M C' M' : hq_M} {W o lo n D m c B e t : Nat} {f : Int} {xs : List Int} (h : WE C M W o lo n D m c B) (hB : B + 1 ≤ 900000) (hx1 : 1 ≤ xs.length) (hf : 0 ≤ f ∧ f < M 0 0) (hroom : M 0 43 + xs.length ≤ 200) (hcap : sz M f.toNat ≤ M 8 0) (he : IsEv (es M 0) lo n (M 8 0 - sz M f.toNat) e) (ht : IsFr (fun i => held M i = false) lo (min (lo + n) (M 0 23).toNat) t) (het : e ≤ t) (hC : CIp C C' W lo n D m e f (sz M f.toNat) (sg M 24 0 (M 0 43).toNat) xs) (hM : MIp M M' lo n m e f xs) : WE C' M' W o (lo + e) (n - e + 1) D (m + 1) c (B + 1) := by
  have hsz := h.szs
  have hn50 := TBn h
  obtain ⟨⟨ho, hW, hc40, b1, b2, b3⟩, h4, hS, hT, hH, hQ, h5, hkn, hSM, hDE⟩ := h
  obtain ⟨c6, c53, c8, c9, c13, c14, c15, c2, c3, c4, fC⟩ := hC
  have hkz := kz_cs W
  obtain ⟨p7, p6, p9, p10, p43, p24, p24', p25, p27, p26, p47, fM⟩ := hM
  obtain ⟨tc, ⟨m7, m6, m9, m8⟩, t5, tle, tcap, ti⟩ := hT
  obtain ⟨w2, w3, w4, w7, w8, w9, w11, w13⟩ := capW hW
  have hen := he.1
  have hsl := he.2.1
  have ez : ∀ g, sz M' g = sz M g := fun g => by unfold sz; rw [fM 1 _ (by omega), fM 2 _ (by omega)]
  have e8 : M' 8 0 = M 8 0 := fM _ _ (by omega)
  have e00 : M' 0 0 = M 0 0 := fM _ _ (by omega)
  have esm : sm (fun i => C (W + 3) (i % 64)) (lo + e) (n - e) = sm (es M 0) (lo + e) (n - e) := sm_cg (fun i a b => (hsz i (by omega) (by omega)).2.1)
  have hte : lo + e ≤ (M 0 23).toNat ∨ e = 0 := by
    rcases ht.1 with h | h
    · right; omega
    · left; omega
  refine ⟨⟨ho, hW, hc40, by omega, by omega, hB⟩, ?_, ?_, ?_, ?_, ?_, ?_, ?_, ?_, ?_⟩
  · rw [fC _ _ (by omega)]; exact h4
  · exact hS.cg (fun q j hq => fC _ _ (by omega)) (fun q j hq => fM _ _ (by omega))
  · refine ⟨⟨c14, by rw [c13]; congr 1; omega, by omega, tc.2.2.2⟩, ⟨p7, by rw [p6]; congr 1; omega, ?_, by rw [e8, fC _ _ (by omega)]; exact m8⟩, ?_, ?_, by rw [fC _ _ (by omega)]; exact tcap, fun i a b => ?_⟩
    · rw [p9, c15, esm]
    · rw [c15, sm_snoc, show lo + e + (n - e) = lo + n by omega, show W + 1 + 2 = W + 3 by omega, c3, sm_cg (g := fun i => C' (W + 3) (i % 64)) (fun i a b => (fC (W + 3) _ (by omega)).symm)]
    · rw [c15, esm, fC _ _ (by omega)]; omega
    · rw [Nat.mul_zero, Nat.zero_add, show W + 1 + 1 = W + 2 by omega, show W + 1 + 2 = W + 3 by omega, ez, e00]
      by_cases q : i = lo + n
      · rw [q, c2, c3, p10]
        exact ⟨rfl, hf, rfl⟩
      · obtain ⟨g1, g2, g3⟩ := ti i (by omega) (by omega)
        rw [Nat.mul_zero, Nat.zero_add] at g1 g2 g3
        rw [fC (W + 2) _ (by omega), fC (W + 3) _ (by omega), fM 10 _ (by omega)]
        exact ⟨g1, g2, g3⟩
  · intro i a b
    have hbq : ∀ k, hb M' k i = hb M k i := fun k => hb_cg (fM _ _ (by omega)) (fM _ _ (by omega)) (fun j _ => fM _ _ (by omega))
    have hmq : mr M' i = mr M i := mr_cg (fM _ _ (by omega)) (fun j _ => fM _ _ (by omega))
    have hde : ∀ k, hd M' c k i = hd M c k i := fun k => by unfold hd; rw [fM 0 25 (by omega), hbq, hmq]
    rw [show W + 1 + 3 = W + 4 by omega]
    by_cases q : i = lo + n
    · rw [q, c4]
      refine ⟨⟨by decide, by decide⟩, fun k hk => ?_⟩
      rw [bt_zero, ← q, hde]
      symm
      unfold hd
      rw [Bool.or_eq_false_iff]
      constructor
      · rw [Bool.eq_false_iff]
        intro hh
        rw [Bool.and_eq_true] at hh
        obtain ⟨h1, h2⟩ := hh
        have hkN : k < (M 0 25).toNat := by simpa using h1
        unfold hb at h2
        rw [Bool.and_eq_true, List.any_eq_true] at h2
        obtain ⟨-, j, hj, hj2⟩ := h2
        rw [List.mem_range] at hj
        have := (hSM.2.1 k hkN).2 j hj
        have : M 19 (6 * k + j) = (i : Int) := by simpa using hj2
        omega
      · rw [Bool.eq_false_iff]
        intro hh
        rw [Bool.and_eq_true] at hh
        obtain ⟨-, h2⟩ := hh
        unfold mr at h2
        rw [List.any_eq_true] at h2
        obtain ⟨j, hj, hj2⟩ := h2
        rw [List.mem_range] at hj
        have := hSM.2.2.2 j hj
        have : M 22 j = (i : Int) := by simpa using hj2
        omega
    · rw [fC (W + 4) _ (by omega)]
      obtain ⟨g1, g2⟩ := hH i (by omega) (by omega)
      refine ⟨g1, fun k hk => ?_⟩
      rw [hde]
      exact g2 k hk
  · exact hQ.push hx1 hroom (by omega) c6 c53 c8 c9 (fC _ _ (by omega)) (fun j hj => ⟨fC _ _ (by omega), fC _ _ (by omega)⟩) p43 p24 p24' p25 p27 p26 p47 (fun o j ho => fM _ _ (by omega)) e00 (.inr ⟨rfl, hf.1, hf.2, rfl⟩)
  · rw [fC _ _ (by omega), fM 0 23 (by omega)]; exact h5
  · rw [p7, fM 0 23 (by omega)]; omega
  · obtain ⟨s1, s2, s3, s4⟩ := hSM
    unfold SM
    rw [fM 0 25 (by omega), fM 0 39 (by omega)]
    refine ⟨s1, fun k hk => ?_, s3, fun j hj => ?_⟩
    · rw [fM 17 k (by omega)]
      refine ⟨(s2 k hk).1, fun j hj => ?_⟩
      rw [fM 19 _ (by omega)]
      have := (s2 k hk).2 j hj
      omega
    · rw [fM 22 j (by omega)]
      have := s4 j hj
      omega
  · exact hDE.push hQ.1.2.2.1 p47 p25 p27 (fun o j ho => fM _ _ (by omega)) (fun o j ho => fM _ _ (by omega)) (fM _ _ (by omega)) (fM _ _ (by omega)) (.inr ⟨rfl, e8, by omega, hcap⟩)
