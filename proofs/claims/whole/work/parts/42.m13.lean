/-! ===== the mathematics, part 13: inserts, repeats, capacity ===== -/
theorem WE.cg {C M C' M' : hq_M} {W o lo n D m c B : Nat} (h : WE C M W o lo n D m c B) (hC : ∀ q j, (q = W ∧ (j = 4 ∨ j = 5)) ∨ (o ≤ q ∧ q < o + 80) ∨ (W + 1 ≤ q ∧ q < W + 10) → C' q j = C q j) (hM : ∀ q j, ¬ (q = 28 ∨ q = 23 ∨ q = 5 ∨ q = 21 ∨ q = 29 ∨ (q = 22 ∧ (M 0 39).toNat ≤ j) ∨ (q = 0 ∧ (9 ≤ j ∧ j ≤ 17 ∨ j = 37 ∨ j = 41 ∨ j = 49)) ∨ (11 ≤ q ∧ q ≤ 15) ∨ q = 18 ∨ q = 20 ∨ (q = 10 ∧ 128 ≤ j)) → M' q j = M q j) : WE C' M' W o lo n D m c B := by
  obtain ⟨h0, h4, hS, hT, hH, hQ, h5, hkn, hSM, hDE⟩ := h
  refine ⟨h0, by rw [hC _ _ (by omega)]; exact h4, hS.cg (fun q j hq => hC _ _ (by omega)) (fun q j hq => hM _ _ (by omega)), hT.cg (fun q j hq => hC _ _ (by omega)) (fun q j hq => hM _ _ (by omega)), ?_, hQ.cg (fun q j hq => hC _ _ (by omega)) (fun q j hq => hM _ _ (by omega)), by rw [hC _ _ (by omega), hM _ _ (by omega)]; exact h5, by rw [hM 7 0 (by omega), hM 0 23 (by omega)]; exact hkn, ?_, hDE.cg (fun q j hq => hM _ _ (by omega))⟩
  · intro i a b
    obtain ⟨g1, g2⟩ := hH i a b
    rw [hC _ _ (by omega)]
    refine ⟨g1, fun k hk => ?_⟩
    rw [g2 k hk]
    unfold hd
    rw [hM 0 25 (by omega), hb_cg (M' := M') (M := M) (hM _ _ (by omega)) (hM _ _ (by omega)) (fun j _ => hM _ _ (by omega)), mr_cg (M' := M') (M := M) (hM _ _ (by omega)) (fun j hj => hM _ _ (by omega))]
  · obtain ⟨s1, s2, s3, s4⟩ := hSM
    unfold SM
    rw [hM 0 25 (by omega), hM 0 39 (by omega), hM 6 0 (by omega)]
    refine ⟨s1, fun k hk => ?_, s3, fun j hj => ?_⟩
    · rw [hM 17 k (by omega)]
      refine ⟨(s2 k hk).1, fun j hj => ?_⟩
      rw [hM 19 _ (by omega)]
      exact (s2 k hk).2 j hj
    · rw [hM 22 j (by omega)]
      exact s4 j hj
def IOx (M : hq_M) (lo n f : Nat) (r : Int) (e : Nat) (xs : List Int) : Prop := (r = -2 ∧ M 8 0 < sz M f) ∨ (sz M f ≤ M 8 0 ∧ ∃ t : Nat, IsEv (es M 0) lo n (M 8 0 - sz M f) e ∧ IsFr (fun i => held M i = false) lo (min (lo + n) (M 0 23).toNat) t ∧ ((r = -2 ∧ t < e) ∨ (r = -3 ∧ e ≤ t ∧ 200 < M 0 43 + xs.length) ∨ (r = ((lo + n : Nat) : Int) ∧ e ≤ t ∧ M 0 43 + xs.length ≤ 200)))
theorem szb {M : hq_M} {f : Nat} (hL : Lo6 M) (hf : f < 32) : 4 ≤ sz M f ∧ sz M f ≤ 16 := by
  have := hL f hf
  unfold sz
  omega
theorem x10_ins {C M : hq_M} {W o lo n D m c B f : Nat} {xs : List Int} {kk : Int → hq_M → Prop} (h : WE C M W o lo n D m c B) (hx : Rw C (W + 10) xs) (hxl : xs.length ≤ 32) (hf : f < (M 0 0).toNat) (hk : ∀ r e C', IOx M lo n f r e xs → ((r < 0 ∧ C' = C) ∨ (r = ((lo + n : Nat) : Int) ∧ CIp C C' W lo n D m e (f : Int) (sz M f) (sg M 24 0 (M 0 43).toNat) xs)) → kk r C') : w_X10_insert W (f : Int) (sz M f) C kk := by
  have hsz := h.szs
  have hWE := h
  obtain ⟨h0, h4, hS, hT, hH, hQ, h5, hkn, hSM, hDE⟩ := h
  have hb := szb hS.2.2.1 (f := f) (by have := hS.1; omega)
  have e8 : C (W + 1) 6 = M 8 0 := hT.2.1.2.2.2.symm
  refine x10_insert hWE hx hxl (by omega) (fun q => hk (-2) 0 C (.inl ⟨rfl, by omega⟩) (.inl ⟨by decide, rfl⟩)) (fun q e t he ht => ?_)
  rw [e8] at he q
  have he' : IsEv (es M 0) lo n (M 8 0 - sz M f) e := he.cg (fun i a b => (hsz i a b).2.1)
  have ht' : IsFr (fun i => held M i = false) lo (min (lo + n) (M 0 23).toNat) t := ht.cg (fun i a b => hH.fr (by have := hSM.1; omega) h0.2.2.1 a (by omega))
  refine ⟨fun q2 => hk (-2) e C (.inr ⟨q, t, he', ht', .inl ⟨rfl, q2⟩⟩) (.inl ⟨by decide, rfl⟩), fun q2 q3 => hk (-3) e C (.inr ⟨q, t, he', ht', .inr (.inl ⟨rfl, q2, q3⟩)⟩) (.inl ⟨by decide, rfl⟩), fun q2 q3 C' hC' => hk _ e C' (.inr ⟨q, t, he', ht', .inr (.inr ⟨rfl, q2, q3⟩)⟩) (.inr ⟨rfl, hC'⟩)⟩
theorem m_ins {C M : hq_M} {W o lo n D m c B f e : Nat} {r : Int} {xs : List Int} {kk : Int → hq_M → Prop} (h : WE C M W o lo n D m c B) (hi : In M xs) (hxl : xs.length ≤ 32) (hf : f < (M 0 0).toNat) (hio : IOx M lo n f r e xs) (hk : ∀ M', ((r < 0 ∧ M' = M) ∨ (r = ((lo + n : Nat) : Int) ∧ MIp M M' lo n m e (f : Int) xs)) → kk r M') : w_X12_inserted (f : Int) M kk := by
  rcases hio with ⟨h1, h2⟩ | ⟨h1, t, he, ht, hh⟩
  · refine m_inserted h hi hxl (by omega) (fun _ => by rw [← h1]; exact hk M (.inl ⟨by omega, rfl⟩)) (fun q => ?_)
    rw [show ((f : Nat) : Int).toNat = f by omega] at q
    omega
  · refine m_inserted h hi hxl (by omega) (fun q => ?_) (fun _ => ⟨e, t, ?_, ht, fun q => ?_, fun q q2 => ?_, fun q q2 M' hM' => ?_⟩)
    · rw [show ((f : Nat) : Int).toNat = f by omega] at q
      omega
    · rw [show ((f : Nat) : Int).toNat = f by omega]; exact he
    · rcases hh with ⟨a, b⟩ | ⟨a, b, c⟩ | ⟨a, b, c⟩
      · rw [← a]; exact hk M (.inl ⟨by omega, rfl⟩)
      · omega
      · omega
    · rcases hh with ⟨a, b⟩ | ⟨a, b, c⟩ | ⟨a, b, c⟩
      · omega
      · rw [← a]; exact hk M (.inl ⟨by omega, rfl⟩)
      · omega
    · rcases hh with ⟨a, b⟩ | ⟨a, b, c⟩ | ⟨a, b, c⟩
      · omega
      · omega
      · rw [← a]; exact hk M' (.inr ⟨a, hM'⟩)
theorem IOx.rel {C M C' M' : hq_M} {W o lo n D m c B f e : Nat} {r : Int} {xs : List Int} (h : WE C M W o lo n D m c B) (hB : B + 1 ≤ 900000) (hx1 : 1 ≤ xs.length) (hf : f < (M 0 0).toNat) (hr : r = ((lo + n : Nat) : Int)) (hio : IOx M lo n f r e xs) (hC : CIp C C' W lo n D m e (f : Int) (sz M f) (sg M 24 0 (M 0 43).toNat) xs) (hM : MIp M M' lo n m e (f : Int) xs) : WE C' M' W o (lo + e) (n - e + 1) D (m + 1) c (B + 1) := by
  rcases hio with ⟨h1, h2⟩ | ⟨h1, t, he, ht, hh⟩
  · omega
  · rcases hh with ⟨a, b⟩ | ⟨a, b, c⟩ | ⟨a, b, c⟩
    · omega
    · omega
    · have e1 : ((f : Nat) : Int).toNat = f := by omega
      exact ins_rel (f := (f : Int)) h hB hx1 (by omega) c (by rw [e1]; exact h1) (by rw [e1]; exact he) ht b (by rw [e1]; exact hC) hM
theorem m_latest {v top x : Int} {lo n f : Nat} {M : hq_M} {kk : Int → Prop} (hv : v = (f : Int)) (hf : f < 24) (hL : Lo6 M) (m7 : M 7 0 = (lo : Int)) (m6 : M 6 0 = ((lo + n : Nat) : Int)) (hln : lo + n ≤ 1000000) (hfi : ∀ i, lo ≤ i → i < lo + n → 0 ≤ M 10 (i % 64) ∧ M 10 (i % 64) < 8) (ht : 0 ≤ top ∧ top ≤ 2147483647) (hk : ∀ r, IsHi (fun i => (x = 0 ∧ nm M (M 10 (i % 64)).toNat = nm M f) ∨ (x ≠ 0 ∧ M 10 (i % 64) = v)) lo (min top ((lo + n : Nat) : Int)) r → kk r) : w_X12_latest v top x M kk := by
  unfold w_X12_latest
  refine ⟨by decide, m_lesser ?_⟩
  rw [m6]
  obtain ⟨hi, hhi, hb, hb0⟩ : ∃ hi : Int, min top ((lo + n : Nat) : Int) = hi ∧ hi ≤ ((lo + n : Nat) : Int) ∧ 0 ≤ hi := ⟨_, rfl, by omega, by omega⟩
  rw [hhi] at hk ⊢
  refine ⟨⟨by omega, by omega⟩, fun x3 e3 => ⟨(x3 - lo + 1).toNat + 1, ?_⟩⟩
  have key : ∀ (d : Nat) (z : Int), (z - lo + 1).toNat = d → z < hi → -1 ≤ z → (∀ j : Nat, z < (j : Int) → (j : Int) < hi → ¬ ((x = 0 ∧ nm M (M 10 (j % 64)).toNat = nm M f) ∨ (x ≠ 0 ∧ M 10 (j % 64) = v))) → l_X12_latest_14 v x kk M (d + 1) z := by
    intro d
    induction d with
    | zero =>
      intro z hd hz hz2 hj
      rw [l_X12_latest_14, m7]
      exact ⟨by decide, fun _ => hk _ (.inl ⟨rfl, fun i a b => hj i (by omega) b⟩), fun q => by omega⟩
    | succ d ih =>
      intro z hd hz hz2 hj
      have hs : ¬ ((x = 0 ∧ nm M (M 10 (z.toNat % 64)).toNat = nm M f) ∨ (x ≠ 0 ∧ M 10 (z.toNat % 64) = v)) → b_X12_latest_60 v x z (fun v4q => l_X12_latest_14 v x kk M (d + 1) v4q) kk M := by
        intro hn
        unfold b_X12_latest_60
        refine ⟨⟨by omega, by omega⟩, fun y e => ih y (by omega) (by omega) (by omega) (fun j a b => ?_)⟩
        by_cases q3 : j = z.toNat
        · rw [q3]; exact hn
        · exact hj j (by omega) b
      have yes : ((x = 0 ∧ nm M (M 10 (z.toNat % 64)).toNat = nm M f) ∨ (x ≠ 0 ∧ M 10 (z.toNat % 64) = v)) → ¬ z < (lo : Int) → kk z := fun hy q => hk _ (.inr ⟨z.toNat, by omega, by omega, by omega, hy, fun j a b => hj j (by omega) b⟩)
      rw [l_X12_latest_14, m7]
      refine ⟨by decide, fun q => by omega, fun q => m_fieldAt (t := 0) (i := z.toNat) rfl (by decide) (by omega) ?_⟩
      rw [Nat.mul_zero, Nat.zero_add]
      obtain ⟨f1, f2⟩ := hfi z.toNat (by omega) (by omega)
      refine ⟨fun q2 => m_areOfOneName (f := (M 10 (z.toNat % 64)).toNat) (g := f) (by omega) hv (by omega) (by omega) hL ⟨fun e => ?_, fun e => ?_⟩, fun q2 => ⟨fun e => ?_, fun e => ?_⟩⟩
      · refine hs (fun hh => ?_)
        rcases hh with ⟨-, hh⟩ | ⟨hh, -⟩
        · rw [if_pos hh] at e; exact absurd e (by decide)
        · exact hh q2
      · have e2 : nm M (M 10 (z.toNat % 64)).toNat = nm M f := by
          by_cases e2 : nm M (M 10 (z.toNat % 64)).toNat = nm M f
          · exact e2
          · rw [if_neg e2] at e; exact absurd rfl e
        exact yes (.inl ⟨q2, e2⟩) q
      · refine hs (fun hh => ?_)
        rcases hh with ⟨hh, -⟩ | ⟨-, hh⟩
        · exact q2 hh
        · exact e hh
      · exact yes (.inr ⟨q2, e⟩) q
  exact key _ x3 rfl (by omega) (by omega) (fun j a b => by omega)
/-- the octets of an insertion -/
def ins (M : hq_M) (f : Nat) (x3 x7 cnt : Int) : List Int := (if x3 = -9 then (if x7 = -9 then (64 + ((nm M f).length : Int)) :: nm M f else octs 128 6 (cnt - 1 - x7)) else octs 192 6 x3) ++ ((0 + ((vl M f).length : Int)) :: vl M f)
theorem nm_len {M : hq_M} {f : Nat} (hL : Lo6 M) (hf : f < 32) : (nm M f).length ≤ 6 ∧ ((nm M f).length : Int) = M 1 f := by
  have := hL f hf
  have h2 : (nm M f).length = (M 1 f).toNat := sg_len _ _ _ _
  omega
theorem vl_len {M : hq_M} {f : Nat} (hL : Lo6 M) (hf : f < 32) : (vl M f).length ≤ 6 ∧ ((vl M f).length : Int) = M 2 f := by
  have := hL f hf
  have h2 : (vl M f).length = (M 2 f).toNat := sg_len _ _ _ _
  omega
theorem ins_len {M : hq_M} {f : Nat} {x3 x7 cnt : Int} (hL : Lo6 M) (hf : f < 32) : 1 ≤ (ins M f x3 x7 cnt).length ∧ (ins M f x3 x7 cnt).length ≤ 14 := by
  have h1 := nm_len hL hf
  have h2 := vl_len hL hf
  have h3 := octs_len 128 6 (cnt - 1 - x7)
  have h4 := octs_len 192 6 x3
  unfold ins
  rw [List.length_append]
  simp only [List.length_cons]
  split
  · split
    · simp only [List.length_cons]; omega
    · omega
  · omega
/-- what an insertion attempt of field f finds -/
def FI (M : hq_M) (lo n f : Nat) (x3 x7 : Int) : Prop := IsLo (fun i => nm M (8 + i) = nm M f) (M 0 1).toNat x3 ∧ IsHi (fun i => nm M (M 10 (i % 64)).toNat = nm M f) lo ((lo + n : Nat) : Int) x7
theorem x10_insertField {C M : hq_M} {W o lo n D m c B f : Nat} {v : Int} {kk : Int → hq_M → Prop} (h : WE C M W o lo n D m c B) (hv : v = (f : Int)) (hf : f < (M 0 0).toNat) (hk : ∀ x3 x7 r e C', FI M lo n f x3 x7 → IOx M lo n f r e (ins M f x3 x7 ((lo + n : Nat) : Int)) → ((r < 0 ∧ Fa C C' (W + 10)) ∨ (r = ((lo + n : Nat) : Int) ∧ CIp C C' W lo n D m e (f : Int) (sz M f) (sg M 24 0 (M 0 43).toNat) (ins M f x3 x7 ((lo + n : Nat) : Int)))) → kk r C') : w_X10_insertField W v C kk := by
  have hsz := h.szs
  have hWE := h
  obtain ⟨⟨ho, hW, hc40, b1, b2, b3⟩, h4, hS, hT, hH, hQ, h5, hkn, hSM, hDE⟩ := h
  obtain ⟨w2, w3, w4, w7, w8, w9, w11, w13⟩ := capW hW
  have pc7 : PC (o + 1) 7 := by rcases ho with rfl | rfl; exact PC_9; exact PC_89
  have pc8 : PC (o + 38) 8 := by rcases ho with rfl | rfl; exact PC_46; exact PC_126
  have hL := hS.2.2.1
  have hF := hS.1
  have hN1 := hS.2.1
  have hcap := pc7.2.2 f (by omega)
  obtain ⟨p1, p2, p3, p4⟩ := hS.2.2.2.1.2 f (by omega)
  have hn6 := nm_len hL (f := f) (by omega)
  have hv6 := vl_len hL (f := f) (by omega)
  have hcnt : C (W + 1) 3 = ((lo + n : Nat) : Int) := hT.1.2.1
  have hoW : o + 80 ≤ W := by omega
  unfold w_X10_insertField
  intro o2 eo2
  have : o2 = o := by omega
  subst this
  refine x3_at_in (i := f) pc7 hS.2.2.2.1.1 (by omega) hv (by omega) ⟨fun e => (by cases e), fun o3 e => ?_⟩
  cases e
  refine x6_empty (fun C1 r1 f1 => ?_)
  have g1 : ∀ q j, q < W + 10 → C1 q j = C q j := fun q j hq => f1 q j (by omega) (by omega)
  have hWE1 : WE C1 M W o2 lo n D m c B := hWE.cg (fun q j hq => g1 q j (by omega)) (fun _ _ _ => rfl)
  have hS1 := hWE1.2.2.1
  have hT1 := hWE1.2.2.2.1
  have p1' : Rw C1 (o2 + 1 + 2 + 5 * f + 1) (nm M f) := (hS1.2.2.2.1.2 f (by omega)).1
  have p2' : Rw C1 (o2 + 1 + 2 + 5 * f + 3) (vl M f) := (hS1.2.2.2.1.2 f (by omega)).2.1
  unfold w_X10_formInsertion
  rw [g1 W 4 (by omega)]
  intro o4 eo4
  have : o4 = o2 := by omega
  subst this
  refine x3_lowestNamed pc8 hS1.2.2.2.2.1 (by omega) p1' hn6.1 hcap.1 (fun x3 hx3 => ?_)
  intro o5 eo5
  have : o5 = o4 := by omega
  subst this
  rw [g1 (W + 1) 3 (by omega), hcnt]
  refine x9_highestNamed hT1.1 (by omega) pc7 hS1.2.2.2.1 (by omega) p1' hn6.1 hcap.1 (fun i a b => by rw [show W + 1 + 1 = W + 2 by omega, g1 _ _ (by omega)]; have := hsz i a b; omega) (fun x7 hx7 => ?_)
  have hx7' : IsHi (fun i => nm M (M 10 (i % 64)).toNat = nm M f) lo ((lo + n : Nat) : Int) x7 := by
    rw [show min ((lo + n : Nat) : Int) ((lo + n : Nat) : Int) = ((lo + n : Nat) : Int) by omega] at hx7
    refine hx7.cg (fun i a b => ?_)
    rw [show W + 1 + 1 = W + 2 by omega, g1 _ _ (by omega), (hsz i (by omega) (by omega)).2.2.1]
  have hxb3 := hx3.bd
  have hxb7 := hx7'.bd
  have hil := ins_len (x3 := x3) (x7 := x7) (cnt := ((lo + n : Nat) : Int)) hL (f := f) (by omega)
  -- behind the value
  have fin : ∀ (C2 : hq_M) (ys : List Int), Rw C2 (W + 10) ys → Fa C C2 (W + 10) → ins M f x3 x7 ((lo + n : Nat) : Int) = ys ++ ((0 + ((vl M f).length : Int)) :: vl M f) → b_X10_formInsertion_101 W (o5 + 1 + 2 + 5 * f) (fun M6 => w_X2_entrySize (o5 + 1 + 2 + 5 * f) M6 (fun x7 => w_X10_insert W v x7 M6 (fun x9 M8 => kk x9 M8))) C2 := by
    intro C2 ys r2 f2 he
    rw [he] at hil
    simp only [List.length_append, List.length_cons] at hil
    unfold b_X10_formInsertion_101
    refine x6_addWord (by decide) r2 (p2.cg (f2 _ _ (by omega) (by omega)) (fun i => f2 _ _ (by omega) (by omega))) (by omega) (by rw [w11]; omega) (by omega) (fun C3 r3 f3 => ?_)
    rw [← he] at r3
    have f03 := f2.tr f3
    have g3 : ∀ q j, q < W + 10 → C3 q j = C q j := fun q j hq => f03 q j (by omega) (by omega)
    have hWE3 : WE C3 M W o5 lo n D m c B := hWE.cg (fun q j hq => g3 q j (by omega)) (fun _ _ _ => rfl)
    unfold w_X2_entrySize
    rw [g3 _ 1 (by omega), g3 (o5 + 1 + 2 + 5 * f + 3) 1 (by omega), p1.1, p2.1]
    refine ⟨⟨by omega, by omega⟩, ⟨by omega, by omega⟩, ?_⟩
    rw [show ((nm M f).length : Int) + ((vl M f).length : Int) + 4 = sz M f by unfold sz; omega, hv]
    refine x10_ins hWE3 r3 (by rw [he]; simp; omega) hf (fun r e C' hio hC' => hk x3 x7 r e C' ⟨hx3, hx7'⟩ hio ?_)
    rcases hC' with ⟨a, b⟩ | ⟨a, c6, c53, c8, c9, c13, c14, c15, c2, c3, c4, fC⟩
    · exact .inl ⟨a, by rw [b]; exact f03⟩
    · refine .inr ⟨a, c6, by rw [c53, g3 _ _ (by omega)], c8, c9, c13, c14, ?_, c2, c3, c4, fun q j hq => ?_⟩
      · rw [c15, sm_cg (g := fun i => C (W + 3) (i % 64)) (fun i _ _ => g3 _ _ (by omega))]
      · rw [fC q j hq, f03 q j (by omega) (by omega)]
  refine ⟨fun q => ⟨fun q2 => ?_, fun q2 => ⟨⟨by omega, by omega⟩, ⟨by omega, by omega⟩, ?_⟩⟩, fun q => ?_⟩
  · refine x6_addWord (by decide) r1 p1' (by omega) (by rw [w11]; simp; omega) (by omega) (fun C2 r2 f2 => fin C2 _ r2 (f1.tr f2) ?_)
    unfold ins
    rw [if_pos (by omega), if_pos (by omega), List.nil_append]
  · have ol := octs_len 128 6 (((lo + n : Nat) : Int) - 1 - x7)
    refine x6_addInteger (by decide) (by decide) (by omega) r1 (by rw [w11, List.length_nil]; omega) (fun C2 r2 f2 => fin C2 _ r2 (f1.tr f2) ?_)
    unfold ins
    rw [if_pos (by omega), if_neg (by omega), List.nil_append]
  · have ol := octs_len 192 6 x3
    refine x6_addInteger (by decide) (by decide) (by omega) r1 (by rw [w11, List.length_nil]; omega) (fun C2 r2 f2 => fin C2 _ r2 (f1.tr f2) ?_)
    unfold ins
    rw [if_neg (by omega), List.nil_append]
theorem m_insertsField {C M : hq_M} {W o lo n D m c B f e : Nat} {v r x3 x7 : Int} {kk : Int → hq_M → Prop} (h : WE C M W o lo n D m c B) (hv : v = (f : Int)) (hf : f < (M 0 0).toNat) (hfi : FI M lo n f x3 x7) (hio : IOx M lo n f r e (ins M f x3 x7 ((lo + n : Nat) : Int))) (hk : ∀ M', ((r < 0 ∧ Fi M M') ∨ (r = ((lo + n : Nat) : Int) ∧ MIp M M' lo n m e (f : Int) (ins M f x3 x7 ((lo + n : Nat) : Int)))) → kk r M') : w_X12_insertsField v M kk := by
  have hsz := h.szs
  have hWE := h
  obtain ⟨⟨ho, hW, hc40, b1, b2, b3⟩, h4, hS, hT, hH, hQ, h5, hkn, hSM, hDE⟩ := h
  have hL := hS.2.2.1
  have hF := hS.1
  have hN1 := hS.2.1
  have hn6 := nm_len hL (f := f) (by omega)
  have hv6 := vl_len hL (f := f) (by omega)
  have hL1 := hL f (by omega)
  have m6 := hT.2.1.2.1
  have m7 := hT.2.1.1
  have hil := ins_len (x3 := x3) (x7 := x7) (cnt := ((lo + n : Nat) : Int)) hL (f := f) (by omega)
  have hxb3 := hfi.1.bd
  have hxb7 := hfi.2.bd
  unfold w_X12_insertsField
  intro M1 e1
  obtain ⟨i1, f1⟩ := In.new e1
  have g1 : ∀ q j, ¬ (q = 28 ∨ (q = 0 ∧ j = 49)) → M1 q j = M q j := fun q j hq => f1 q j (by omega) (by omega)
  have hL1' : Lo6 M1 := fun g hg => by rw [g1 1 g (by omega), g1 2 g (by omega)]; exact hL g hg
  have enm : ∀ g, nm M1 g = nm M g := fun g => nm_cg (g1 _ _ (by omega)) (fun j => g1 _ _ (by omega))
  refine m_stillOf (f := f) hv (by omega) hL1' (by rw [g1 0 1 (by omega)]; exact hS.2.1) (fun y3 hy3 => ⟨by decide, ?_⟩)
  have ey3 : y3 = x3 := by
    rw [g1 0 1 (by omega)] at hy3
    refine IsLo.un (IsLo.cg (fun i hi => ?_) hy3) hfi.1
    rw [enm, enm]
    constructor
    · exact fun hh => hh.1
    · exact fun hh => ⟨hh, .inl rfl⟩
  subst ey3
  rw [g1 6 0 (by omega), m6]
  refine m_latest (lo := lo) (n := n) (f := f) hv (by omega) hL1' (by rw [g1 7 0 (by omega)]; exact m7) (by rw [g1 6 0 (by omega)]; exact m6) (by omega) (fun i a b => by rw [g1 10 _ (by omega)]; have := hsz i a b; omega) (by omega) (fun y7 hy7 => ?_)
  have ey7 : y7 = x7 := by
    rw [show min ((lo + n : Nat) : Int) ((lo + n : Nat) : Int) = ((lo + n : Nat) : Int) by omega] at hy7
    refine IsHi.un (IsHi.cg (fun i a b => ?_) hy7) hfi.2
    rw [enm, enm, g1 10 _ (by omega)]
    constructor
    · rintro (hh | hh)
      · exact hh.2
      · exact absurd rfl hh.1
    · exact fun hh => .inl ⟨rfl, hh⟩
  subst ey7
  have fin : ∀ (M2 : hq_M) (ys : List Int), In M2 ys → Fi M M2 → ins M f y3 y7 ((lo + n : Nat) : Int) = ys ++ ((0 + ((vl M f).length : Int)) :: vl M f) → b_X12_insertsField_90 v kk M2 := by
    intro M2 ys i2 f2 he
    rw [he] at hil
    simp only [List.length_append, List.length_cons] at hil
    have g2 : ∀ q j, ¬ (q = 28 ∨ (q = 0 ∧ j = 49)) → M2 q j = M q j := fun q j hq => f2 q j (by omega) (by omega)
    have evl : vl M2 f = vl M f := vl_cg (g2 _ _ (by omega)) (fun j => g2 _ _ (by omega))
    unfold b_X12_insertsField_90
    refine m_laysValue (f := f) hv (by omega) (by rw [g2 2 f (by omega)]; exact hL1.2) i2 (by rw [evl]; omega) (fun M3 i3 f3 => ?_)
    rw [evl, ← he] at i3
    have f03 := f2.tr f3
    have g3 : ∀ q j, ¬ (q = 28 ∨ (q = 0 ∧ j = 49)) → M3 q j = M q j := fun q j hq => f03 q j (by omega) (by omega)
    have hWE3 : WE C M3 W o lo n D m c B := hWE.cg (fun _ _ _ => rfl) (fun q j hq => g3 q j (by omega))
    have ez : ∀ g, sz M3 g = sz M g := fun g => by unfold sz; rw [g3 1 _ (by omega), g3 2 _ (by omega)]
    have ees : es M3 0 = es M 0 := by funext i; unfold es; rw [ez, g3 10 _ (by omega)]
    have ehe : (fun i => held M3 i = false) = (fun i => held M i = false) := by
      funext i
      have : held M3 i = held M i := by
        unfold held
        rw [mr_cg (M := M) (g3 _ _ (by omega)) (fun j _ => g3 _ _ (by omega)), g3 0 25 (by omega)]
        congr 1
        have : (fun k => hb M3 k i) = (fun k => hb M k i) := by
          funext k
          exact hb_cg (g3 _ _ (by omega)) (g3 _ _ (by omega)) (fun j _ => g3 _ _ (by omega))
        rw [this]
      rw [this]
    have hio3 : IOx M3 lo n f r e (ins M f y3 y7 ((lo + n : Nat) : Int)) := by
      unfold IOx
      rw [ez, ees, ehe, g3 8 0 (by omega), g3 0 23 (by omega), g3 0 43 (by omega)]
      exact hio
    rw [hv]
    refine m_ins hWE3 i3 (by rw [he]; simp; omega) (by rw [g3 0 0 (by omega)]; exact hf) hio3 (fun M' hM' => hk M' ?_)
    rcases hM' with ⟨a, b⟩ | ⟨a, p7, p6, p9, p10, p43, p24, p24', p25, p27, p26, p47, fM⟩
    · exact .inl ⟨a, by rw [b]; exact f03⟩
    · rw [g3 0 43 (by omega)] at p43 p24 p24'
      refine .inr ⟨a, p7, p6, ?_, p10, p43, p24, fun i hi => ?_, p25, p27, p26, p47, fun q j hq => ?_⟩
      · rw [p9, ees, ez]
      · rw [p24' i hi, g3 _ _ (by omega)]
      · rw [fM q j hq, g3 q j (by omega)]
  refine ⟨fun q => ⟨fun q2 => ?_, fun q2 => ⟨by decide, ⟨by omega, by omega⟩, ⟨by omega, by omega⟩, ?_⟩⟩, fun q => ?_⟩
  · rw [show v.toNat = f by omega, g1 1 f (by omega)]
    have ho : octs 64 5 (M 1 f) = [64 + ((nm M f).length : Int)] := by
      rw [octs_one (show M 1 f < pw 5 - 1 from Int.lt_of_le_of_lt hL1.1.2 (by decide)), hn6.2]
    refine ⟨⟨by omega, by omega⟩, m_laysNumber (by decide) (by decide) (by omega) i1 (by rw [ho]; simp) (fun M2 i2 f2 => ?_)⟩
    rw [ho, List.nil_append] at i2
    have f02 := f1.tr f2
    have enm2 : nm M2 f = nm M f := nm_cg (f02 _ _ (by omega) (by omega)) (fun j => f02 _ _ (by omega) (by omega))
    refine m_laysName (f := f) hv (by omega) (by rw [f02 1 f (by omega) (by omega)]; exact hL1.1) i2 (by rw [enm2]; simp; omega) (fun M3 i3 f3 => fin M3 _ i3 (f02.tr f3) ?_)
    unfold ins
    rw [if_pos q, if_pos q2, enm2]
    rfl
  · have ol := octs_len 128 6 (((lo + n : Nat) : Int) - 1 - y7)
    refine m_laysNumber (by decide) (by decide) (by omega) i1 (by rw [List.length_nil]; omega) (fun M2 i2 f2 => fin M2 _ i2 (f1.tr f2) ?_)
    unfold ins
    rw [if_pos q, if_neg q2, List.nil_append]
  · have ol := octs_len 192 6 y3
    refine m_laysNumber (by decide) (by decide) (by omega) i1 (by rw [List.length_nil]; omega) (fun M2 i2 f2 => fin M2 _ i2 (f1.tr f2) ?_)
    unfold ins
    rw [if_neg q, List.nil_append]
