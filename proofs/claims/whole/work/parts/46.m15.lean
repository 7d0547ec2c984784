/-! ===== the mathematics, part 15: the decoder's side of an order ===== -/
theorem x9_ins1 {A lo n : Nat} {f z : Int} {C : hq_M} {kk : Int → hq_M → Prop} (tc : TC C A lo n) (t5 : C A 5 = sm (fun i => C (A + 2) (i % 64)) lo n) (nn : ∀ i, lo ≤ i → i < lo + n → 0 ≤ C (A + 2) (i % 64)) (hs2 : C A 5 ≤ 200) (hz : 0 ≤ z ∧ z ≤ C A 6 ∧ C A 6 ≤ 200) (hk : ∀ (e : Nat) (C' : hq_M), IsEv (fun i => C (A + 2) (i % 64)) lo n (C A 6 - z) e → C' A 3 = ((lo + n + 1 : Nat) : Int) → C' A 4 = ((lo + e : Nat) : Int) → C' A 5 = sm (fun i => C (A + 2) (i % 64)) (lo + e) (n - e) + z → C' (A + 1) ((lo + n) % 64) = f → C' (A + 2) ((lo + n) % 64) = z → C' (A + 3) ((lo + n) % 64) = 0 → (∀ o j, ¬ ((o = A ∧ (j = 3 ∨ j = 4 ∨ j = 5)) ∨ ((o = A + 1 ∨ o = A + 2 ∨ o = A + 3) ∧ j = (lo + n) % 64)) → C' o j = C o j) → kk ((lo + n : Nat) : Int) C') : w_X9_insert A f z C kk := by
  obtain ⟨h1, h2, h3, w2, w3, w4⟩ := tc
  have h0 := sm_nn (f := fun i => C (A + 2) (i % 64)) (lo := lo) (n := n) nn
  unfold w_X9_insert
  refine ⟨⟨by omega, by omega⟩, x9_shrink (lim := C A 6 - z) ⟨h1, h2, h3, w2, w3, w4⟩ t5 nn (by omega) (by omega) (fun e C2 he s5 s4 f2 => ?_)⟩
  intro x5 ex5
  have hx5 : x5 = ((lo + n : Nat) : Int) := by rw [ex5, f2 _ 3 (by omega)]; exact h2
  have x64 : (x5 % 64).toNat = (lo + n) % 64 := by omega
  rw [x64, w2, w3, w4]
  refine ⟨⟨by omega, by omega⟩, fun M7 e7 => ⟨⟨by omega, by omega⟩, fun M9 e9 => ⟨⟨by omega, by omega⟩, fun M11 e11 => ?_⟩⟩⟩
  have f7 : ∀ o j, ¬ (o = A + 1 ∧ j = (lo + n) % 64) → M7 o j = C2 o j := fun o j ho => by rw [e7]; simp only [hq_up]; rw [if_neg ho]
  have f9 : ∀ o j, ¬ (o = A + 2 ∧ j = (lo + n) % 64) → M9 o j = M7 o j := fun o j ho => by rw [e9]; simp only [hq_up]; rw [if_neg ho]
  have f11 : ∀ o j, ¬ (o = A + 3 ∧ j = (lo + n) % 64) → M11 o j = M9 o j := fun o j ho => by rw [e11]; simp only [hq_up]; rw [if_neg ho]
  have g5 : M11 A 5 = sm (fun i => C (A + 2) (i % 64)) (lo + e) (n - e) := by rw [f11 _ _ (by omega), f9 _ _ (by omega), f7 _ _ (by omega)]; exact s5
  have g3 : M11 A 3 = ((lo + n : Nat) : Int) := by rw [f11 _ _ (by omega), f9 _ _ (by omega), f7 _ _ (by omega), f2 _ _ (by omega)]; exact h2
  have g4 : M11 A 4 = ((lo + e : Nat) : Int) := by rw [f11 _ _ (by omega), f9 _ _ (by omega), f7 _ _ (by omega)]; exact s4
  have hsl := he.2.1
  have hsn := sm_nn (f := fun i => C (A + 2) (i % 64)) (lo := lo + e) (n := n - e) (fun i a b => nn i (by omega) (by have := he.1; omega))
  rw [g5]
  refine ⟨⟨by omega, by omega⟩, fun M14 e14 => ?_⟩
  have f14 : ∀ o j, ¬ (o = A ∧ j = 5) → M14 o j = M11 o j := fun o j ho => by rw [e14]; simp only [hq_up]; rw [if_neg ho]
  rw [f14 _ 3 (by omega), g3]
  refine ⟨⟨by omega, by omega⟩, fun M17 e17 => ?_⟩
  have f17 : ∀ o j, ¬ (o = A ∧ j = 3) → M17 o j = M14 o j := fun o j ho => by rw [e17]; simp only [hq_up]; rw [if_neg ho]
  rw [hx5]
  refine hk e M17 he ?_ ?_ ?_ ?_ ?_ ?_ (fun o j ho => ?_)
  · rw [e17, up_self]; omega
  · rw [f17 _ _ (by omega), f14 _ _ (by omega)]; exact g4
  · rw [f17 _ _ (by omega), e14, up_self]
  · rw [f17 _ _ (by omega), f14 _ _ (by omega), f11 _ _ (by omega), f9 _ _ (by omega), e7, up_self]
  · rw [f17 _ _ (by omega), f14 _ _ (by omega), f11 _ _ (by omega), e9, up_self]
  · rw [f17 _ _ (by omega), f14 _ _ (by omega), e11, up_self]
  · rw [f17 _ _ (by omega), f14 _ _ (by omega), f11 _ _ (by omega), f9 _ _ (by omega), f7 _ _ (by omega), f2 _ _ (by omega)]
theorem x9_change {A lo n : Nat} {v : Int} {C : hq_M} {kk : hq_M → Prop} (tc : TC C A lo n) (t5 : C A 5 = sm (fun i => C (A + 2) (i % 64)) lo n) (nn : ∀ i, lo ≤ i → i < lo + n → 0 ≤ C (A + 2) (i % 64)) (hs2 : C A 5 ≤ 200) (hv : 0 ≤ v ∧ v ≤ 200) (hk : ∀ (e : Nat) (C' : hq_M), IsEv (fun i => C (A + 2) (i % 64)) lo n v e → C' A 4 = ((lo + e : Nat) : Int) → C' A 5 = sm (fun i => C (A + 2) (i % 64)) (lo + e) (n - e) → C' A 6 = v → (∀ o j, ¬ (o = A ∧ (j = 4 ∨ j = 5 ∨ j = 6)) → C' o j = C o j) → kk C') : w_X9_changeCapacity A v C kk := by
  unfold w_X9_changeCapacity
  refine x9_shrink (lim := v) tc t5 nn (by omega) (by omega) (fun e C2 he s5 s4 f2 => ?_)
  intro M2 e2
  have f3 : ∀ o j, ¬ (o = A ∧ j = 6) → M2 o j = C2 o j := fun o j ho => by rw [e2]; simp only [hq_up]; rw [if_neg ho]
  refine hk e M2 he ?_ ?_ ?_ (fun o j ho => ?_)
  · rw [f3 _ _ (by omega)]; exact s4
  · rw [f3 _ _ (by omega)]; exact s5
  · rw [e2, up_self]
  · rw [f3 _ _ (by omega), f2 _ _ (by omega)]
/-- an entry comes into the reference's table t -/
theorem m_comes {v w : Int} {t lo n f : Nat} {M : hq_M} {kk : hq_M → Prop} (hv : v = (t : Int)) (ht : t < 2) (hw : w = (f : Int)) (hf : f < 8) (hL : Lo6 M) (m7 : M 7 t = (lo : Int)) (m6 : M 6 t = ((lo + n : Nat) : Int)) (hln : lo + n ≤ 900000) (m9 : M 9 t = sm (es M t) lo n) (hb9 : M 9 t ≤ 200) (hfi : ∀ i, lo ≤ i → i < lo + n → 0 ≤ M 10 (64 * t + i % 64) ∧ M 10 (64 * t + i % 64) < 32) (hc : sz M f ≤ M 8 t ∧ M 8 t ≤ 200) (hk : ∀ (e : Nat) (M' : hq_M), IsEv (es M t) lo n (M 8 t - sz M f) e → M' 9 t = sm (es M t) (lo + e) (n - e) + sz M f → M' 7 t = ((lo + e : Nat) : Int) → M' 6 t = ((lo + n + 1 : Nat) : Int) → M' 10 (64 * t + (lo + n) % 64) = w → (∀ o j, ¬ ((o = 6 ∨ o = 7 ∨ o = 9) ∧ j = t) → ¬ (o = 10 ∧ j = 64 * t + (lo + n) % 64) → M' o j = M o j) → kk M') : w_X12_comes v w M kk := by
  have hb := szb hL (f := f) (by omega)
  have esn : ∀ i, lo ≤ i → i < lo + n → 0 ≤ es M t i := by
    intro i a b
    have := hfi i a b
    have := hL (M 10 (64 * t + i % 64)).toNat (by omega)
    unfold es sz
    omega
  have hvt : v.toNat = t := by omega
  unfold w_X12_comes
  refine m_sizeOf (f := f) hw (by omega) hL ?_
  refine m_makesRoom (t := t) hv ht hL m7 m6 (by omega) m9 (by omega) hfi (by omega) (fun e M2 he s9 s7 f2 => ?_)
  have s6 : M2 6 t = ((lo + n : Nat) : Int) := by rw [f2 _ _ (by omega)]; exact m6
  rw [hvt, s6, show (64 * v + ((lo + n : Nat) : Int) % 64).toNat = 64 * t + (lo + n) % 64 by omega]
  refine ⟨⟨by omega, by omega⟩, ⟨by omega, by omega⟩, ⟨by omega, by decide⟩, ⟨by omega, by omega⟩, ⟨by omega, by omega⟩, fun M10 e10 => ⟨⟨by omega, by omega⟩, ?_⟩⟩
  have f10 : ∀ o j, ¬ (o = 10 ∧ j = 64 * t + (lo + n) % 64) → M10 o j = M2 o j := fun o j ho => by rw [e10]; simp only [hq_up]; rw [if_neg ho]
  rw [f10 6 t (by omega), s6]
  refine ⟨⟨by omega, by omega⟩, ⟨by omega, by omega⟩, fun M15 e15 => ⟨⟨by omega, by omega⟩, ?_⟩⟩
  have f15 : ∀ o j, ¬ (o = 6 ∧ j = t) → M15 o j = M10 o j := fun o j ho => by rw [e15]; simp only [hq_up]; rw [if_neg ho]
  have o15 : ∀ o j, ¬ ((o = 6 ∨ o = 7 ∨ o = 9) ∧ j = t) → ¬ (o = 10 ∧ j = 64 * t + (lo + n) % 64) → M15 o j = M o j := fun o j ho ho2 => by rw [f15 _ _ (by omega), f10 _ _ (by omega), f2 _ _ (by omega)]
  have hL15 : Lo6 M15 := fun g hg => by rw [o15 1 g (by omega) (by omega), o15 2 g (by omega) (by omega)]; exact hL g hg
  have sz15 : sz M15 f = sz M f := by unfold sz; rw [o15 1 _ (by omega) (by omega), o15 2 _ (by omega) (by omega)]
  refine m_sizeOf (f := f) hw (by omega) hL15 ?_
  have s9' : M15 9 t = sm (es M t) (lo + e) (n - e) := by rw [f15 _ _ (by omega), f10 _ _ (by omega)]; exact s9
  have hsl := he.2.1
  have hsn := sm_nn (f := es M t) (lo := lo + e) (n := n - e) (fun i a b => esn i (by omega) (by have := he.1; omega))
  rw [s9', sz15]
  refine ⟨⟨by omega, by omega⟩, ⟨by omega, by omega⟩, fun M21 e21 => ?_⟩
  have f21 : ∀ o j, ¬ (o = 9 ∧ j = t) → M21 o j = M15 o j := fun o j ho => by rw [e21]; simp only [hq_up]; rw [if_neg ho]
  refine hk e M21 he ?_ ?_ ?_ ?_ (fun o j ho ho2 => ?_)
  · rw [e21, up_self]
  · rw [f21 _ _ (by omega), f15 _ _ (by omega), f10 _ _ (by omega)]; exact s7
  · rw [f21 _ _ (by omega), e15, up_self]; omega
  · rw [f21 _ _ (by omega), f15 _ _ (by omega), e10, up_self]
  · rw [f21 _ _ (by omega), o15 _ _ ho ho2]
/-- the front order is done with: the reference moves the others up -/
theorem m_pop {M : hq_M} {m : Nat} {kk : hq_M → Prop} (hm : M 0 47 = ((m + 1 : Nat) : Int)) (hm2 : m ≤ 210) (hk : ∀ M' : hq_M, M' 0 47 = (m : Int) → (∀ a j, 25 ≤ a → a ≤ 27 → j < m → M' a j = M a (j + 1)) → (∀ o j, ¬ ((25 ≤ o ∧ o ≤ 27) ∨ (o = 0 ∧ j = 47)) → M' o j = M o j) → kk M') : b_X12_does_46 kk M := by
  unfold b_X12_does_46
  rw [hm]
  refine ⟨⟨by omega, by omega⟩, fun M3 e3 => ⟨m + 1, ?_⟩⟩
  have f3 : ∀ o j, ¬ (o = 0 ∧ j = 47) → M3 o j = M o j := fun o j ho => by rw [e3]; simp only [hq_up]; rw [if_neg ho]
  have s3 : M3 0 47 = (m : Int) := by rw [e3, up_self]; omega
  have key : ∀ (d i : Nat) (z : Int) (N : hq_M), z = (i : Int) → i + d = m → (∀ a j, 25 ≤ a → a ≤ 27 → j < i → N a j = M a (j + 1)) → (∀ a j, 25 ≤ a → a ≤ 27 → i ≤ j → N a j = M a j) → (∀ o j, ¬ (25 ≤ o ∧ o ≤ 27) → N o j = M3 o j) → l_X12_does_58 kk (d + 1) z N := by
    intro d
    induction d with
    | zero =>
      intro i z N hz hi hlo hhi hF
      rw [l_X12_does_58, hF 0 47 (by omega), s3]
      exact ⟨fun _ => hk N (by rw [hF 0 47 (by omega)]; exact s3) (fun a j h1 h2 hj => hlo a j h1 h2 (by omega)) (fun o j ho => by rw [hF _ _ (by omega), f3 _ _ (by omega)]), fun q => by omega⟩
    | succ d ih =>
      intro i z N hz hi hlo hhi hF
      rw [l_X12_does_58, hF 0 47 (by omega), s3, show z.toNat = i by omega, show (z + 1).toNat = i + 1 by omega]
      refine ⟨fun q => by omega, fun _ => ⟨⟨by omega, by omega⟩, ⟨by omega, by omega⟩, ⟨by omega, by omega⟩, fun M6 e6 => ⟨⟨by omega, by omega⟩, ⟨by omega, by omega⟩, ⟨by omega, by omega⟩, fun M11 e11 => ⟨⟨by omega, by omega⟩, ⟨by omega, by omega⟩, ⟨by omega, by omega⟩, fun M16 e16 => ⟨⟨by omega, by omega⟩, fun x17 e17 => ?_⟩⟩⟩⟩⟩
      have g : ∀ o j, M16 o j = if 25 ≤ o ∧ o ≤ 27 ∧ j = i then N o (i + 1) else N o j := by
        intro o j
        rw [e16, e11, e6]
        simp only [hq_up]
        by_cases q : 25 ≤ o ∧ o ≤ 27 ∧ j = i
        · rw [if_pos q]
          obtain ⟨q1, q2, q3⟩ := q
          have : o = 25 ∨ o = 26 ∨ o = 27 := by omega
          rcases this with rfl | rfl | rfl <;> simp [q3]
        · rw [if_neg q, if_neg (by omega), if_neg (by omega), if_neg (by omega)]
      refine ih (i + 1) x17 M16 (by omega) (by omega) (fun a j h1 h2 hj => ?_) (fun a j h1 h2 hj => ?_) (fun o j ho => ?_)
      · rw [g]
        by_cases q : j = i
        · rw [if_pos ⟨h1, h2, q⟩, hhi a (i + 1) h1 h2 (by omega), q]
        · rw [if_neg (by omega)]
          exact hlo a j h1 h2 (by omega)
      · rw [g, if_neg (by omega)]
        exact hhi a j h1 h2 (by omega)
      · rw [g, if_neg (by omega)]
        exact hF o j ho
  exact key m 0 0 M3 rfl (by omega) (fun a j _ _ hj => absurd hj (by omega)) (fun a j _ _ _ => f3 _ _ (by omega)) (fun _ _ _ => rfl)
