/-! ===== the mathematics, part 2: counting and searching ===== -/
def cn (P : Nat → Bool) : Nat → Nat
  | 0 => 0
  | n + 1 => cn P n + (if P n then 1 else 0)
theorem cn_le (P : Nat → Bool) (n : Nat) : cn P n ≤ n := by
  induction n with
  | zero => exact Nat.le_refl 0
  | succ n ih => rw [cn]; split <;> omega
theorem cn_cg {P Q : Nat → Bool} {n : Nat} (h : ∀ i, i < n → P i = Q i) : cn P n = cn Q n := by
  induction n with
  | zero => rfl
  | succ n ih => rw [cn, cn, ih (fun i hi => h i (by omega)), h n (by omega)]
theorem cn_mono {P Q : Nat → Bool} {n : Nat} (h : ∀ i, i < n → P i = true → Q i = true) : cn P n ≤ cn Q n := by
  induction n with
  | zero => exact Nat.le_refl 0
  | succ n ih =>
    rw [cn, cn]
    have := ih (fun i hi => h i (by omega))
    cases hp : P n with
    | true => rw [h n (by omega) hp]; simp; omega
    | false => simp; omega
theorem cn_lt {P Q : Nat → Bool} {n i : Nat} (h : ∀ j, j < n → P j = true → Q j = true) (hi : i < n) (hp : P i = false) (hq : Q i = true) : cn P n < cn Q n := by
  induction n with
  | zero => omega
  | succ n ih =>
    rw [cn, cn]
    by_cases e : i = n
    · subst e
      have := cn_mono (P := P) (Q := Q) (n := i) (fun j hj => h j (by omega))
      rw [hp, hq]
      simp
      omega
    · have := ih (fun j hj => h j (by omega)) (by omega)
      cases hp2 : P n with
      | true => rw [h n (by omega) hp2]; simp; omega
      | false => simp; omega
theorem cn_or {P Q : Nat → Bool} {n : Nat} (h : ∀ i, i < n → ¬ (P i = true ∧ Q i = true)) : cn (fun i => P i || Q i) n = cn P n + cn Q n := by
  induction n with
  | zero => rfl
  | succ n ih =>
    rw [cn, cn, cn, ih (fun i hi => h i (by omega))]
    have := h n (by omega)
    cases hp : P n <;> cases hq : Q n <;> simp_all <;> omega
theorem cn_below {P : Nat → Bool} {m n : Nat} (h : m ≤ n) : cn (fun i => P i && decide (i < m)) n = cn P m := by
  induction n with
  | zero => rw [show m = 0 by omega]; rfl
  | succ n ih =>
    by_cases e : m ≤ n
    · rw [cn, ih e]; simp [show ¬ n < m by omega]
    · rw [show m = n + 1 by omega]
      exact cn_cg (fun i hi => by simp [hi])
def IsLo (P : Nat → Prop) (n : Nat) (r : Int) : Prop := (r = -9 ∧ ∀ i, i < n → ¬ P i) ∨ ∃ i : Nat, i < n ∧ r = (i : Int) ∧ P i ∧ ∀ j, j < i → ¬ P j
theorem IsLo.un {P : Nat → Prop} {n : Nat} {r s : Int} (h : IsLo P n r) (g : IsLo P n s) : r = s := by
  rcases h with ⟨h1, h2⟩ | ⟨i, h1, h2, h3, h4⟩ <;> rcases g with ⟨g1, g2⟩ | ⟨j, g1, g2, g3, g4⟩
  · omega
  · exact absurd g3 (h2 j g1)
  · exact absurd h3 (g2 i h1)
  · rcases Nat.lt_trichotomy i j with q | q | q
    · exact absurd h3 (g4 i q)
    · omega
    · exact absurd g3 (h4 j q)
theorem IsLo.cg {P Q : Nat → Prop} {n : Nat} {r : Int} (e : ∀ i, i < n → (P i ↔ Q i)) (h : IsLo P n r) : IsLo Q n r := by
  rcases h with ⟨h1, h2⟩ | ⟨i, h1, h2, h3, h4⟩
  · exact .inl ⟨h1, fun i hi hq => h2 i hi ((e i hi).mpr hq)⟩
  · exact .inr ⟨i, h1, h2, (e i h1).mp h3, fun j hj hq => h4 j hj ((e j (by omega)).mpr hq)⟩
theorem IsLo.bd {P : Nat → Prop} {n : Nat} {r : Int} (h : IsLo P n r) : r = -9 ∨ 0 ≤ r ∧ r < n := by
  rcases h with ⟨h1, h2⟩ | ⟨i, h1, h2, h3, h4⟩
  · exact .inl h1
  · exact .inr (by omega)
def IsHi (P : Nat → Prop) (lo hi r : Int) : Prop := (r = -9 ∧ ∀ i : Nat, lo ≤ i → (i : Int) < hi → ¬ P i) ∨ ∃ i : Nat, lo ≤ i ∧ (i : Int) < hi ∧ r = (i : Int) ∧ P i ∧ ∀ j : Nat, i < j → (j : Int) < hi → ¬ P j
theorem IsHi.un {P : Nat → Prop} {lo hi r s : Int} (h : IsHi P lo hi r) (g : IsHi P lo hi s) : r = s := by
  rcases h with ⟨h1, h2⟩ | ⟨i, h1, h2, h3, h4, h5⟩ <;> rcases g with ⟨g1, g2⟩ | ⟨j, g1, g2, g3, g4, g5⟩
  · omega
  · exact absurd g4 (h2 j g1 g2)
  · exact absurd h4 (g2 i h1 h2)
  · rcases Nat.lt_trichotomy i j with q | q | q
    · exact absurd g4 (h5 j q g2)
    · omega
    · exact absurd h4 (g5 i q h2)
theorem IsHi.cg {P Q : Nat → Prop} {lo hi r : Int} (e : ∀ i : Nat, lo ≤ i → (i : Int) < hi → (P i ↔ Q i)) (h : IsHi P lo hi r) : IsHi Q lo hi r := by
  rcases h with ⟨h1, h2⟩ | ⟨i, h1, h2, h3, h4, h5⟩
  · exact .inl ⟨h1, fun i a b hq => h2 i a b ((e i a b).mpr hq)⟩
  · exact .inr ⟨i, h1, h2, h3, (e i h1 h2).mp h4, fun j a b hq => h5 j a b ((e j (by omega) b).mpr hq)⟩
theorem IsHi.bd {P : Nat → Prop} {lo hi r : Int} (h : IsHi P lo hi r) : r = -9 ∨ (lo ≤ r ∧ 0 ≤ r ∧ r < hi) := by
  rcases h with ⟨h1, h2⟩ | ⟨i, h1, h2, h3, h4, h5⟩
  · exact .inl h1
  · exact .inr (by omega)
/-! the letters of the class -/
theorem x1_at {v : Int} {M : hq_M} {k : Option Nat → Prop} (hN : M 168 1 ≤ 40) (hk : k (if 0 ≤ v ∧ v < M 168 1 then some (170 + 5 * v.toNat) else none)) : w_X1_at v M k := by
  unfold w_X1_at
  refine ⟨fun q => ?_, fun q => ⟨fun q2 => ?_, fun q2 => ⟨fun q3 => ⟨⟨by omega, q3⟩, ?_⟩, fun q3 => by omega⟩⟩⟩
  · rwa [if_neg (by omega)] at hk
  · rwa [if_neg (by omega)] at hk
  · rw [if_pos ⟨by omega, by omega⟩] at hk
    intro o3 e3
    rw [e3]
    exact hk
theorem x1_at_in {v : Int} {i : Nat} {M : hq_M} {k : Option Nat → Prop} (hN : M 168 1 ≤ 40) (hv : v = (i : Int)) (hi : v < M 168 1) (hk : k (some (170 + 5 * i))) : w_X1_at v M k := by
  refine x1_at hN ?_
  rw [if_pos ⟨by omega, hi⟩, show v.toNat = i by omega]
  exact hk
theorem x1_next {M : hq_M} {k : Option Nat → Prop} (hN : 0 ≤ M 168 1 ∧ M 168 1 ≤ 40) (hk : k (if M 168 1 < 40 then some (170 + 5 * (M 168 1).toNat) else none)) : w_X1_next M k := by
  unfold w_X1_next
  refine ⟨fun q => by omega, fun _ => ⟨fun q => ⟨⟨by omega, by omega⟩, ?_⟩, fun q => ?_⟩⟩
  · rw [if_pos q] at hk
    intro o5 e5
    rw [e5]
    exact hk
  · rwa [if_neg q] at hk
theorem x1_atRisk {v : Int} {M : hq_M} {k : Int → Prop} (hN : 0 ≤ M 168 1 ∧ M 168 1 ≤ 40) (hk : k (cn (fun i => decide (M (170 + 5 * i) 7 = 0) && decide (v < M (170 + 5 * i) 3)) (M 168 1).toNat : Nat)) : w_X1_atRisk v M k := by
  unfold w_X1_atRisk
  refine ⟨(M 168 1).toNat + 1, ?_⟩
  have key : ∀ (d i : Nat) (z c : Int), z = (i : Int) → i + d = (M 168 1).toNat → c = (cn (fun i => decide (M (170 + 5 * i) 7 = 0) && decide (v < M (170 + 5 * i) 3)) i : Nat) → l_X1_atRisk_4 v k M (d + 1) c z := by
    intro d
    induction d with
    | zero =>
      intro i z c hz hi hc
      rw [l_X1_atRisk_4]
      refine ⟨fun _ => ?_, fun q => by omega⟩
      rw [hc, show i = (M 168 1).toNat by omega]
      exact hk
    | succ d ih =>
      intro i z c hz hi hc
      have hcl := cn_le (fun i => decide (M (170 + 5 * i) 7 = 0) && decide (v < M (170 + 5 * i) 3)) i
      rw [l_X1_atRisk_4]
      refine ⟨fun q => by omega, fun _ => ?_⟩
      refine x1_at_in hN.2 hz (by omega) ⟨fun q => (by cases q), fun o2 e2 => ?_⟩
      cases e2
      have hs : ∀ c' : Int, c' = (cn (fun i => decide (M (170 + 5 * i) 7 = 0) && decide (v < M (170 + 5 * i) 3)) (i + 1) : Nat) → b_X1_atRisk_44 v c' z (fun v2q v3q => l_X1_atRisk_4 v k M (d + 1) v2q v3q) k M := by
        intro c' hc'
        unfold b_X1_atRisk_44
        refine ⟨⟨by omega, by omega⟩, fun x1 e1 => ?_⟩
        exact ih (i + 1) x1 c' (by omega) (by omega) hc'
      refine ⟨fun q => hs c ?_, fun q => ⟨fun q2 => hs c ?_, fun q2 => ⟨⟨by omega, by omega⟩, fun x6 e6 => hs x6 ?_⟩⟩⟩
      · rw [hc, cn]; simp [q]
      · rw [hc, cn]; simp [show ¬ v < M (170 + 5 * i) 3 by omega]
      · rw [e6, hc, cn]; simp [q, show v < M (170 + 5 * i) 3 by omega]
  exact key _ 0 0 0 rfl (by omega) rfl
theorem x1_isBlocked {v : Int} {M : hq_M} {k : Int → Prop} (hN : M 168 1 ≤ 40) (hk : k (if 0 ≤ v ∧ v < M 168 1 ∧ M (170 + 5 * v.toNat) 6 = 1 then 1 else 0)) : w_X1_isBlocked v M k := by
  unfold w_X1_isBlocked
  refine x1_at hN ?_
  by_cases q : 0 ≤ v ∧ v < M 168 1
  · rw [if_pos q]
    refine ⟨fun e => (by cases e), fun o e => ?_⟩
    cases e
    refine ⟨fun q2 => ?_, fun q2 => ?_⟩
    · rwa [if_neg (fun h => q2 h.2.2)] at hk
    · rwa [if_pos ⟨q.1, q.2, q2⟩] at hk
  · rw [if_neg q]
    refine ⟨fun _ => ?_, fun o e => by cases e⟩
    rwa [if_neg (fun h => q ⟨h.1, h.2.1⟩)] at hk
theorem x1_blocked {M : hq_M} {k : Int → Prop} (hN : 0 ≤ M 168 1 ∧ M 168 1 ≤ 40) (hk : k (cn (fun i => decide (M (170 + 5 * i) 6 = 1)) (M 168 1).toNat : Nat)) : w_X1_blocked M k := by
  unfold w_X1_blocked
  refine ⟨(M 168 1).toNat + 1, ?_⟩
  have key : ∀ (d i : Nat) (z c : Int), z = (i : Int) → i + d = (M 168 1).toNat → c = (cn (fun i => decide (M (170 + 5 * i) 6 = 1)) i : Nat) → l_X1_blocked_4 k M (d + 1) c z := by
    intro d
    induction d with
    | zero =>
      intro i z c hz hi hc
      rw [l_X1_blocked_4]
      refine ⟨fun _ => ?_, fun q => by omega⟩
      rw [hc, show i = (M 168 1).toNat by omega]
      exact hk
    | succ d ih =>
      intro i z c hz hi hc
      have hcl := cn_le (fun i => decide (M (170 + 5 * i) 6 = 1)) i
      have hzi : z.toNat = i := by omega
      rw [l_X1_blocked_4]
      refine ⟨fun q => by omega, fun _ => ?_⟩
      refine x1_isBlocked hN.2 ?_
      rw [hzi]
      have hs : ∀ t : Int, t = (if M (170 + 5 * i) 6 = 1 then 1 else 0) → b_X1_blocked_26 z c t (fun v1q v2q => l_X1_blocked_4 k M (d + 1) v1q v2q) k M := by
        intro t ht
        unfold b_X1_blocked_26
        have : t = 0 ∨ t = 1 := by rw [ht]; split <;> omega
        refine ⟨⟨by omega, by omega⟩, fun x2 e2 => ⟨⟨by omega, by omega⟩, fun x3 e3 => ?_⟩⟩
        refine ih (i + 1) x3 x2 (by omega) (by omega) ?_
        rw [e2, hc, ht, cn]
        by_cases q : M (170 + 5 * i) 6 = 1 <;> simp [q]
      by_cases q : M (170 + 5 * i) 6 = 1
      · rw [if_pos ⟨by omega, by omega, q⟩]
        exact ⟨fun h => absurd h (by decide), fun _ => hs 1 (by rw [if_pos q])⟩
      · rw [if_neg (fun h => q h.2.2)]
        exact ⟨fun _ => hs 0 (by rw [if_neg q]), fun h => absurd rfl h⟩
  exact key _ 0 0 0 rfl (by omega) rfl
/-- who stands before whom: the letters i and w -/
def bfr (rq : Nat → Int) (i w : Nat) : Bool := decide (rq i < rq w) || (decide (rq i = rq w) && decide (i < w))
theorem x1_isBefore {v w : Int} {i j : Nat} {M : hq_M} {k : Int → Prop} (hN : M 168 1 ≤ 40) (hv : v = (i : Int)) (hw : w = (j : Int)) (hi : v < M 168 1) (hj : w < M 168 1) (hk : k (if bfr (fun i => M (170 + 5 * i) 3) i j then 1 else 0)) : w_X1_isBefore v w M k := by
  unfold w_X1_isBefore
  refine x1_at_in hN hv hi ⟨fun q => (by cases q), fun o1 e1 => ?_⟩
  cases e1
  refine x1_at_in hN hw hj ⟨fun q => (by cases q), fun o1 e1 => ?_⟩
  cases e1
  unfold bfr at hk
  refine ⟨fun q => ?_, fun q => ⟨fun q2 => ?_, fun q2 => ⟨fun q3 => ?_, fun q3 => ?_⟩⟩⟩
  · simpa [q] using hk
  · simpa [q, q2] using hk
  · rw [if_neg (by simp [show ¬ i < j by omega]; omega)] at hk; exact hk
  · rw [if_pos (by simp [q2, show i < j by omega])] at hk; exact hk
theorem x1_blockedBefore {w : Int} {j : Nat} {M : hq_M} {k : Int → Prop} (hN : 0 ≤ M 168 1 ∧ M 168 1 ≤ 40) (hw : w = (j : Int)) (hj : w < M 168 1) (hk : k (cn (fun i => decide (M (170 + 5 * i) 6 = 1) && bfr (fun i => M (170 + 5 * i) 3) i j) (M 168 1).toNat : Nat)) : w_X1_blockedBefore w M k := by
  unfold w_X1_blockedBefore
  refine ⟨(M 168 1).toNat + 1, ?_⟩
  have key : ∀ (d i : Nat) (z c : Int), z = (i : Int) → i + d = (M 168 1).toNat → c = (cn (fun i => decide (M (170 + 5 * i) 6 = 1) && bfr (fun i => M (170 + 5 * i) 3) i j) i : Nat) → l_X1_blockedBefore_4 w k M (d + 1) c z := by
    intro d
    induction d with
    | zero =>
      intro i z c hz hi hc
      rw [l_X1_blockedBefore_4]
      refine ⟨fun _ => ?_, fun q => by omega⟩
      rw [hc, show i = (M 168 1).toNat by omega]
      exact hk
    | succ d ih =>
      intro i z c hz hi hc
      have hcl := cn_le (fun i => decide (M (170 + 5 * i) 6 = 1) && bfr (fun i => M (170 + 5 * i) 3) i j) i
      have hzi : z.toNat = i := by omega
      rw [l_X1_blockedBefore_4]
      refine ⟨fun q => by omega, fun _ => ?_⟩
      have hs : ∀ t : Int, t = (if (decide (M (170 + 5 * i) 6 = 1) && bfr (fun i => M (170 + 5 * i) 3) i j) = true then 1 else 0) → b_X1_blockedBefore_35 w z c t (fun v1q v2q => l_X1_blockedBefore_4 w k M (d + 1) v1q v2q) k M := by
        intro t ht
        unfold b_X1_blockedBefore_35
        have : t = 0 ∨ t = 1 := by rw [ht]; split <;> omega
        refine ⟨⟨by omega, by omega⟩, fun x2 e2 => ⟨⟨by omega, by omega⟩, fun x3 e3 => ?_⟩⟩
        refine ih (i + 1) x3 x2 (by omega) (by omega) ?_
        rw [e2, hc, ht, cn]
        split <;> simp
      refine x1_isBlocked hN.2 ?_
      rw [hzi]
      by_cases q : M (170 + 5 * i) 6 = 1
      · rw [if_pos ⟨by omega, by omega, q⟩]
        refine ⟨fun h => absurd h (by decide), fun _ => ?_⟩
        refine x1_isBefore hN.2 hz hw (by omega) hj ?_
        by_cases q2 : bfr (fun i => M (170 + 5 * i) 3) i j = true
        · rw [if_pos q2]
          exact ⟨fun h => absurd h (by decide), fun _ => hs 1 (by simp [q, q2])⟩
        · rw [if_neg q2]
          exact ⟨fun _ => hs 0 (by simp [q, q2]), fun h => absurd rfl h⟩
      · rw [if_neg (fun h => q h.2.2)]
        exact ⟨fun _ => hs 0 (by simp [q]), fun h => absurd rfl h⟩
  exact key _ 0 0 0 rfl (by omega) rfl
/-- the rank of the letter j among those that wait -/
def rk (st rq : Nat → Int) (n j : Nat) : Nat := cn (fun i => decide (st i = 1) && bfr rq i j) n
def IsWait (st rq : Nat → Int) (n : Nat) (v : Int) : Int → Prop := IsLo (fun i => st i = 1 ∧ ((rk st rq n i : Nat) : Int) = v) n
theorem x1_blockedAt {v : Int} {M : hq_M} {k : Int → Prop} (hN : 0 ≤ M 168 1 ∧ M 168 1 ≤ 40) (hk : ∀ r, IsWait (fun i => M (170 + 5 * i) 6) (fun i => M (170 + 5 * i) 3) (M 168 1).toNat v r → k r) : w_X1_blockedAt v M k := by
  unfold w_X1_blockedAt
  refine ⟨(M 168 1).toNat + 1, ?_⟩
  have key : ∀ (d i : Nat) (z : Int), z = (i : Int) → i + d = (M 168 1).toNat → (∀ j, j < i → ¬ (M (170 + 5 * j) 6 = 1 ∧ ((rk (fun i => M (170 + 5 * i) 6) (fun i => M (170 + 5 * i) 3) (M 168 1).toNat j : Nat) : Int) = v)) → l_X1_blockedAt_2 v k M (d + 1) z := by
    intro d
    induction d with
    | zero =>
      intro i z hz hi hj
      rw [l_X1_blockedAt_2]
      refine ⟨fun _ => hk _ (.inl ⟨rfl, fun j hj2 => hj j (by omega)⟩), fun q => by omega⟩
    | succ d ih =>
      intro i z hz hi hj
      have hzi : z.toNat = i := by omega
      rw [l_X1_blockedAt_2]
      refine ⟨fun q => by omega, fun _ => ?_⟩
      have hs : ¬ (M (170 + 5 * i) 6 = 1 ∧ ((rk (fun i => M (170 + 5 * i) 6) (fun i => M (170 + 5 * i) 3) (M 168 1).toNat i : Nat) : Int) = v) → b_X1_blockedAt_29 v z (fun v2q => l_X1_blockedAt_2 v k M (d + 1) v2q) k M := by
        intro hn
        unfold b_X1_blockedAt_29
        refine ⟨⟨by omega, by omega⟩, fun x1 e1 => ?_⟩
        refine ih (i + 1) x1 (by omega) (by omega) (fun j hj2 => ?_)
        by_cases q : j = i
        · rw [q]; exact hn
        · exact hj j (by omega)
      refine x1_isBlocked hN.2 ?_
      rw [hzi]
      by_cases q : M (170 + 5 * i) 6 = 1
      · rw [if_pos ⟨by omega, by omega, q⟩]
        refine ⟨fun h => absurd h (by decide), fun _ => ?_⟩
        refine x1_blockedBefore hN hz (by omega) ⟨fun q2 => hs (fun h => q2 h.2), fun q2 => hk _ (.inr ⟨i, by omega, hz, ⟨q, q2⟩, hj⟩)⟩
      · rw [if_neg (fun h => q h.2.2)]
        exact ⟨fun _ => hs (fun h => q h.1), fun h => absurd rfl h⟩
  exact key _ 0 0 rfl (by omega) (fun j hj => absurd hj (by omega))
/-! the same of the reference -/
theorem m_in {v a b : Int} {M : hq_M} {k : Int → Prop} (hk : k (if a ≤ v ∧ v ≤ b then 1 else 0)) : w_X12_in v a b M k := by
  unfold w_X12_in
  refine ⟨fun q => ?_, fun q => ⟨fun q2 => ?_, fun q2 => ?_⟩⟩
  · rwa [if_neg (by omega)] at hk
  · rwa [if_neg (by omega)] at hk
  · rwa [if_pos (by omega)] at hk
theorem m_lesser {a b : Int} {M : hq_M} {k : Int → Prop} (hk : k (min a b)) : w_X12_lesser a b M k := by
  unfold w_X12_lesser
  rw [Int.min_def] at hk
  refine ⟨fun q => ?_, fun q => ?_⟩
  · by_cases e : a = b
    · rwa [if_pos (by omega), e] at hk
    · rwa [if_neg (by omega)] at hk
  · rwa [if_pos (by omega)] at hk
theorem m_greater {a b : Int} {M : hq_M} {k : Int → Prop} (hk : k (max a b)) : w_X12_greater a b M k := by
  unfold w_X12_greater
  rw [Int.max_def] at hk
  refine ⟨fun q => ?_, fun q => ?_⟩
  · rwa [if_pos q] at hk
  · rwa [if_neg q] at hk
theorem m_isLetter {v : Int} {M : hq_M} {k : Int → Prop} (hN : 0 ≤ M 0 25 ∧ M 0 25 ≤ 40) (hk : k (if 0 ≤ v ∧ v < M 0 25 then 1 else 0)) : w_X12_isLetter v M k := by
  unfold w_X12_isLetter
  refine ⟨⟨by omega, by omega⟩, m_in ?_⟩
  by_cases q : 0 ≤ v ∧ v < M 0 25
  · rw [if_pos q] at hk; rwa [if_pos (by omega)]
  · rw [if_neg q] at hk; rwa [if_neg (by omega)]
theorem m_isField {v : Int} {M : hq_M} {k : Int → Prop} (hN : 0 ≤ M 0 0 ∧ M 0 0 ≤ 40) (hk : k (if 0 ≤ v ∧ v < M 0 0 then 1 else 0)) : w_X12_isField v M k := by
  unfold w_X12_isField
  refine ⟨⟨by omega, by omega⟩, m_in ?_⟩
  by_cases q : 0 ≤ v ∧ v < M 0 0
  · rw [if_pos q] at hk; rwa [if_pos (by omega)]
  · rw [if_neg q] at hk; rwa [if_neg (by omega)]
theorem m_isAtRisk {v : Int} {i : Nat} {M : hq_M} {k : Int → Prop} (hv : v = (i : Int)) (hi : i < 40) (hk : k (if M 16 i = 0 ∧ M 0 23 < M 11 i then 1 else 0)) : w_X12_isAtRisk v M k := by
  unfold w_X12_isAtRisk
  rw [show v.toNat = i by omega]
  refine ⟨⟨by omega, by omega⟩, fun q => ?_, fun q => ⟨⟨by omega, by omega⟩, fun q2 => ?_, fun q2 => ?_⟩⟩
  · rwa [if_neg (fun h => q h.1)] at hk
  · rwa [if_neg (by omega)] at hk
  · rwa [if_pos (by omega)] at hk
theorem m_risks {M : hq_M} {k : Int → Prop} (hN : 0 ≤ M 0 25 ∧ M 0 25 ≤ 40) (hk : k (cn (fun i => decide (M 16 i = 0) && decide (M 0 23 < M 11 i)) (M 0 25).toNat : Nat)) : w_X12_risks M k := by
  unfold w_X12_risks
  refine ⟨(M 0 25).toNat + 1, ?_⟩
  have key : ∀ (d i : Nat) (z c : Int), z = (i : Int) → i + d = (M 0 25).toNat → c = (cn (fun i => decide (M 16 i = 0) && decide (M 0 23 < M 11 i)) i : Nat) → l_X12_risks_4 k M (d + 1) c z := by
    intro d
    induction d with
    | zero =>
      intro i z c hz hi hc
      rw [l_X12_risks_4]
      refine ⟨fun _ => ?_, fun q => by omega⟩
      rw [hc, show i = (M 0 25).toNat by omega]
      exact hk
    | succ d ih =>
      intro i z c hz hi hc
      have hcl := cn_le (fun i => decide (M 16 i = 0) && decide (M 0 23 < M 11 i)) i
      rw [l_X12_risks_4]
      refine ⟨fun q => by omega, fun _ => ?_⟩
      have hs : ∀ t : Int, t = (if (decide (M 16 i = 0) && decide (M 0 23 < M 11 i)) = true then 1 else 0) → b_X12_risks_26 z c t (fun v1q v2q => l_X12_risks_4 k M (d + 1) v1q v2q) k M := by
        intro t ht
        unfold b_X12_risks_26
        have : t = 0 ∨ t = 1 := by rw [ht]; split <;> omega
        refine ⟨⟨by omega, by omega⟩, fun x2 e2 => ⟨⟨by omega, by omega⟩, fun x3 e3 => ?_⟩⟩
        refine ih (i + 1) x3 x2 (by omega) (by omega) ?_
        rw [e2, hc, ht, cn]
        split <;> simp
      refine m_isAtRisk hz (by omega) ?_
      by_cases q : M 16 i = 0 ∧ M 0 23 < M 11 i
      · rw [if_pos q]
        exact ⟨fun h => absurd h (by decide), fun _ => hs 1 (by simp [q.1, q.2])⟩
      · rw [if_neg q]
        exact ⟨fun _ => hs 0 (by rw [if_neg (by simpa using q)]), fun h => absurd rfl h⟩
  exact key _ 0 0 0 rfl (by omega) rfl
theorem m_waitingMany {M : hq_M} {k : Int → Prop} (hN : 0 ≤ M 0 25 ∧ M 0 25 ≤ 40) (hk : k (cn (fun i => decide (M 15 i = 1)) (M 0 25).toNat : Nat)) : w_X12_waitingMany M k := by
  unfold w_X12_waitingMany
  refine ⟨(M 0 25).toNat + 1, ?_⟩
  have key : ∀ (d i : Nat) (z c : Int), z = (i : Int) → i + d = (M 0 25).toNat → c = (cn (fun i => decide (M 15 i = 1)) i : Nat) → l_X12_waitingMany_4 k M (d + 1) c z := by
    intro d
    induction d with
    | zero =>
      intro i z c hz hi hc
      rw [l_X12_waitingMany_4]
      refine ⟨fun _ => ?_, fun q => by omega⟩
      rw [hc, show i = (M 0 25).toNat by omega]
      exact hk
    | succ d ih =>
      intro i z c hz hi hc
      have hcl := cn_le (fun i => decide (M 15 i = 1)) i
      rw [l_X12_waitingMany_4, show z.toNat = i by omega]
      refine ⟨fun q => by omega, fun _ => ⟨⟨by omega, by omega⟩, ?_⟩⟩
      have hs : ∀ t : Int, t = (if M 15 i = 1 then 1 else 0) → b_X12_waitingMany_28 z c t (fun v1q v2q => l_X12_waitingMany_4 k M (d + 1) v1q v2q) k M := by
        intro t ht
        unfold b_X12_waitingMany_28
        have : t = 0 ∨ t = 1 := by rw [ht]; split <;> omega
        refine ⟨⟨by omega, by omega⟩, fun x2 e2 => ⟨⟨by omega, by omega⟩, fun x3 e3 => ?_⟩⟩
        refine ih (i + 1) x3 x2 (by omega) (by omega) ?_
        rw [e2, hc, ht, cn]
        by_cases q : M 15 i = 1 <;> simp [q]
      exact ⟨fun q => hs 0 (by rw [if_neg q]), fun q => hs 1 (by rw [if_pos q])⟩
  exact key _ 0 0 0 rfl (by omega) rfl
/-! ranks -/
theorem bfr_tr {rq : Nat → Int} {i j t : Nat} (h : bfr rq i j = true) (g : bfr rq j t = true) : bfr rq i t = true := by
  unfold bfr at *
  simp at *
  omega
theorem bfr_ir {rq : Nat → Int} {i : Nat} : bfr rq i i = false := by
  unfold bfr
  simp
theorem bfr_tot {rq : Nat → Int} {i j : Nat} (h : i ≠ j) : bfr rq i j = true ∨ bfr rq j i = true := by
  unfold bfr
  simp
  omega
theorem rk_lt {st rq : Nat → Int} {n i j : Nat} (hi : i < n) (h1 : st i = 1) (h : bfr rq i j = true) : rk st rq n i < rk st rq n j := by
  unfold rk
  refine cn_lt (i := i) (fun t ht h2 => ?_) hi (by simp [bfr_ir]) (by simp [h1, h])
  simp at h2 ⊢
  exact ⟨h2.1, bfr_tr h2.2 h⟩
theorem rk_inj {st rq : Nat → Int} {n i j : Nat} (hi : i < n) (hj : j < n) (h1 : st i = 1) (h2 : st j = 1) (h : rk st rq n i = rk st rq n j) : i = j := by
  by_cases e : i = j
  · exact e
  · rcases bfr_tot (rq := rq) e with q | q
    · have := rk_lt hi h1 q; omega
    · have := rk_lt hj h2 q; omega
theorem rk_bd {st rq : Nat → Int} {n i : Nat} (hi : i < n) (h1 : st i = 1) : rk st rq n i < cn (fun i => decide (st i = 1)) n := by
  unfold rk
  refine cn_lt (i := i) (fun t ht h2 => ?_) hi (by simp [bfr_ir]) (by simp [h1])
  simp at h2 ⊢
  exact h2.1
theorem m_waiting {v : Int} {M : hq_M} {k : Int → Prop} (hv : 0 ≤ v) (hv2 : v ≤ 2147483647) (hN : 0 ≤ M 0 25 ∧ M 0 25 ≤ 40) (hc0 : 0 ≤ M 6 0 ∧ M 6 0 ≤ 1000000) (hq : ∀ i, i < (M 0 25).toNat → 0 ≤ M 11 i ∧ M 11 i ≤ M 6 0) (hk : ∀ r, IsWait (M 15) (M 11) (M 0 25).toNat v r → k r) : w_X12_waiting v M k := by
  unfold w_X12_waiting
  refine ⟨(M 6 0).toNat + 2, ?_⟩
  have outer : ∀ (D : Nat) (z c : Int), z + (D : Int) = M 6 0 + 1 → 0 ≤ z → 0 ≤ c → c = v - (cn (fun i => decide (M 15 i = 1) && decide (M 11 i < z)) (M 0 25).toNat : Nat) → l_X12_waiting_4 k M (D + 1) c z := by
    intro D
    induction D with
    | zero =>
      intro z c hz hz0 hc hcc
      rw [l_X12_waiting_4]
      refine ⟨⟨by decide, by decide⟩, fun q => hk _ (.inl ⟨rfl, fun i hi h => ?_⟩), fun q => by omega⟩
      have h2 := rk_bd (st := M 15) (rq := M 11) hi h.1
      have h3 : cn (fun i => decide (M 15 i = 1) && decide (M 11 i < z)) (M 0 25).toNat = cn (fun i => decide (M 15 i = 1)) (M 0 25).toNat := cn_cg (fun j hj => by
        have := hq j hj
        simp [show M 11 j < z by omega])
      omega
    | succ D ihD =>
      intro z c hz hz0 hc hcc
      rw [l_X12_waiting_4]
      refine ⟨⟨by decide, by decide⟩, fun q => by omega, fun q => ⟨(M 0 25).toNat + 1, ?_⟩⟩
      have inner : ∀ (d i : Nat) (y c' : Int), y = (i : Int) → i + d = (M 0 25).toNat → 0 ≤ c' → c' = c - (cn (fun i => decide (M 15 i = 1) && decide (M 11 i = z)) i : Nat) → l_X12_waiting_17 z (fun x3 => rg (z + 1) ∧ ∀ x4 : Int, x4 = z + 1 → l_X12_waiting_4 k M (D + 1) x3 x4) k M (d + 1) c' y := by
        intro d
        induction d with
        | zero =>
          intro i y c' hy hi hc0' hc'
          rw [l_X12_waiting_17]
          refine ⟨fun _ => ⟨⟨by omega, by omega⟩, fun x4 e4 => ?_⟩, fun q => by omega⟩
          refine ihD x4 c' (by omega) (by omega) hc0' ?_
          rw [hc', hcc, show i = (M 0 25).toNat by omega]
          have : cn (fun i => decide (M 15 i = 1) && decide (M 11 i < x4)) (M 0 25).toNat = cn (fun i => decide (M 15 i = 1) && decide (M 11 i < z)) (M 0 25).toNat + cn (fun i => decide (M 15 i = 1) && decide (M 11 i = z)) (M 0 25).toNat := by
            rw [← cn_or (fun i _ h => by simp at h; omega)]
            refine cn_cg (fun j _ => ?_)
            rw [Bool.eq_iff_iff]
            simp
            omega
          omega
        | succ d ih =>
          intro i y c' hy hi hc0' hc'
          rw [l_X12_waiting_17, show y.toNat = i by omega]
          have hs : ∀ c2 : Int, 0 ≤ c2 → c2 = c - (cn (fun i => decide (M 15 i = 1) && decide (M 11 i = z)) (i + 1) : Nat) → b_X12_waiting_58 c2 z y (fun v2q v4q => l_X12_waiting_17 z (fun x3 => rg (z + 1) ∧ ∀ x4 : Int, x4 = z + 1 → l_X12_waiting_4 k M (D + 1) x3 x4) k M (d + 1) v2q v4q) k M := by
            intro c2 h0 hc2
            unfold b_X12_waiting_58
            exact ⟨⟨by omega, by omega⟩, fun x1 e1 => ih (i + 1) x1 c2 (by omega) (by omega) h0 hc2⟩
          refine ⟨fun q => by omega, fun _ => ⟨⟨by omega, by omega⟩, fun q => hs c' hc0' ?_, fun q => ⟨⟨by omega, by omega⟩, fun q2 => hs c' hc0' ?_, fun q2 => ⟨fun q3 => ⟨⟨by omega, by omega⟩, fun x6 e6 => hs x6 (by omega) ?_⟩, fun q3 => hk _ (.inr ⟨i, by omega, hy, ⟨q, ?_⟩, fun j hj h => ?_⟩)⟩⟩⟩⟩
          · rw [hc', cn]; simp [q]
          · rw [hc', cn]; simp [q2]
          · rw [e6, hc', cn]; simp [q, q2]; omega
          · have e : rk (M 15) (M 11) (M 0 25).toNat i = cn (fun i => decide (M 15 i = 1) && decide (M 11 i < z)) (M 0 25).toNat + cn (fun i => decide (M 15 i = 1) && decide (M 11 i = z)) i := by
              rw [← cn_below (P := fun i => decide (M 15 i = 1) && decide (M 11 i = z)) (m := i) (n := (M 0 25).toNat) (by omega), ← cn_or (fun j _ h => by simp at h; omega)]
              refine cn_cg (fun j _ => ?_)
              unfold bfr
              rw [Bool.eq_iff_iff, q2]
              simp
              omega
            omega
          · have e : rk (M 15) (M 11) (M 0 25).toNat i = cn (fun i => decide (M 15 i = 1) && decide (M 11 i < z)) (M 0 25).toNat + cn (fun i => decide (M 15 i = 1) && decide (M 11 i = z)) i := by
              rw [← cn_below (P := fun i => decide (M 15 i = 1) && decide (M 11 i = z)) (m := i) (n := (M 0 25).toNat) (by omega), ← cn_or (fun j _ h => by simp at h; omega)]
              refine cn_cg (fun j _ => ?_)
              unfold bfr
              rw [Bool.eq_iff_iff, q2]
              simp
              omega
            have := rk_inj (st := M 15) (rq := M 11) (n := (M 0 25).toNat) (i := i) (j := j) (by omega) (by omega) q h.1 (by omega)
            omega
      exact inner _ 0 0 c rfl (by omega) hc (by simp [cn])
  refine outer _ 0 v (by omega) (Int.le_refl 0) hv ?_
  have : cn (fun i => decide (M 15 i = 1) && decide (M 11 i < 0)) (M 0 25).toNat = cn (fun _ => false) (M 0 25).toNat := cn_cg (fun j hj => by
    have := hq j hj
    simp [show ¬ M 11 j < 0 by omega])
  have h0 : ∀ n, cn (fun _ => false) n = 0 := by
    intro n
    induction n with
    | zero => rfl
    | succ n ih => rw [cn, ih]; rfl
  rw [this, h0]
  simp
