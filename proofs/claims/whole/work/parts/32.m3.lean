/-! ===== the mathematics, part 3: settings, tables ===== -/
def PC (P c : Nat) : Prop := hq_len YC (P + 1) = c ∧ c ≤ 8 ∧ ∀ i, i < c → hq_len YC (P + 2 + 5 * i + 1 + 1) = 6 ∧ hq_len YC (P + 2 + 5 * i + 3 + 1) = 6
theorem PC_9 : PC 9 7 := ⟨by decide +kernel, by decide, by decide +kernel⟩
theorem PC_46 : PC 46 8 := ⟨by decide +kernel, by decide, by decide +kernel⟩
theorem PC_89 : PC 89 7 := ⟨by decide +kernel, by decide, by decide +kernel⟩
theorem PC_126 : PC 126 8 := ⟨by decide +kernel, by decide, by decide +kernel⟩
/-- the pairs at P: n of them, the names a, the values b -/
def Pr (M : hq_M) (P : Nat) (n : Int) (a b : Nat → List Int) : Prop := M P 1 = n ∧ ∀ i : Nat, (i : Int) < n → Rw M (P + 2 + 5 * i + 1) (a i) ∧ Rw M (P + 2 + 5 * i + 3) (b i) ∧ (a i).length ≤ 6 ∧ (b i).length ≤ 6
theorem x3_at {P c : Nat} {v n : Int} {M : hq_M} {k : Option Nat → Prop} (hc : PC P c) (h : M P 1 = n) (hn : n ≤ c) (hk : k (if 0 ≤ v ∧ v < n then some (P + 2 + 5 * v.toNat) else none)) : w_X3_at P v M k := by
  have hl := hc.1
  unfold w_X3_at
  rw [h, hl]
  refine ⟨fun q => ?_, fun q => ⟨fun q2 => ?_, fun q2 => ⟨fun q3 => ⟨⟨by omega, q3⟩, ?_⟩, fun q3 => by omega⟩⟩⟩
  · rwa [if_neg (by omega)] at hk
  · rwa [if_neg (by omega)] at hk
  · rw [if_pos ⟨by omega, by omega⟩] at hk
    intro o3 e3
    rw [e3, show P + 1 + 1 + 5 * v.toNat = P + 2 + 5 * v.toNat by omega]
    exact hk
theorem x3_at_in {P c i : Nat} {v n : Int} {M : hq_M} {k : Option Nat → Prop} (hc : PC P c) (h : M P 1 = n) (hn : n ≤ c) (hv : v = (i : Int)) (hi : v < n) (hk : k (some (P + 2 + 5 * i))) : w_X3_at P v M k := by
  refine x3_at hc h hn ?_
  rw [if_pos ⟨by omega, hi⟩, show v.toNat = i by omega]
  exact hk
theorem x3_lowestNamed {P c q : Nat} {n : Int} {M : hq_M} {a b : Nat → List Int} {xs : List Int} {k : Int → Prop} (hc : PC P c) (h : Pr M P n a b) (hn : 0 ≤ n ∧ n ≤ c) (hx : Rw M (q + 1) xs) (hxl : xs.length ≤ 6) (hq : hq_len YC (q + 1 + 1) = 6) (hk : ∀ r, IsLo (fun i => a i = xs) n.toNat r → k r) : w_X3_lowestNamed P q M k := by
  have h1 := h.1
  have hc8 := hc.2.1
  unfold w_X3_lowestNamed
  refine ⟨n.toNat + 1, ?_⟩
  have key : ∀ (d i : Nat) (z : Int), z = (i : Int) → i + d = n.toNat → (∀ j, j < i → ¬ a j = xs) → l_X3_lowestNamed_2 P q k M (d + 1) z := by
    intro d
    induction d with
    | zero =>
      intro i z hz hi hj
      rw [l_X3_lowestNamed_2]
      exact ⟨fun _ => hk _ (.inl ⟨rfl, fun j hj2 => hj j (by omega)⟩), fun q => by omega⟩
    | succ d ih =>
      intro i z hz hi hj
      obtain ⟨p1, p2, p3, p4⟩ := h.2 i (by omega)
      obtain ⟨c1, c2⟩ := hc.2.2 i (by omega)
      rw [l_X3_lowestNamed_2]
      refine ⟨fun q => by omega, fun _ => x3_at_in hc h1 hn.2 hz (by omega) ⟨fun e => (by cases e), fun o e => ?_⟩⟩
      cases e
      refine x6_same p1 hx (by omega) (by omega) ⟨fun e => ?_, fun e => ?_⟩
      · unfold b_X3_lowestNamed_36
        refine ⟨⟨by omega, by omega⟩, fun x1 e1 => ih (i + 1) x1 (by omega) (by omega) (fun j hj2 => ?_)⟩
        by_cases q2 : j = i
        · rw [q2]; intro e2; rw [if_pos e2] at e; exact absurd e (by decide)
        · exact hj j (by omega)
      · have e2 : a i = xs := by
          by_cases e2 : a i = xs
          · exact e2
          · rw [if_neg e2] at e; exact absurd rfl e
        exact hk _ (.inr ⟨i, by omega, hz, e2, hj⟩)
  exact key _ 0 0 rfl (by omega) (fun j hj => absurd hj (by omega))
theorem x3_lowestLike {P c q : Nat} {n : Int} {M : hq_M} {a b : Nat → List Int} {xs ys : List Int} {k : Int → Prop} (hc : PC P c) (h : Pr M P n a b) (hn : 0 ≤ n ∧ n ≤ c) (hx : Rw M (q + 1) xs) (hxl : xs.length ≤ 6) (hq : hq_len YC (q + 1 + 1) = 6) (hy : Rw M (q + 3) ys) (hyl : ys.length ≤ 6) (hq2 : hq_len YC (q + 3 + 1) = 6) (hk : ∀ r, IsLo (fun i => a i = xs ∧ b i = ys) n.toNat r → k r) : w_X3_lowestLike P q M k := by
  have h1 := h.1
  have hc8 := hc.2.1
  unfold w_X3_lowestLike
  refine ⟨n.toNat + 1, ?_⟩
  have key : ∀ (d i : Nat) (z : Int), z = (i : Int) → i + d = n.toNat → (∀ j, j < i → ¬ (a j = xs ∧ b j = ys)) → l_X3_lowestLike_2 P q k M (d + 1) z := by
    intro d
    induction d with
    | zero =>
      intro i z hz hi hj
      rw [l_X3_lowestLike_2]
      exact ⟨fun _ => hk _ (.inl ⟨rfl, fun j hj2 => hj j (by omega)⟩), fun q => by omega⟩
    | succ d ih =>
      intro i z hz hi hj
      obtain ⟨p1, p2, p3, p4⟩ := h.2 i (by omega)
      obtain ⟨c1, c2⟩ := hc.2.2 i (by omega)
      have hs : ¬ (a i = xs ∧ b i = ys) → b_X3_lowestLike_50 P q z (fun v2q => l_X3_lowestLike_2 P q k M (d + 1) v2q) k M := by
        intro hn2
        unfold b_X3_lowestLike_50
        refine ⟨⟨by omega, by omega⟩, fun x1 e1 => ih (i + 1) x1 (by omega) (by omega) (fun j hj2 => ?_)⟩
        by_cases q2 : j = i
        · rw [q2]; exact hn2
        · exact hj j (by omega)
      rw [l_X3_lowestLike_2]
      refine ⟨fun q => by omega, fun _ => x3_at_in hc h1 hn.2 hz (by omega) ⟨fun e => (by cases e), fun o e => ?_⟩⟩
      cases e
      refine x6_same p1 hx (by omega) (by omega) ⟨fun e => hs (fun e2 => ?_), fun e => ?_⟩
      · rw [if_pos e2.1] at e; exact absurd e (by decide)
      · have e3 : a i = xs := by
          by_cases e3 : a i = xs
          · exact e3
          · rw [if_neg e3] at e; exact absurd rfl e
        refine x6_same p2 hy (by omega) (by omega) ⟨fun e => hs (fun e2 => ?_), fun e => ?_⟩
        · rw [if_pos e2.2] at e; exact absurd e (by decide)
        · have e4 : b i = ys := by
            by_cases e4 : b i = ys
            · exact e4
            · rw [if_neg e4] at e; exact absurd rfl e
          exact hk _ (.inr ⟨i, by omega, hz, ⟨e3, e4⟩, hj⟩)
  exact key _ 0 0 rfl (by omega) (fun j hj => absurd hj (by omega))
/-! the same of the reference -/
def Lo6 (M : hq_M) : Prop := ∀ f, f < 32 → (0 ≤ M 1 f ∧ M 1 f ≤ 6) ∧ (0 ≤ M 2 f ∧ M 2 f ≤ 6)
theorem m_areOfOneName {v w : Int} {f g : Nat} {M : hq_M} {k : Int → Prop} (hv : v = (f : Int)) (hw : w = (g : Int)) (hf : f < 32) (hg : g < 32) (hL : Lo6 M) (hk : k (if nm M f = nm M g then 1 else 0)) : w_X12_areOfOneName v w M k := by
  obtain ⟨⟨f1, f2⟩, -⟩ := hL f hf
  obtain ⟨⟨g1, g2⟩, -⟩ := hL g hg
  have hvn : v.toNat = f := by omega
  have hwn : w.toNat = g := by omega
  have lf : (nm M f).length = (M 1 f).toNat := sg_len _ _ _ _
  have lg : (nm M g).length = (M 1 g).toNat := sg_len _ _ _ _
  unfold w_X12_areOfOneName
  rw [hvn, hwn]
  refine ⟨⟨by omega, by omega⟩, ⟨by omega, by omega⟩, fun q => ?_, fun q => ?_⟩
  · rw [if_neg (fun e => q (by have := congrArg List.length e; omega))] at hk
    unfold b_X12_areOfOneName_20
    refine ⟨1, ?_⟩
    rw [l_X12_areOfOneName_24]
    exact ⟨by omega, fun _ => hk, fun _ => ⟨fun _ => hk, fun h => absurd rfl h⟩⟩
  · unfold b_X12_areOfOneName_20
    refine ⟨(M 1 f).toNat + 1, ?_⟩
    have key : ∀ (d i : Nat) (z c : Int), z = (i : Int) → i + d = (M 1 f).toNat → (c = 1 ∧ (∀ j, j < i → gd (nm M f) j = gd (nm M g) j)) ∨ (c = 0 ∧ ¬ nm M f = nm M g) → l_X12_areOfOneName_24 v w k M (d + 1) c z := by
      intro d
      induction d with
      | zero =>
        intro i z c hz hi hc
        rw [l_X12_areOfOneName_24, hvn]
        refine ⟨by omega, fun _ => ?_, fun q => by omega⟩
        rcases hc with ⟨rfl, hj⟩ | ⟨rfl, hj⟩
        · rwa [if_pos (ls_ext (by omega) (fun j hj2 => hj j (by omega)))] at hk
        · rwa [if_neg hj] at hk
      | succ d ih =>
        intro i z c hz hi hc
        rw [l_X12_areOfOneName_24, hvn, show (6 * v + z).toNat = 6 * f + i by omega, show (6 * w + z).toNat = 6 * g + i by omega]
        have e1 : M 3 (6 * f + i) = gd (nm M f) i := (sg_gd (by omega)).symm
        have e2 : M 3 (6 * g + i) = gd (nm M g) i := (sg_gd (by omega)).symm
        rw [e1, e2]
        refine ⟨by omega, fun q => by omega, fun _ => ⟨fun q2 => ?_, fun q2 => ⟨⟨by omega, by omega⟩, ⟨by omega, by omega⟩, ⟨by omega, by omega⟩, ⟨by omega, by omega⟩, ⟨by omega, by omega⟩, ⟨by omega, by omega⟩, fun q3 => ?_, fun q3 => ?_⟩⟩⟩
        · rcases hc with ⟨rfl, hj⟩ | ⟨rfl, hj⟩
          · exact absurd q2 (by decide)
          · rwa [if_neg hj] at hk
        · unfold b_X12_areOfOneName_71
          exact ⟨⟨by omega, by omega⟩, fun x1 e3 => ih (i + 1) x1 0 (by omega) (by omega) (.inr ⟨rfl, fun e => q3 (by rw [e])⟩)⟩
        · unfold b_X12_areOfOneName_71
          refine ⟨⟨by omega, by omega⟩, fun x1 e3 => ih (i + 1) x1 1 (by omega) (by omega) ?_⟩
          rcases hc with ⟨rfl, hj⟩ | ⟨rfl, hj⟩
          · refine .inl ⟨rfl, fun j hj2 => ?_⟩
            by_cases q4 : j = i
            · rw [q4]; exact q3
            · exact hj j (by omega)
          · exact absurd rfl q2
    exact key _ 0 0 1 rfl (by omega) (.inl ⟨rfl, fun j hj => absurd hj (by omega)⟩)
theorem m_areAlike {v w : Int} {f g : Nat} {M : hq_M} {k : Int → Prop} (hv : v = (f : Int)) (hw : w = (g : Int)) (hf : f < 32) (hg : g < 32) (hL : Lo6 M) (hk : k (if nm M f = nm M g ∧ vl M f = vl M g then 1 else 0)) : w_X12_areAlike v w M k := by
  obtain ⟨-, f1, f2⟩ := hL f hf
  obtain ⟨-, g1, g2⟩ := hL g hg
  have hvn : v.toNat = f := by omega
  have hwn : w.toNat = g := by omega
  have lf : (vl M f).length = (M 2 f).toNat := sg_len _ _ _ _
  have lg : (vl M g).length = (M 2 g).toNat := sg_len _ _ _ _
  have zero : ¬ (nm M f = nm M g ∧ vl M f = vl M g) → b_X12_areAlike_29 v w 0 k M := by
    intro hn
    rw [if_neg hn] at hk
    unfold b_X12_areAlike_29
    refine ⟨1, ?_⟩
    rw [l_X12_areAlike_33]
    exact ⟨by omega, fun _ => hk, fun _ => ⟨fun _ => hk, fun h => absurd rfl h⟩⟩
  unfold w_X12_areAlike
  refine m_areOfOneName hv hw hf hg hL ⟨fun e => ?_, fun e => ?_⟩
  · exact zero (fun h => by rw [if_pos h.1] at e; exact absurd e (by decide))
  · have en : nm M f = nm M g := by
      by_cases en : nm M f = nm M g
      · exact en
      · rw [if_neg en] at e; exact absurd rfl e
    rw [hvn, hwn]
    refine ⟨⟨by omega, by omega⟩, ⟨by omega, by omega⟩, fun q => zero (fun h => q (by have := congrArg List.length h.2; omega)), fun q => ?_⟩
    unfold b_X12_areAlike_29
    refine ⟨(M 2 f).toNat + 1, ?_⟩
    have key : ∀ (d i : Nat) (z c : Int), z = (i : Int) → i + d = (M 2 f).toNat → (c = 1 ∧ (∀ j, j < i → gd (vl M f) j = gd (vl M g) j)) ∨ (c = 0 ∧ ¬ vl M f = vl M g) → l_X12_areAlike_33 v w k M (d + 1) c z := by
      intro d
      induction d with
      | zero =>
        intro i z c hz hi hc
        rw [l_X12_areAlike_33, hvn]
        refine ⟨by omega, fun _ => ?_, fun q => by omega⟩
        rcases hc with ⟨rfl, hj⟩ | ⟨rfl, hj⟩
        · rwa [if_pos ⟨en, ls_ext (by omega) (fun j hj2 => hj j (by omega))⟩] at hk
        · rwa [if_neg (fun h => hj h.2)] at hk
      | succ d ih =>
        intro i z c hz hi hc
        rw [l_X12_areAlike_33, hvn, show (6 * v + z).toNat = 6 * f + i by omega, show (6 * w + z).toNat = 6 * g + i by omega]
        have e1 : M 4 (6 * f + i) = gd (vl M f) i := (sg_gd (by omega)).symm
        have e2 : M 4 (6 * g + i) = gd (vl M g) i := (sg_gd (by omega)).symm
        rw [e1, e2]
        refine ⟨by omega, fun q => by omega, fun _ => ⟨fun q2 => ?_, fun q2 => ⟨⟨by omega, by omega⟩, ⟨by omega, by omega⟩, ⟨by omega, by omega⟩, ⟨by omega, by omega⟩, ⟨by omega, by omega⟩, ⟨by omega, by omega⟩, fun q3 => ?_, fun q3 => ?_⟩⟩⟩
        · rcases hc with ⟨rfl, hj⟩ | ⟨rfl, hj⟩
          · exact absurd q2 (by decide)
          · rwa [if_neg (fun h => hj h.2)] at hk
        · unfold b_X12_areAlike_80
          exact ⟨⟨by omega, by omega⟩, fun x1 e3 => ih (i + 1) x1 0 (by omega) (by omega) (.inr ⟨rfl, fun e => q3 (by rw [e])⟩)⟩
        · unfold b_X12_areAlike_80
          refine ⟨⟨by omega, by omega⟩, fun x1 e3 => ih (i + 1) x1 1 (by omega) (by omega) ?_⟩
          rcases hc with ⟨rfl, hj⟩ | ⟨rfl, hj⟩
          · refine .inl ⟨rfl, fun j hj2 => ?_⟩
            by_cases q4 : j = i
            · rw [q4]; exact q3
            · exact hj j (by omega)
          · exact absurd rfl q2
    exact key _ 0 0 1 rfl (by omega) (.inl ⟨rfl, fun j hj => absurd hj (by omega)⟩)
theorem m_stillOf {v x : Int} {f : Nat} {M : hq_M} {k : Int → Prop} (hv : v = (f : Int)) (hf : f < 24) (hL : Lo6 M) (hn : 0 ≤ M 0 1 ∧ M 0 1 ≤ 8) (hk : ∀ r, IsLo (fun i => nm M (8 + i) = nm M f ∧ (x = 0 ∨ vl M (8 + i) = vl M f)) (M 0 1).toNat r → k r) : w_X12_stillOf v x M k := by
  unfold w_X12_stillOf
  refine ⟨(M 0 1).toNat + 1, ?_⟩
  have key : ∀ (d i : Nat) (z : Int), z = (i : Int) → i + d = (M 0 1).toNat → (∀ j, j < i → ¬ (nm M (8 + j) = nm M f ∧ (x = 0 ∨ vl M (8 + j) = vl M f))) → l_X12_stillOf_2 v x k M (d + 1) z := by
    intro d
    induction d with
    | zero =>
      intro i z hz hi hj
      rw [l_X12_stillOf_2]
      exact ⟨fun _ => hk _ (.inl ⟨rfl, fun j hj2 => hj j (by omega)⟩), fun q => by omega⟩
    | succ d ih =>
      intro i z hz hi hj
      have hs : ¬ (nm M (8 + i) = nm M f ∧ (x = 0 ∨ vl M (8 + i) = vl M f)) → b_X12_stillOf_43 v x z (fun v3q => l_X12_stillOf_2 v x k M (d + 1) v3q) k M := by
        intro hn2
        unfold b_X12_stillOf_43
        refine ⟨⟨by omega, by omega⟩, fun x1 e1 => ih (i + 1) x1 (by omega) (by omega) (fun j hj2 => ?_)⟩
        by_cases q2 : j = i
        · rw [q2]; exact hn2
        · exact hj j (by omega)
      rw [l_X12_stillOf_2]
      refine ⟨fun q => by omega, fun _ => ⟨fun q => ⟨⟨by omega, by omega⟩, m_areOfOneName (f := 8 + i) (by omega) hv (by omega) (by omega) hL ⟨fun e => hs (fun h => ?_), fun e => ?_⟩⟩, fun q => ⟨⟨by omega, by omega⟩, m_areAlike (f := 8 + i) (by omega) hv (by omega) (by omega) hL ⟨fun e => hs (fun h => ?_), fun e => ?_⟩⟩⟩⟩
      · rw [if_pos h.1] at e; exact absurd e (by decide)
      · have e3 : nm M (8 + i) = nm M f := by
          by_cases e3 : nm M (8 + i) = nm M f
          · exact e3
          · rw [if_neg e3] at e; exact absurd rfl e
        exact hk _ (.inr ⟨i, by omega, hz, ⟨e3, .inl q⟩, hj⟩)
      · rw [if_pos ⟨h.1, h.2.resolve_left q⟩] at e; exact absurd e (by decide)
      · have e3 : nm M (8 + i) = nm M f ∧ vl M (8 + i) = vl M f := by
          by_cases e3 : nm M (8 + i) = nm M f ∧ vl M (8 + i) = vl M f
          · exact e3
          · rw [if_neg e3] at e; exact absurd rfl e
        exact hk _ (.inr ⟨i, by omega, hz, ⟨e3.1, .inr e3.2⟩, hj⟩)
  exact key _ 0 0 rfl (by omega) (fun j hj => absurd hj (by omega))
/-! tables -/
def sm (f : Nat → Int) : Nat → Nat → Int
  | _, 0 => 0
  | lo, n + 1 => f lo + sm f (lo + 1) n
theorem sm_snoc (f : Nat → Int) (lo n : Nat) : sm f lo (n + 1) = sm f lo n + f (lo + n) := by
  induction n generalizing lo with
  | zero => simp [sm]
  | succ n ih =>
    rw [sm, ih (lo + 1), sm, show lo + 1 + n = lo + (n + 1) by omega]
    omega
theorem sm_cg {f g : Nat → Int} {lo n : Nat} (h : ∀ i, lo ≤ i → i < lo + n → f i = g i) : sm f lo n = sm g lo n := by
  induction n generalizing lo with
  | zero => rfl
  | succ n ih => rw [sm, sm, h lo (by omega) (by omega), ih (fun i h1 h2 => h i (by omega) (by omega))]
theorem sm_bd {f : Nat → Int} {lo n : Nat} (h : ∀ i, lo ≤ i → i < lo + n → 4 ≤ f i) : 4 * (n : Int) ≤ sm f lo n := by
  induction n generalizing lo with
  | zero => simp [sm]
  | succ n ih =>
    rw [sm]
    have := h lo (by omega) (by omega)
    have := ih (lo := lo + 1) (fun i h1 h2 => h i (by omega) (by omega))
    omega
/-- e entries go until the sum is at most lim -/
def IsEv (f : Nat → Int) (lo n : Nat) (lim : Int) (e : Nat) : Prop := e ≤ n ∧ sm f (lo + e) (n - e) ≤ lim ∧ ∀ d, d < e → lim < sm f (lo + d) (n - d)
theorem IsEv.un {f : Nat → Int} {lo n e e' : Nat} {lim : Int} (h : IsEv f lo n lim e) (g : IsEv f lo n lim e') : e = e' := by
  rcases Nat.lt_trichotomy e e' with q | q | q
  · have := g.2.2 e q; have := h.2.1; omega
  · exact q
  · have := h.2.2 e' q; have := g.2.1; omega
/-- t entries can go -/
def IsFr (P : Nat → Prop) (lo hi t : Nat) : Prop := (t = 0 ∨ lo + t ≤ hi) ∧ (∀ d, d < t → P (lo + d)) ∧ (hi ≤ lo + t ∨ ¬ P (lo + t))
theorem IsFr.un {P : Nat → Prop} {lo hi t t' : Nat} (h : IsFr P lo hi t) (g : IsFr P lo hi t') : t = t' := by
  obtain ⟨h1, h2, h3⟩ := h
  obtain ⟨g1, g2, g3⟩ := g
  rcases Nat.lt_trichotomy t t' with q | q | q
  · rcases h3 with h3 | h3
    · omega
    · exact absurd (g2 t q) h3
  · exact q
  · rcases g3 with g3 | g3
    · omega
    · exact absurd (h2 t' q) g3
theorem IsFr.cg {P Q : Nat → Prop} {lo hi t : Nat} (e : ∀ i, lo ≤ i → i < hi → (P i ↔ Q i)) (h : IsFr P lo hi t) : IsFr Q lo hi t := by
  obtain ⟨h1, h2, h3⟩ := h
  refine ⟨h1, fun d hd => (e _ (by omega) (by omega)).mp (h2 d hd), ?_⟩
  by_cases q : hi ≤ lo + t
  · exact .inl q
  · exact .inr (fun hq => (h3.resolve_left q) ((e _ (by omega) (by omega)).mpr hq))
/-- the table at A of the class: places lo .. lo + n -/
def TC (M : hq_M) (A lo n : Nat) : Prop := M A 4 = (lo : Int) ∧ M A 3 = ((lo + n : Nat) : Int) ∧ lo + n ≤ 1000000 ∧ hq_len YC (A + 1) = 64 ∧ hq_len YC (A + 2) = 64 ∧ hq_len YC (A + 3) = 64
theorem x9_fieldAt {A i : Nat} {v : Int} {M : hq_M} {k : Int → Prop} (hl : hq_len YC (A + 1) = 64) (hv : v = (i : Int)) (hk : k (M (A + 1) (i % 64))) : w_X9_fieldAt A v M k := by
  unfold w_X9_fieldAt
  rw [hl, show (v % 64).toNat = i % 64 by omega]
  exact ⟨⟨by omega, by omega⟩, hk⟩
theorem x9_sizeAt {A i : Nat} {v : Int} {M : hq_M} {k : Int → Prop} (hl : hq_len YC (A + 2) = 64) (hv : v = (i : Int)) (hk : k (M (A + 2) (i % 64))) : w_X9_sizeAt A v M k := by
  unfold w_X9_sizeAt
  rw [hl, show (v % 64).toNat = i % 64 by omega]
  exact ⟨⟨by omega, by omega⟩, hk⟩
theorem x9_holdersAt {A i : Nat} {v : Int} {M : hq_M} {k : Int → Prop} (hl : hq_len YC (A + 3) = 64) (hv : v = (i : Int)) (hk : k (M (A + 3) (i % 64))) : w_X9_holdersAt A v M k := by
  unfold w_X9_holdersAt
  rw [hl, show (v % 64).toNat = i % 64 by omega]
  exact ⟨⟨by omega, by omega⟩, hk⟩
theorem x9_has {A lo n : Nat} {v : Int} {M : hq_M} {k : Int → Prop} (h : TC M A lo n) (hk : k (if (lo : Int) ≤ v ∧ v < ((lo + n : Nat) : Int) then 1 else 0)) : w_X9_has A v M k := by
  obtain ⟨h1, h2, h3, h4, h5, h6⟩ := h
  unfold w_X9_has
  rw [h1, h2]
  refine ⟨fun q => ?_, fun q => ⟨fun q2 => ?_, fun q2 => ?_⟩⟩
  · rwa [if_neg (by omega)] at hk
  · rwa [if_neg (by omega)] at hk
  · rwa [if_pos (by omega)] at hk
theorem x9_tooMany {A lo n : Nat} {lim : Int} {M : hq_M} {k : Int → Prop} (h : TC M A lo n) (hs : M A 5 = sm (fun i => M (A + 2) (i % 64)) lo n) (hb : ∀ i, lo ≤ i → i < lo + n → 0 ≤ M (A + 2) (i % 64)) (hs2 : M A 5 ≤ 1000) (hl0 : 0 ≤ lim) (hk : ∀ e : Nat, IsEv (fun i => M (A + 2) (i % 64)) lo n lim e → k (e : Int)) : w_X9_tooMany A lim M k := by
  obtain ⟨h1, h2, h3, h4, h5, h6⟩ := h
  unfold w_X9_tooMany
  intro x2 e2 x4 e4
  refine ⟨n + 1, ?_⟩
  have nn : ∀ (n lo : Nat), (∀ i, lo ≤ i → i < lo + n → 0 ≤ M (A + 2) (i % 64)) → 0 ≤ sm (fun i => M (A + 2) (i % 64)) lo n := by
    intro n
    induction n with
    | zero => intro lo _; exact Int.le_refl 0
    | succ n ih =>
      intro lo h
      rw [sm]
      have := h lo (by omega) (by omega)
      have := ih (lo + 1) (fun i a b => h i (by omega) (by omega))
      omega
  have key : ∀ (d e : Nat) (y c z : Int), e + d = n → y = sm (fun i => M (A + 2) (i % 64)) (lo + e) d → y ≤ 1000 → c = (e : Int) → z = ((lo + e : Nat) : Int) → (∀ d', d' < e → lim < sm (fun i => M (A + 2) (i % 64)) (lo + d') (n - d')) → l_X9_tooMany_13 A lim k M (d + 1) y c z := by
    intro d
    induction d with
    | zero =>
      intro e y c z he hy hy2 hc hz hlt
      rw [l_X9_tooMany_13]
      refine ⟨fun _ => ?_, fun q => by omega⟩
      rw [hc]
      exact hk e ⟨by omega, by rw [show n - e = 0 by omega]; exact hl0, hlt⟩
    | succ d ih =>
      intro e y c z he hy hy2 hc hz hlt
      have hb2 := hb (lo + e) (by omega) (by omega)
      rw [l_X9_tooMany_13, h5, show (z % 64).toNat = (lo + e) % 64 by omega]
      refine ⟨fun q => by omega, fun _ => ⟨fun q => ?_, fun q => ⟨⟨by omega, by omega⟩, ?_⟩⟩⟩
      · rw [hc]
        exact hk e ⟨by omega, by rw [show n - e = d + 1 by omega, ← hy]; exact q, hlt⟩
      · rw [sm] at hy
        have hnn := nn d (lo + e + 1) (fun i a b => hb i (by omega) (by omega))
        have hyy : y - M (A + 2) ((lo + e) % 64) = sm (fun i => M (A + 2) (i % 64)) (lo + (e + 1)) d := by
          rw [hy, ← Nat.add_assoc]
          omega
        rw [← Nat.add_assoc] at hyy
        refine ⟨⟨by omega, by omega⟩, fun x5 e5 => ⟨⟨by omega, by omega⟩, fun x6 e6 => ⟨⟨by omega, by omega⟩, fun x8 e8 => ?_⟩⟩⟩
        refine ih (e + 1) x5 x6 x8 (by omega) (by rw [e5, hyy, Nat.add_assoc]) (by omega) (by omega) (by omega) (fun d' hd' => ?_)
        by_cases q2 : d' = e
        · subst q2
          rw [show n - d' = d + 1 by omega, sm, ← hy]
          omega
        · exact hlt d' (by omega)
  exact key n 0 x2 0 x4 (by omega) (by rw [e2, hs]; rfl) (by omega) rfl (by rw [e4, h1]; rfl) (fun d hd => absurd hd (by omega))
theorem x9_evictable {A lo n : Nat} {kn : Int} {M : hq_M} {k : Int → Prop} (h : TC M A lo n) (hk0 : 0 ≤ kn) (hk : ∀ t : Nat, IsFr (fun i => M (A + 3) (i % 64) = 0) lo (min (lo + n) kn.toNat) t → k (t : Int)) : w_X9_evictable A kn M k := by
  obtain ⟨h1, h2, h3, h4, h5, h6⟩ := h
  unfold w_X9_evictable
  intro x2 e2 x4 e4
  obtain ⟨hi, hhi, hle⟩ : ∃ hi : Nat, min (lo + n) kn.toNat = hi ∧ x2 = (hi : Int) := ⟨_, rfl, by rw [e2, h2, Int.min_def, Nat.min_def]; split <;> split <;> omega⟩
  rw [hhi] at hk
  have hhb : hi ≤ lo + n := by rw [← hhi]; exact Nat.min_le_left _ _
  refine ⟨hi - lo + 1, ?_⟩
  have key : ∀ (d t : Nat) (c z : Int), (t = 0 ∨ lo + t ≤ hi) → t + d = hi - lo → c = (t : Int) → z = ((lo + t : Nat) : Int) → (∀ d', d' < t → M (A + 3) ((lo + d') % 64) = 0) → l_X9_evictable_17 A x2 k M (d + 1) c z := by
    intro d
    induction d with
    | zero =>
      intro t c z ht he hc hz hlt
      rw [l_X9_evictable_17]
      refine ⟨fun _ => ?_, fun q => by omega⟩
      rw [hc]
      exact hk t ⟨ht, hlt, .inl (by omega)⟩
    | succ d ih =>
      intro t c z ht he hc hz hlt
      rw [l_X9_evictable_17, h6, show (z % 64).toNat = (lo + t) % 64 by omega]
      refine ⟨fun q => by omega, fun _ => ⟨⟨by omega, by omega⟩, fun q => ?_, fun q => ⟨⟨by omega, by omega⟩, fun x3 e3 => ⟨⟨by omega, by omega⟩, fun x5 e5 => ?_⟩⟩⟩⟩
      · rw [hc]
        exact hk t ⟨ht, hlt, .inr q⟩
      · refine ih (t + 1) x3 x5 (.inr (by omega)) (by omega) (by omega) (by omega) (fun d' hd' => ?_)
        by_cases q2 : d' = t
        · rw [q2]; exact q
        · exact hlt d' (by omega)
  exact key _ 0 0 x4 (.inl rfl) (by omega) rfl (by rw [e4, h1]; rfl) (fun d hd => absurd hd (by omega))
theorem x9_highestLike {A lo n : Nat} {f top : Int} {M : hq_M} {k : Int → Prop} (h : TC M A lo n) (ht : 0 ≤ top ∧ top ≤ 2147483647) (hk : ∀ r, IsHi (fun i => M (A + 1) (i % 64) = f) lo (min top ((lo + n : Nat) : Int)) r → k r) : w_X9_highestLike A f top M k := by
  obtain ⟨h1, h2, h3, h4, h5, h6⟩ := h
  unfold w_X9_highestLike
  rw [h2]
  obtain ⟨hi, hhi, hb, hb0⟩ : ∃ hi : Int, min top ((lo + n : Nat) : Int) = hi ∧ hi ≤ ((lo + n : Nat) : Int) ∧ 0 ≤ hi := ⟨_, rfl, by rw [Int.min_def]; split <;> omega, by rw [Int.min_def]; split <;> omega⟩
  rw [hhi] at hk ⊢
  refine ⟨⟨by omega, by omega⟩, fun x3 e3 => ⟨(x3 - lo + 1).toNat + 1, ?_⟩⟩
  have key : ∀ (d : Nat) (z : Int), (z - lo + 1).toNat = d → z < hi → -1 ≤ z → (∀ j : Nat, z < (j : Int) → (j : Int) < hi → ¬ M (A + 1) (j % 64) = f) → l_X9_highestLike_11 A f k M (d + 1) z := by
    intro d
    induction d with
    | zero =>
      intro z hd hz hz2 hj
      rw [l_X9_highestLike_11, h1]
      exact ⟨fun _ => hk _ (.inl ⟨rfl, fun i a b => hj i (by omega) b⟩), fun q => by omega⟩
    | succ d ih =>
      intro z hd hz hz2 hj
      rw [l_X9_highestLike_11, h1]
      refine ⟨fun q => by omega, fun q => ?_⟩
      refine x9_fieldAt (i := z.toNat) h4 (by omega) ⟨fun q2 => ⟨⟨by omega, by omega⟩, fun x e => ih x (by omega) (by omega) (by omega) (fun j a b => ?_)⟩, fun q2 => hk _ (.inr ⟨z.toNat, by omega, by omega, by omega, q2, fun j a b => hj j (by omega) b⟩)⟩
      by_cases q3 : j = z.toNat
      · rw [q3]; exact q2
      · exact hj j (by omega) b
  exact key _ x3 rfl (by omega) (by omega) (fun j a b => by omega)
theorem x9_highestNamed {A lo n P c q : Nat} {nP top : Int} {M : hq_M} {a b : Nat → List Int} {xs : List Int} {k : Int → Prop} (h : TC M A lo n) (ht : 0 ≤ top ∧ top ≤ 2147483647) (hc : PC P c) (hP : Pr M P nP a b) (hn : 0 ≤ nP ∧ nP ≤ c) (hx : Rw M q xs) (hxl : xs.length ≤ 6) (hq : hq_len YC (q + 1) = 6) (hf : ∀ i, lo ≤ i → i < lo + n → 0 ≤ M (A + 1) (i % 64) ∧ M (A + 1) (i % 64) < nP) (hk : ∀ r, IsHi (fun i => a (M (A + 1) (i % 64)).toNat = xs) lo (min top ((lo + n : Nat) : Int)) r → k r) : w_X9_highestNamed A q P top M k := by
  obtain ⟨h1, h2, h3, h4, h5, h6⟩ := h
  unfold w_X9_highestNamed
  rw [h2]
  obtain ⟨hi, hhi, hb, hb0⟩ : ∃ hi : Int, min top ((lo + n : Nat) : Int) = hi ∧ hi ≤ ((lo + n : Nat) : Int) ∧ 0 ≤ hi := ⟨_, rfl, by rw [Int.min_def]; split <;> omega, by rw [Int.min_def]; split <;> omega⟩
  rw [hhi] at hk ⊢
  refine ⟨⟨by omega, by omega⟩, fun x3 e3 => ⟨(x3 - lo + 1).toNat + 1, ?_⟩⟩
  have key : ∀ (d : Nat) (z : Int), (z - lo + 1).toNat = d → z < hi → -1 ≤ z → (∀ j : Nat, z < (j : Int) → (j : Int) < hi → ¬ a (M (A + 1) (j % 64)).toNat = xs) → l_X9_highestNamed_12 A q P k M (d + 1) z := by
    intro d
    induction d with
    | zero =>
      intro z hd hz hz2 hj
      rw [l_X9_highestNamed_12, h1]
      exact ⟨fun _ => hk _ (.inl ⟨rfl, fun i a b => hj i (by omega) b⟩), fun q => by omega⟩
    | succ d ih =>
      intro z hd hz hz2 hj
      rw [l_X9_highestNamed_12, h1]
      refine ⟨fun q => by omega, fun q => ?_⟩
      refine x9_fieldAt (i := z.toNat) h4 (by omega) ?_
      obtain ⟨f1, f2⟩ := hf z.toNat (by omega) (by omega)
      obtain ⟨p1, p2, p3, p4⟩ := hP.2 (M (A + 1) (z.toNat % 64)).toNat (by omega)
      obtain ⟨c1, c2⟩ := hc.2.2 (M (A + 1) (z.toNat % 64)).toNat (by omega)
      refine x3_at_in (i := (M (A + 1) (z.toNat % 64)).toNat) hc hP.1 hn.2 (by omega) f2 ⟨fun e => (by cases e), fun o e => ?_⟩
      cases e
      refine x6_same p1 hx (by omega) (by omega) ⟨fun e => ?_, fun e => ?_⟩
      · unfold b_X9_highestNamed_53
        refine ⟨⟨by omega, by omega⟩, fun x e1 => ih x (by omega) (by omega) (by omega) (fun j a' b' => ?_)⟩
        by_cases q3 : j = z.toNat
        · rw [q3]; intro e2; rw [if_pos e2] at e; exact absurd e (by decide)
        · exact hj j (by omega) b'
      · have e2 : a (M (A + 1) (z.toNat % 64)).toNat = xs := by
          by_cases e2 : a (M (A + 1) (z.toNat % 64)).toNat = xs
          · exact e2
          · rw [if_neg e2] at e; exact absurd rfl e
        exact hk _ (.inr ⟨z.toNat, by omega, by omega, by omega, e2, fun j a' b' => hj j (by omega) b'⟩)
  exact key _ x3 rfl (by omega) (by omega) (fun j a b => by omega)
