/-! ===== the mathematics, part 8: who is held; loose; answers; gives, quits, grows ===== -/
theorem up_self (M : hq_M) (o j : Nat) (v : Int) : hq_up M o j v o j = v := by simp [hq_up]
def held (M : hq_M) (i : Nat) : Bool := mr M i || (List.range (M 0 25).toNat).any (fun k => hb M k i)
theorem m_isHeld {v : Int} {i : Nat} {M : hq_M} {k : Int → Prop} (hv : v = (i : Int)) (hN : 0 ≤ M 0 25 ∧ M 0 25 ≤ 40) (h17 : ∀ c, c < (M 0 25).toNat → 0 ≤ M 17 c ∧ M 17 c ≤ 6) (h39 : 0 ≤ M 0 39 ∧ M 0 39 ≤ 6) (hk : k (if held M i then 1 else 0)) : w_X12_isHeld v M k := by
  unfold w_X12_isHeld
  refine ⟨(M 0 39).toNat + 1, ?_⟩
  have sec : ∀ (d c : Nat) (y z : Int), z = (c : Int) → c + d = (M 0 25).toNat → y = (if (mr M i || (List.range c).any (fun k => hb M k i)) = true then 1 else 0) → l_X12_isHeld_40 v k M (d + 1) y z := by
    intro d
    induction d with
    | zero =>
      intro c y z hz hc hy
      rw [l_X12_isHeld_40]
      refine ⟨fun _ => ?_, fun q => by omega⟩
      unfold held at hk
      rw [hy, show c = (M 0 25).toNat by omega]
      exact hk
    | succ d ih =>
      intro c y z hz hc hy
      have hs : ∀ t : Int, t = (if (mr M i || (List.range (c + 1)).any (fun k => hb M k i)) = true then 1 else 0) → b_X12_isHeld_66 v z t (fun v2q v3q => l_X12_isHeld_40 v k M (d + 1) v2q v3q) k M := by
        intro t ht
        unfold b_X12_isHeld_66
        exact ⟨⟨by omega, by omega⟩, fun x1 e1 => ih (c + 1) t x1 (by omega) (by omega) ht⟩
      rw [l_X12_isHeld_40]
      refine ⟨fun q => by omega, fun _ => ⟨fun q => hs 1 ?_, fun q => m_isHeldBy (c := c) (i := i) hz (by omega) hv (h17 c (by omega)) ?_⟩⟩
      · have : (mr M i || (List.range c).any (fun k => hb M k i)) = true := by
          by_cases e : (mr M i || (List.range c).any (fun k => hb M k i)) = true
          · exact e
          · rw [if_neg e] at hy; exact absurd hy q
        rw [any_snoc, ← Bool.or_assoc, this]
        rfl
      · have : (mr M i || (List.range c).any (fun k => hb M k i)) = false := by
          by_cases e : (mr M i || (List.range c).any (fun k => hb M k i)) = true
          · rw [if_pos e] at hy; omega
          · simpa using e
        by_cases e : hb M c i = true
        · rw [if_pos e]
          exact ⟨fun e2 => absurd e2 (by decide), fun _ => hs 1 (by rw [any_snoc, ← Bool.or_assoc, this, e]; rfl)⟩
        · rw [if_neg e]
          exact ⟨fun _ => hs 0 (by rw [any_snoc, ← Bool.or_assoc, this]; simp [e]), fun e2 => absurd rfl e2⟩
  have key : ∀ (d j : Nat) (y z : Int), z = (j : Int) → j + d = (M 0 39).toNat → y = (if ((List.range j).any (fun j => decide (M 22 j = (i : Int)))) = true then 1 else 0) → l_X12_isHeld_4 v (fun x1 => ∃ m40, l_X12_isHeld_40 v k M m40 x1 0) k M (d + 1) y z := by
    intro d
    induction d with
    | zero =>
      intro j y z hz hj hy
      rw [l_X12_isHeld_4]
      refine ⟨fun _ => ⟨(M 0 25).toNat + 1, sec _ 0 y 0 rfl (by omega) ?_⟩, fun q => by omega⟩
      rw [hy, show j = (M 0 39).toNat by omega]
      unfold mr
      rw [List.range_zero, List.any_nil, Bool.or_false]
    | succ d ih =>
      intro j y z hz hj hy
      have hs : ∀ t : Int, t = (if ((List.range (j + 1)).any (fun j => decide (M 22 j = (i : Int)))) = true then 1 else 0) → b_X12_isHeld_31 v z t (fun v2q v3q => l_X12_isHeld_4 v (fun x1 => ∃ m40, l_X12_isHeld_40 v k M m40 x1 0) k M (d + 1) v2q v3q) k M := by
        intro t ht
        unfold b_X12_isHeld_31
        exact ⟨⟨by omega, by omega⟩, fun x1 e1 => ih (j + 1) t x1 (by omega) (by omega) ht⟩
      rw [l_X12_isHeld_4, show z.toNat = j by omega]
      refine ⟨fun q => by omega, fun _ => ⟨fun q => hs 1 ?_, fun q => ⟨by omega, fun q2 => hs 0 ?_, fun q2 => hs 1 ?_⟩⟩⟩
      · have : ((List.range j).any (fun j => decide (M 22 j = (i : Int)))) = true := by
          by_cases e : ((List.range j).any (fun j => decide (M 22 j = (i : Int)))) = true
          · exact e
          · rw [if_neg e] at hy; exact absurd hy q
        rw [any_snoc, this]
        rfl
      · have : ((List.range j).any (fun j => decide (M 22 j = (i : Int)))) = false := by
          by_cases e : ((List.range j).any (fun j => decide (M 22 j = (i : Int)))) = true
          · rw [if_pos e] at hy; omega
          · simpa using e
        rw [any_snoc, this, if_neg]
        simp
        omega
      · rw [any_snoc, if_pos]
        simp
        right
        omega
  exact key _ 0 0 0 rfl (by omega) (by simp)
theorem m_isFree {v : Int} {i : Nat} {M : hq_M} {k : Int → Prop} (hv : v = (i : Int)) (hN : 0 ≤ M 0 25 ∧ M 0 25 ≤ 40) (h17 : ∀ c, c < (M 0 25).toNat → 0 ≤ M 17 c ∧ M 17 c ≤ 6) (h39 : 0 ≤ M 0 39 ∧ M 0 39 ≤ 6) (hk : k (if v < M 0 23 ∧ held M i = false then 1 else 0)) : w_X12_isFree v M k := by
  unfold w_X12_isFree
  refine ⟨fun q => ?_, fun q => m_isHeld hv hN h17 h39 ?_⟩
  · rwa [if_neg (by omega)] at hk
  · by_cases e : held M i = true
    · rw [if_pos e]
      rw [if_neg (fun h => by rw [e] at h; exact absurd h.2 (by decide))] at hk
      exact ⟨fun _ => hk, fun e2 => absurd e2 (by decide)⟩
    · rw [if_neg e]
      rw [if_pos ⟨by omega, by simpa using e⟩] at hk
      exact ⟨fun e2 => absurd rfl e2, fun _ => hk⟩
theorem HO.fr {C M : hq_M} {A lo n c i : Nat} (h : HO C M A lo n c) (hN : (M 0 25).toNat ≤ 40) (hc : c ≤ 40) (h1 : lo ≤ i) (h2 : i < lo + n) : C (A + 3) (i % 64) = 0 ↔ held M i = false := by
  obtain ⟨r, b⟩ := h i h1 h2
  constructor
  · intro e
    have hz : ∀ k, k < 64 → hd M c k i = false := fun k hk => by rw [← b k hk, e, bt_zero]
    unfold held
    have hc' := hz c (by omega)
    unfold hd at hz hc'
    simp at hc'
    rw [hc'.2, Bool.false_or, Bool.eq_false_iff]
    intro ha
    rw [List.any_eq_true] at ha
    obtain ⟨k, hk, hk2⟩ := ha
    rw [List.mem_range] at hk
    have := hz k (by omega)
    rw [hk2] at this
    simp [hk] at this
  · intro e
    refine bt_ext r ⟨by decide, by decide⟩ (fun k hk => ?_)
    rw [b k hk, bt_zero]
    unfold held at e
    rw [Bool.or_eq_false_iff] at e
    unfold hd
    rw [e.1, Bool.and_false, Bool.or_false, Bool.eq_false_iff]
    intro ha
    rw [Bool.and_eq_true] at ha
    have : (List.range (M 0 25).toNat).any (fun k => hb M k i) = true := List.any_eq_true.mpr ⟨k, List.mem_range.mpr (by simpa using ha.1), ha.2⟩
    rw [this] at e
    exact absurd e.2 (by decide)
theorem o_loose {u : Nat} {C M : hq_M} (h : JJ u C M) : w_X11_loose C (fun z => w_X12_loose M (fun z' => z = z')) := by
  obtain ⟨-, -, -, ⟨l1, l2, l3, l4, l5⟩, ⟨lo, n, hE, hH, -⟩, -, -, -, -, hK⟩ := h
  have h17 : ∀ c, c < (M 0 25).toNat → 0 ≤ M 17 c ∧ M 17 c ≤ 6 := fun c hc => (l5 c hc).2.2.2.1
  have hT := hE.1
  obtain ⟨m7, m6, -, -⟩ := hE.2.1
  have hb := hT.2.2.1
  have kn := hK.2.2.1
  unfold w_X11_loose
  refine x9_evictable hT (by rw [hK.1]; omega) (fun t ht => ?_)
  rw [hK.1] at ht
  have ht := ht.cg (Q := fun i => held M i = false) (fun i a b => hH.fr (by omega) (by decide) a (by omega))
  unfold w_X12_loose
  refine ⟨by decide, fun x3 e3 => ⟨min (lo + n) (M 0 23).toNat - lo + 1, ?_⟩⟩
  have key : ∀ (d s : Nat) (z : Int), (s = 0 ∨ lo + s ≤ min (lo + n) (M 0 23).toNat) → s + d = min (lo + n) (M 0 23).toNat - lo → z = ((lo + s : Nat) : Int) → (∀ d', d' < s → held M (lo + d') = false) → l_X12_loose_7 (fun x4 => (0 ≤ (0 : Int) ∧ (0 : Int) < 2) ∧ rg (x4 - (M 7 0)) ∧ (t : Int) = (x4 - (M 7 0))) (fun z' => (t : Int) = z') M (d + 1) z := by
    intro d
    induction d with
    | zero =>
      intro s z hs hsd hz hf
      have e : t = s := ht.un ⟨hs, hf, .inl (by omega)⟩
      rw [l_X12_loose_7]
      refine ⟨by decide, fun q => ⟨by decide, ⟨by omega, by omega⟩, by omega⟩, fun q => m_isFree (i := lo + s) hz l2 h17 (by rw [hK.2.2.2]; decide) ?_⟩
      rw [if_neg (by omega)]
      exact ⟨fun _ => ⟨by decide, ⟨by omega, by omega⟩, by omega⟩, fun e2 => absurd rfl e2⟩
    | succ d ih =>
      intro s z hs hsd hz hf
      rw [l_X12_loose_7]
      refine ⟨by decide, fun q => by omega, fun q => m_isFree (i := lo + s) hz l2 h17 (by rw [hK.2.2.2]; decide) ?_⟩
      by_cases e : held M (lo + s) = false
      · rw [if_pos ⟨by omega, e⟩]
        refine ⟨fun e2 => absurd e2 (by decide), fun _ => ⟨⟨by omega, by omega⟩, fun x4 e4 => ih (s + 1) x4 (.inr (by omega)) (by omega) (by omega) (fun d' hd' => ?_)⟩⟩
        by_cases q2 : d' = s
        · rw [q2]; exact e
        · exact hf d' (by omega)
      · rw [if_neg (fun h => e h.2)]
        have e' : t = s := ht.un ⟨hs, hf, .inr e⟩
        exact ⟨fun _ => ⟨by decide, ⟨by omega, by omega⟩, by omega⟩, fun e2 => absurd rfl e2⟩
  exact key _ 0 x3 (.inl rfl) (by omega) (by rw [e3, m7]; rfl) (fun d hd => absurd hd (by omega))
/-! one acknowledgement -/
def hdv (a : Int) : Int := if a = 0 then 128 else if a = 1 then 64 else 0
theorem m_answer {a v : Int} {n : Nat} {M : hq_M} {k : hq_M → Prop} (ha : a = 0 ∨ a = 1 ∨ a = 2) (hv : 0 ≤ v ∧ v < 63) (h52 : M 0 52 = (n : Int)) (h56 : M 0 56 = (n : Int)) (hn : n ≤ 190) (hk : ∀ M' : hq_M, M' 30 n = hdv a + v → M' 31 n = a → M' 32 n = v → M' 33 n = 1 → M' 0 52 = ((n + 1 : Nat) : Int) → M' 0 56 = ((n + 1 : Nat) : Int) → (∀ o j, ¬ (o = 28 ∨ (o = 0 ∧ (j = 49 ∨ j = 52 ∨ j = 56)) ∨ (30 ≤ o ∧ o ≤ 33 ∧ j = n)) → M' o j = M o j) → k M') : w_X12_answer a v M k := by
  have b38 : ∀ (t b : Int) (M1 : hq_M), t = hdv a → (b = 6 ∨ b = 7) → In M1 [] → Fi M M1 → b_X12_answer_38 a v t b k M1 := by
    intro t b M1 ht hb hi hf
    have ho : octs t b v = [t + v] := by
      refine octs_one ?_
      rcases hb with rfl | rfl
      · exact Int.lt_of_lt_of_le hv.2 (by decide)
      · exact Int.lt_of_lt_of_le hv.2 (by decide)
    have ht2 : 0 ≤ t ∧ t ≤ 255 := by
      rw [ht]; unfold hdv
      rcases ha with rfl | rfl | rfl <;> decide
    unfold b_X12_answer_38
    refine m_laysNumber (by omega) ht2 ⟨hv.1, by omega⟩ hi (by rw [ho]; simp) (fun M2 h2 f2 => ⟨2, ?_⟩)
    rw [ho, List.nil_append] at h2
    have e49 : M2 0 49 = 1 := h2.1
    have e28 : M2 28 0 = t + v := h2.2 0 (by simp)
    have f := hf.tr f2
    have e52 : M2 0 52 = (n : Int) := (f 0 52 (by decide) (by decide)).trans h52
    have e56 : M2 0 56 = (n : Int) := (f 0 56 (by decide) (by decide)).trans h56
    rw [l_X12_answer_44, e49, e52]
    refine ⟨fun q => absurd q (by decide), fun _ => ⟨⟨by omega, by omega⟩, by decide, ⟨by omega, by omega⟩, fun M7 e7 => ⟨by decide, fun x8 e8 => ?_⟩⟩⟩
    rw [show ((n : Int) + 0).toNat = n by omega, show (0 : Int).toNat = 0 from rfl, e28] at e7
    have g49 : M7 0 49 = 1 := by rw [e7]; simp [hq_up]; exact e49
    have g52 : M7 0 52 = (n : Int) := by rw [e7]; simp [hq_up]; exact e52
    rw [l_X12_answer_44, g49, g52]
    refine ⟨fun _ => ⟨⟨by omega, by omega⟩, fun M6 e6 => ?_⟩, fun q => by omega⟩
    have g56 : M6 0 56 = (n : Int) := by rw [e6, e7]; simp [hq_up]; exact e56
    rw [g56, show ((n : Nat) : Int).toNat = n by omega]
    refine ⟨⟨by omega, by omega⟩, fun M9 e9 => ?_⟩
    have g56' : M9 0 56 = (n : Int) := by rw [e9]; simp [hq_up]; exact g56
    rw [g56', show ((n : Nat) : Int).toNat = n by omega]
    refine ⟨⟨by omega, by omega⟩, fun M12 e12 => ?_⟩
    have g56'' : M12 0 56 = (n : Int) := by rw [e12]; simp [hq_up]; exact g56'
    have g49'' : M12 0 49 = 1 := by rw [e12, e9, e6]; simp [hq_up]; exact g49
    rw [g56'', g49'', show ((n : Nat) : Int).toNat = n by omega]
    refine ⟨⟨by omega, by omega⟩, fun M16 e16 => ?_⟩
    have g56''' : M16 0 56 = (n : Int) := by rw [e16]; simp [hq_up]; exact g56''
    rw [g56''']
    refine ⟨⟨by omega, by omega⟩, fun M19 e19 => hk M19 ?_ ?_ ?_ ?_ ?_ ?_ (fun o j ho => ?_)⟩
    · rw [e19, e16, e12, e9, e6, e7, ← ht]; simp [hq_up]
    · rw [e19, e16, e12, e9]; simp [hq_up]
    · rw [e19, e16, e12]; simp [hq_up]
    · rw [e19, e16]; simp [hq_up]
    · rw [e19, e16, e12, e9, e6]; simp [hq_up]
    · rw [e19]; simp [hq_up]
    · rw [← f o j (by omega) (by omega), e19, e16, e12, e9, e6, e7]
      simp [hq_up]
      rw [if_neg (by omega), if_neg (by omega), if_neg (by omega), if_neg (by omega), if_neg (by omega), if_neg (by omega)]
  have b27 : ∀ (t : Int) (M1 : hq_M), t = hdv a → In M1 [] → Fi M M1 → b_X12_answer_27 a v t k M1 := by
    intro t M1 ht hi hf
    unfold b_X12_answer_27
    exact ⟨fun _ => b38 t 6 M1 ht (.inl rfl) hi hf, fun _ => b38 t 7 M1 ht (.inr rfl) hi hf⟩
  unfold w_X12_answer
  intro M1 e1
  obtain ⟨hi, hf⟩ := In.new e1
  refine ⟨fun q => ⟨fun q2 => b27 0 M1 ?_ hi hf, fun q2 => b27 64 M1 ?_ hi hf⟩, fun q => b27 128 M1 ?_ hi hf⟩
  · unfold hdv; rw [if_neg q, if_neg q2]
  · unfold hdv; rw [if_neg q, if_pos q2]
  · unfold hdv; rw [if_pos q]
theorem RP.push {C M C' M' : hq_M} {n : Nat} {a v x : Int} (h : RP C M) (hn : M 0 52 = (n : Int)) (h52 : M' 0 52 = ((n + 1 : Nat) : Int)) (h56 : M' 0 56 = ((n + 1 : Nat) : Int)) (h25 : M' 0 25 = M 0 25) (h23 : M' 0 23 = M 0 23) (hbd : ((n + 1 : Nat) : Int) ≤ 100 + (cn (fun k => decide (2 ≤ M' 15 k)) (M 0 25).toNat : Nat)) (hold : ∀ o j, 30 ≤ o ∧ o ≤ 33 ∧ j < n → M' o j = M o j) (h30 : M' 30 n = x) (h31 : M' 31 n = a) (h32 : M' 32 n = v) (h33 : M' 33 n = 1) (hav : (a = 0 ∧ 0 ≤ v ∧ v < M 0 25 ∧ x = 128 + v) ∨ (a = 1 ∧ 0 ≤ v ∧ v < M 0 25 ∧ x = 64 + v) ∨ (a = 2 ∧ 0 < v ∧ v ≤ 62 ∧ x = v)) (h11 : ∀ j, M' 11 j = M 11 j) (hR : Rw C' 389 (sg M 30 0 n ++ [x])) (hk : M' 0 24 = if a = 0 then max (M 0 24) (M 11 v.toNat) else if a = 1 then M 0 24 else M 0 24 + v) : RP C' M' := by
  obtain ⟨r1, r2, r3, r4, r5⟩ := h
  have hnn : (M 0 52).toNat = n := by omega
  have hnn' : (M' 0 52).toNat = n + 1 := by omega
  rw [hnn] at r3 r4 r5
  unfold RP
  rw [hnn', h25, h23, h52, h56]
  refine ⟨⟨by omega, hbd⟩, rfl, ?_, fun i hi => ?_, ?_⟩
  · rw [sg_snoc, Nat.zero_add, h30, show sg M' 30 0 n = sg M 30 0 n from sg_eq (fun i hi => hold _ _ (by omega))]
    exact hR
  · by_cases q : i = n
    · rw [q, h30, h31, h32, h33]
      exact ⟨rfl, hav⟩
    · rw [hold 30 i (by omega), hold 31 i (by omega), hold 32 i (by omega), hold 33 i (by omega)]
      exact r4 i (by omega)
  · rw [kf, h31, h32, kf_cg (M := M) (fun o j ho => hold _ _ (by omega)) (fun i _ _ => h11 _), r5, h11, hk]
theorem LT.up {C M C' M' : hq_M} {k : Nat} (h : LT C M) (hC : ∀ o j, ((168 ≤ o ∧ o < 370) ∨ (o = 405 ∧ j = 0)) ∧ ¬ (o = 170 + 5 * k ∧ (j = 5 ∨ j = 6 ∨ j = 7)) → C' o j = C o j) (hM : ∀ o j, ((11 ≤ o ∧ o ≤ 20) ∨ (o = 0 ∧ j = 25) ∨ (o = 6 ∧ j = 1)) ∧ ¬ ((o = 14 ∨ o = 15 ∨ o = 16) ∧ j = k) → M' o j = M o j) (h6 : M 6 0 ≤ M' 6 0) (h5 : C' (170 + 5 * k) 5 = M' 14 k ∧ C' (170 + 5 * k) 6 = M' 15 k ∧ C' (170 + 5 * k) 7 = M' 16 k) (hb : (0 ≤ M' 14 k ∧ M' 14 k ≤ M 13 k) ∧ (0 ≤ M' 15 k ∧ M' 15 k ≤ 3) ∧ (0 ≤ M' 16 k ∧ M' 16 k ≤ 1)) (hbl : M' 15 k = 1 → M 6 1 < M 11 k) : LT C' M' := by
  obtain ⟨h1, h2, h3, h4, hs⟩ := h
  unfold LT
  rw [hM 0 25 (by omega), hC 168 1 (by omega), hC 405 0 (by omega)]
  refine ⟨h1, h2, fun i hi => (hC _ _ (by omega)).trans (h3 i hi), h4, fun i hi => ?_⟩
  by_cases q : i = k
  · subst q
    obtain ⟨g1, g2, ⟨g3, g4, -⟩, b1, b2, b3, b4, b5, b6, b7, b8, b9⟩ := hs i hi
    unfold SE
    rw [hM 11 i (by omega), hM 12 i (by omega), hM 13 i (by omega), hM 17 i (by omega), hC (170 + 5 * i) 3 (by omega), hC (170 + 5 * i) 4 (by omega)]
    rw [show sg M' 18 (6 * i) (M 17 i).toNat = sg M 18 (6 * i) (M 17 i).toNat from sg_eq (fun j _ => hM _ _ (by omega)), show sg M' 20 (112 * i) (M 13 i).toNat = sg M 20 (112 * i) (M 13 i).toNat from sg_eq (fun j _ => hM _ _ (by omega))]
    refine ⟨g1.cg (hC _ _ (by omega)) (fun j => hC _ _ (by omega)), g2.cg (hC _ _ (by omega)) (fun j => hC _ _ (by omega)), ⟨g3, g4, h5⟩, b1, b2, hb.1, hb.2.1, hb.2.2, ⟨b6.1, by omega⟩, ⟨b7.1, by omega⟩, fun j hj => ?_, by rw [hM 6 1 (by omega)]; exact hbl⟩
    rw [hM 19 _ (by omega)]
    have := b8 j hj
    omega
  · refine (hs i hi).cg (fun o j ho => hC _ _ (by omega)) (fun o j ho => hM _ _ (by omega)) h6
theorem JJ.pl {u : Nat} {C M C' M' : hq_M} (h : JJ u C M) (hL : LT C' M') (hR : RP C' M') (hK : KN C' M') (hH : ∀ lo n, HO C M 371 lo n 40 → HO C' M' 371 lo n 40) (hC : ∀ o j, ¬ ((168 ≤ o ∧ o < 370) ∨ o = 389 ∨ o = 390 ∨ (o = 384 ∧ j = 2) ∨ (o = 370 ∧ j = 5) ∨ o = 374) → C' o j = C o j) (hM : ∀ o j, ¬ ((14 ≤ o ∧ o ≤ 16) ∨ (30 ≤ o ∧ o ≤ 33) ∨ o = 28 ∨ (o = 0 ∧ (j = 49 ∨ j = 52 ∨ j = 56 ∨ j = 23 ∨ j = 24))) → M' o j = M o j) : JJ u C' M' := by
  obtain ⟨hT, hD, hS, -, ⟨lo, n, hE, hH0, hb⟩, ⟨lo2, n2, hX⟩, ⟨D, m, hQ, hb2⟩, hDE, -, -⟩ := h
  exact ⟨hT.cg (fun o j ho => hC o j (by omega)) (fun o j ho => hM o j (by omega)), hD.cg (fun o j ho => hC o j (by omega)) (fun o j ho => hM o j (by omega)), hS.cg (fun o j ho => hC o j (by omega)) (fun o j ho => hM o j (by omega)), hL, ⟨lo, n, hE.cg (fun o j ho => hC o j (by omega)) (fun o j ho => hM o j (by omega)), hH lo n hH0, hb⟩, ⟨lo2, n2, hX.cg (fun o j ho => hC o j (by omega)) (fun o j ho => hM o j (by omega))⟩, ⟨D, m, hQ.cg (fun o j ho => hC o j (by omega)) (fun o j ho => hM o j (by omega)), hb2.1, hb2.2.cg (hC _ _ (by omega))⟩, hDE.cg (fun o j ho => hM o j (by omega)), hR, hK⟩
/-! a section is decoded -/
theorem octs_num {h : Int} {b : Int} {v : Int} (hb : b = 6 ∨ b = 7) (hv : v < 63) : octs h b v = [h + v] := by
  refine octs_one ?_
  rcases hb with rfl | rfl
  · exact Int.lt_of_lt_of_le hv (by decide)
  · exact Int.lt_of_lt_of_le hv (by decide)
theorem x5_decode {k : Nat} {C : hq_M} {xs : List Int} {kk : hq_M → Prop} (hk40 : k < 40) (hnum : C (170 + 5 * k) 0 = (k : Int)) (hr : Rw C 389 xs) (hl : xs.length < 160) (hk0 : C (170 + 5 * k) 3 ≤ 0 → ∀ C', C' (170 + 5 * k) 6 = 2 → (∀ o j, ¬ (o = 170 + 5 * k ∧ j = 6) → C' o j = C o j) → kk C') (hk1 : 0 < C (170 + 5 * k) 3 → ∀ C', C' (170 + 5 * k) 6 = 2 → Rw C' 389 (xs ++ [128 + (k : Int)]) → C' 384 2 = max (C 384 2) (C (170 + 5 * k) 3) → (∀ o j, ¬ ((o = 170 + 5 * k ∧ j = 6) ∨ o = 389 ∨ o = 390 ∨ (o = 384 ∧ j = 2)) → C' o j = C o j) → kk C') : w_X5_decode (170 + 5 * k) C kk := by
  unfold w_X5_decode
  intro M1 e1
  have f1 : ∀ o j, ¬ (o = 170 + 5 * k ∧ j = 6) → M1 o j = C o j := fun o j ho => by rw [e1]; simp only [hq_up]; rw [if_neg ho]
  have s1 : M1 (170 + 5 * k) 6 = 2 := by rw [e1]; simp [hq_up]
  rw [f1 (170 + 5 * k) 3 (by omega), f1 (170 + 5 * k) 0 (by omega), hnum]
  refine ⟨fun q => hk0 q M1 s1 f1, fun q => ?_⟩
  have ho : octs 128 7 (k : Int) = [128 + (k : Int)] := octs_num (.inr rfl) (by omega)
  refine x6_addInteger (by decide) (by decide) (by omega) (hr.cg (f1 _ _ (by omega)) (fun i => f1 _ _ (by omega))) (by rw [ho, capR]; simp; omega) (fun M4 r4 f4 => ?_)
  rw [ho] at r4
  intro M7 e7
  have f7 : ∀ o j, ¬ (o = 384 ∧ j = 2) → M7 o j = M4 o j := fun o j ho => by rw [e7]; simp only [hq_up]; rw [if_neg ho]
  refine hk1 (by omega) M7 ?_ (r4.cg (f7 _ _ (by omega)) (fun i => f7 _ _ (by omega))) ?_ (fun o j ho => ?_)
  · rw [f7 _ _ (by omega), f4 _ _ (by omega) (by omega), s1]
  · rw [e7, up_self, f4 _ _ (by omega) (by omega), f4 _ _ (by omega) (by omega), f1 _ _ (by omega), f1 _ _ (by omega)]
  · rw [f7 _ _ (by omega), f4 _ _ (by omega) (by omega), f1 _ _ (by omega)]
theorem m_becomesRead {v : Int} {k n : Nat} {M : hq_M} {kk : hq_M → Prop} (hv : v = (k : Int)) (hk40 : k < 40) (h52 : M 0 52 = (n : Int)) (h56 : M 0 56 = (n : Int)) (hn : n ≤ 190) (hk0 : M 11 k ≤ 0 → ∀ M', M' 15 k = 2 → (∀ o j, ¬ (o = 15 ∧ j = k) → M' o j = M o j) → kk M') (hk1 : 0 < M 11 k → ∀ M', M' 15 k = 2 → M' 30 n = 128 + v → M' 31 n = 0 → M' 32 n = v → M' 33 n = 1 → M' 0 52 = ((n + 1 : Nat) : Int) → M' 0 56 = ((n + 1 : Nat) : Int) → M' 0 24 = max (M 0 24) (M 11 k) → (∀ o j, ¬ ((o = 15 ∧ j = k) ∨ o = 28 ∨ (o = 0 ∧ (j = 24 ∨ j = 49 ∨ j = 52 ∨ j = 56)) ∨ (30 ≤ o ∧ o ≤ 33 ∧ j = n)) → M' o j = M o j) → kk M') : w_X12_becomesRead v M kk := by
  unfold w_X12_becomesRead
  rw [show v.toNat = k by omega]
  refine ⟨by omega, fun M2 e2 => ?_⟩
  have f2 : ∀ o j, ¬ (o = 15 ∧ j = k) → M2 o j = M o j := fun o j ho => by rw [e2]; simp only [hq_up]; rw [if_neg ho]
  have s2 : M2 15 k = 2 := by rw [e2]; simp [hq_up]
  rw [f2 11 k (by omega)]
  refine ⟨by omega, fun q => hk0 q M2 s2 f2, fun q => ?_⟩
  refine m_answer (n := n) (.inl rfl) (by omega) ((f2 _ _ (by omega)).trans h52) ((f2 _ _ (by omega)).trans h56) hn (fun M5 a30 a31 a32 a33 a52 a56 f5 => ⟨by omega, ?_⟩)
  refine m_greater (fun M10 e10 => ?_)
  have f10 : ∀ o j, ¬ (o = 0 ∧ j = 24) → M10 o j = M5 o j := fun o j ho => by rw [e10]; simp only [hq_up]; rw [if_neg ho]
  refine hk1 (by omega) M10 ?_ ?_ ?_ ?_ ?_ ?_ ?_ ?_ (fun o j ho => ?_)
  · rw [f10 _ _ (by omega), f5 _ _ (by omega), s2]
  · rw [f10 _ _ (by omega), a30]; rfl
  · rw [f10 _ _ (by omega), a31]
  · rw [f10 _ _ (by omega), a32]
  · rw [f10 _ _ (by omega), a33]
  · rw [f10 _ _ (by omega), a52]
  · rw [f10 _ _ (by omega), a56]
  · rw [e10, up_self, f5 _ _ (by omega), f5 _ _ (by omega), f2 _ _ (by omega), f2 _ _ (by omega)]
  · rw [f10 _ _ (by omega), f5 _ _ (by omega), f2 _ _ (by omega)]
