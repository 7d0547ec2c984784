/-! ===== the mathematics, part 6: more of the smaller calls ===== -/
theorem m_isThere {v w : Int} {t : Nat} {M : hq_M} {k : Int → Prop} (hv : v = (t : Int)) (ht : t < 2) (hb : 0 ≤ M 6 t ∧ M 6 t ≤ 1000000) (hk : k (if M 7 t ≤ w ∧ w < M 6 t then 1 else 0)) : w_X12_isThere v w M k := by
  unfold w_X12_isThere
  rw [show v.toNat = t by omega]
  refine ⟨by omega, by omega, ⟨by omega, by omega⟩, m_in ?_⟩
  by_cases q : M 7 t ≤ w ∧ w < M 6 t
  · rw [if_pos q] at hk; rwa [if_pos (by omega)]
  · rw [if_neg q] at hk; rwa [if_neg (by omega)]
theorem m_fieldAt {v w : Int} {t i : Nat} {M : hq_M} {k : Int → Prop} (hv : v = (t : Int)) (ht : t < 2) (hw : w = (i : Int)) (hk : k (M 10 (64 * t + i % 64))) : w_X12_fieldAt v w M k := by
  unfold w_X12_fieldAt
  rw [show (64 * v + w % 64).toNat = 64 * t + i % 64 by omega]
  exact ⟨⟨by omega, by omega⟩, ⟨by omega, by decide⟩, ⟨by omega, by omega⟩, ⟨by omega, by omega⟩, hk⟩
theorem m_sizeOf {v : Int} {f : Nat} {M : hq_M} {k : Int → Prop} (hv : v = (f : Int)) (hf : f < 32) (hL : Lo6 M) (hk : k (sz M f)) : w_X12_sizeOf v M k := by
  obtain ⟨⟨a1, a2⟩, b1, b2⟩ := hL f hf
  unfold w_X12_sizeOf
  rw [show v.toNat = f by omega]
  exact ⟨by omega, by omega, ⟨by omega, by omega⟩, ⟨by omega, by omega⟩, hk⟩
theorem any_snoc {n : Nat} {p : Nat → Bool} : (List.range (n + 1)).any p = ((List.range n).any p || p n) := by
  simp [List.range_succ]
theorem m_isHeldBy {v w : Int} {c i : Nat} {M : hq_M} {k : Int → Prop} (hv : v = (c : Int)) (hc : c < 40) (hw : w = (i : Int)) (h17 : 0 ≤ M 17 c ∧ M 17 c ≤ 6) (hk : k (if hb M c i then 1 else 0)) : w_X12_isHeldBy v w M k := by
  unfold w_X12_isHeldBy
  refine ⟨(M 17 c).toNat + 1, ?_⟩
  have key : ∀ (d j : Nat) (y z : Int), z = (j : Int) → j + d = (M 17 c).toNat → y = (if (decide (M 16 c = 0) && (List.range j).any (fun j => decide (M 19 (6 * c + j) = (i : Int)))) = true then 1 else 0) → l_X12_isHeldBy_5 v w k M (d + 1) y z := by
    intro d
    induction d with
    | zero =>
      intro j y z hz hj hy
      rw [l_X12_isHeldBy_5, show v.toNat = c by omega]
      refine ⟨by omega, fun _ => ?_, fun q => by omega⟩
      unfold hb at hk
      rw [hy, show j = (M 17 c).toNat by omega]
      exact hk
    | succ d ih =>
      intro j y z hz hj hy
      rw [l_X12_isHeldBy_5, show v.toNat = c by omega, show (6 * v + z).toNat = 6 * c + j by omega]
      have hs : ∀ t : Int, t = (if (decide (M 16 c = 0) && (List.range (j + 1)).any (fun j => decide (M 19 (6 * c + j) = (i : Int)))) = true then 1 else 0) → b_X12_isHeldBy_50 v w z t (fun v3q v4q => l_X12_isHeldBy_5 v w k M (d + 1) v3q v4q) k M := by
        intro t ht
        unfold b_X12_isHeldBy_50
        exact ⟨⟨by omega, by omega⟩, fun x1 e1 => ih (j + 1) t x1 (by omega) (by omega) ht⟩
      refine ⟨by omega, fun q => by omega, fun _ => ⟨fun q => hs 1 ?_, fun q => ⟨by omega, fun q2 => hs 0 ?_, fun q2 => ⟨⟨by omega, by omega⟩, ⟨by omega, by omega⟩, ⟨by omega, by omega⟩, fun q3 => hs 0 ?_, fun q3 => hs 1 ?_⟩⟩⟩⟩
      · have : (decide (M 16 c = 0) && (List.range j).any (fun j => decide (M 19 (6 * c + j) = (i : Int)))) = true := by
          by_cases e : (decide (M 16 c = 0) && (List.range j).any (fun j => decide (M 19 (6 * c + j) = (i : Int)))) = true
          · exact e
          · rw [if_neg e] at hy; exact absurd hy q
        rw [any_snoc, if_pos]
        rw [Bool.and_eq_true] at this ⊢
        exact ⟨this.1, by rw [this.2]; rfl⟩
      · rw [if_neg (by simp [q2])]
      · have : ¬ (decide (M 16 c = 0) && (List.range j).any (fun j => decide (M 19 (6 * c + j) = (i : Int)))) = true := by
          intro e
          rw [if_pos e] at hy
          omega
        rw [any_snoc, if_neg]
        intro e
        apply this
        rw [Bool.and_eq_true] at e ⊢
        refine ⟨e.1, ?_⟩
        have e2 := e.2
        rw [show decide (M 19 (6 * c + j) = (i : Int)) = false by simp; omega, Bool.or_false] at e2
        exact e2
      · rw [any_snoc, if_pos]
        rw [Bool.and_eq_true]
        exact ⟨by simp [q2], by rw [show decide (M 19 (6 * c + j) = (i : Int)) = true by simp; omega, Bool.or_true]⟩
  exact key _ 0 0 0 rfl (by omega) (by simp)
theorem mr_rest {M : hq_M} {i : Nat} (h : M 0 39 = 0) : mr M i = false := by
  unfold mr
  rw [h]
  rfl
theorem o_holds {u : Nat} {C M : hq_M} (h : JJ u C M) (v : Int) : w_X11_holds v C (fun z => w_X12_holds v M (fun z' => z = z')) := by
  obtain ⟨-, -, -, ⟨l1, l2, l3, l4, l5⟩, ⟨lo, n, hE, hH, -⟩, -, -, -, -, hK⟩ := h
  have hT := hE.1
  have e2 := hE.2.1
  have hbb := hT.2.2.1
  unfold w_X11_holds w_X12_holds
  refine x9_has hT ?_
  by_cases q : (lo : Int) ≤ v ∧ v < ((lo + n : Nat) : Int)
  · rw [if_pos q]
    refine ⟨fun e => absurd e (by decide), fun _ => x9_holdersAt (i := v.toNat) hT.2.2.2.2.2 (by omega) ?_⟩
    refine m_isThere (t := 0) rfl (by decide) (by omega) ?_
    rw [if_pos (by omega)]
    refine ⟨fun _ => ⟨(M 0 25).toNat + 1, ?_⟩, fun e => absurd e (by decide)⟩
    obtain ⟨r1, r2⟩ := hH v.toNat (by omega) (by omega)
    have key : ∀ (d i : Nat) (y z : Int), z = (i : Int) → i + d = (M 0 25).toNat → rl y → (∀ b, b < 64 → bt y b = (decide (b < i) && hb M b v.toNat)) → l_X12_holds_18 v (fun z' => C (371 + 3) (v.toNat % 64) = z') M (d + 1) y z := by
      intro d
      induction d with
      | zero =>
        intro i y z hz hi hr hy
        rw [l_X12_holds_18]
        refine ⟨fun _ => bt_ext r1 hr (fun b hb' => ?_), fun q => by omega⟩
        rw [r2 b hb', hy b hb', show i = (M 0 25).toNat by omega]
        unfold hd
        rw [mr_rest hK.2.2.2]
        simp
      | succ d ih =>
        intro i y z hz hi hr hy
        rw [l_X12_holds_18]
        refine ⟨fun q => by omega, fun _ => m_isHeldBy (c := i) (i := v.toNat) hz (by omega) (by omega) (l5 i (by omega)).2.2.2.1 ?_⟩
        have hs : ∀ t : Int, (∀ b, b < 64 → bt t b = (decide (b = i) && hb M b v.toNat)) → b_X12_holds_46 v z y t (fun v2q v4q => l_X12_holds_18 v (fun z' => C (371 + 3) (v.toNat % 64) = z') M (d + 1) v2q v4q) (fun z' => C (371 + 3) (v.toNat % 64) = z') M := by
          intro t ht
          unfold b_X12_holds_46
          intro x1 e1
          refine ⟨⟨by omega, by omega⟩, fun x2 e2 => ih (i + 1) x1 x2 (by omega) (by omega) (by rw [e1]; exact w6_rl _) (fun b hb' => ?_)⟩
          rw [e1, bt_or, hy b hb', ht b hb', Bool.eq_iff_iff]
          simp
          by_cases q3 : b = i
          · simp [q3]
          · simp [q3]; intro _; omega
        by_cases q2 : hb M i v.toNat = true
        · rw [if_pos q2]
          refine ⟨fun e => absurd e (by decide), fun _ => hs _ (fun b hb' => ?_)⟩
          rw [hz, bt_one i (by omega) b hb']
          by_cases q3 : b = i
          · simp [q3, q2]
          · simp [q3]
        · rw [if_neg q2]
          refine ⟨fun _ => hs 0 (fun b hb' => ?_), fun e => absurd rfl e⟩
          rw [bt_zero]
          by_cases q3 : b = i
          · rw [q3]; simp [q2]
          · simp [q3]
    exact key _ 0 0 0 rfl (by omega) ⟨by decide, by decide⟩ (fun b hb' => by rw [bt_zero]; simp)
  · rw [if_neg q]
    refine ⟨fun _ => ?_, fun e => absurd rfl e⟩
    refine m_isThere (t := 0) rfl (by decide) (by omega) ?_
    rw [if_neg (by omega)]
    exact ⟨fun e => absurd rfl e, fun _ => rfl⟩
theorem TBr {C M : hq_M} {A t lo n : Nat} (h : TB C M A t lo n) : 0 ≤ M 6 t ∧ M 6 t ≤ 1000000 := by
  have := h.1.2.2.1
  have := h.2.1.2.1
  omega
theorem o_entry {u : Nat} {C M : hq_M} (h : JJ u C M) (v w x : Int) : w_X11_entry v w x C (fun z => w_X12_entry v w x M (fun z' => z = z')) := by
  obtain ⟨-, -, ⟨o, ho, -, -, -, hS⟩, -, ⟨lo, n, hE, -, -⟩, ⟨lo2, n2, hX⟩, -⟩ := h
  have hL := hS.2.2.1
  have hF := hS.1
  have bad : ¬ ((0 ≤ v ∧ v ≤ 1) ∧ (0 ≤ x ∧ x ≤ 1) ∧ 0 ≤ w) → w_X12_entry v w x M (fun z' => -1 = z') := by
    intro hn
    unfold w_X12_entry
    refine m_in ?_
    by_cases q : 0 ≤ v ∧ v ≤ 1
    · rw [if_pos q]
      refine ⟨fun e => absurd e (by decide), fun _ => ⟨fun _ => rfl, fun q2 => m_in ?_⟩⟩
      rw [if_neg (by omega)]
      exact ⟨fun e => absurd rfl e, fun _ => rfl⟩
    · rw [if_neg q]
      exact ⟨fun _ => rfl, fun e => absurd rfl e⟩
  have go : ∀ A t lo n : Nat, v = (t : Int) → t < 2 → 0 ≤ x ∧ x ≤ 1 → 0 ≤ w → TB C M A t lo n → w_X9_has A w C (fun x3 => (¬ x3 = 0 → (¬ x = 0 → w_X9_fieldAt A w C (fun x4 => w_X12_entry v w x M (fun z' => x4 = z'))) ∧ (x = 0 → w_X9_sizeAt A w C (fun x5 => w_X12_entry v w x M (fun z' => x5 = z')))) ∧ (x3 = 0 → w_X12_entry v w x M (fun z' => -9 = z'))) := by
    intro A t lo n hv ht hx hw hB
    obtain ⟨⟨a4, a3, ab, c1, c2, c3⟩, ⟨m7, m6, m9, m8⟩, -, -, -, hi⟩ := hB
    have com : ∀ ans : Int, (∀ (k : Int → Prop), k ans → (if (lo : Int) ≤ w ∧ w < ((lo + n : Nat) : Int) then ((¬ x = 0 → w_X12_fieldAt v w M (fun x4 => k x4)) ∧ (x = 0 → w_X12_fieldAt v w M (fun x5 => w_X12_sizeOf x5 M (fun x6 => k x6)))) else k (-9))) → w_X12_entry v w x M (fun z' => ans = z') := by
      intro ans ha
      have ha := ha (fun z' => ans = z') rfl
      unfold w_X12_entry
      refine m_in ?_
      rw [if_pos (by omega)]
      refine ⟨fun e => absurd e (by decide), fun _ => ⟨fun q => by omega, fun _ => m_in ?_⟩⟩
      rw [if_pos hx]
      refine ⟨fun _ => m_isThere (t := t) hv ht (by omega) ?_, fun e => absurd e (by decide)⟩
      by_cases q : (lo : Int) ≤ w ∧ w < ((lo + n : Nat) : Int)
      · rw [if_pos q] at ha
        rw [if_pos (by omega)]
        exact ⟨fun _ => ha, fun e => absurd e (by decide)⟩
      · rw [if_neg q] at ha
        rw [if_neg (by omega)]
        exact ⟨fun e => absurd rfl e, fun _ => ha⟩
    refine x9_has ⟨a4, a3, ab, c1, c2, c3⟩ ?_
    by_cases q : (lo : Int) ≤ w ∧ w < ((lo + n : Nat) : Int)
    · obtain ⟨i1, i2, i3⟩ := hi w.toNat (by omega) (by omega)
      rw [if_pos q]
      refine ⟨fun _ => ⟨fun q2 => x9_fieldAt (i := w.toNat) c1 (by omega) (com _ (fun k hk => ?_)), fun q2 => x9_sizeAt (i := w.toNat) c2 (by omega) (com _ (fun k hk => ?_))⟩, fun e => absurd e (by decide)⟩
      · rw [if_pos q]
        refine ⟨fun _ => m_fieldAt (t := t) (i := w.toNat) hv ht (by omega) ?_, fun e => absurd e q2⟩
        rw [← i1]; exact hk
      · rw [if_pos q]
        refine ⟨fun e => absurd q2 e, fun _ => m_fieldAt (t := t) (i := w.toNat) hv ht (by omega) ?_⟩
        refine m_sizeOf (f := (M 10 (64 * t + w.toNat % 64)).toNat) (by omega) (by omega) hL ?_
        rw [← i3]; exact hk
    · rw [if_neg q]
      refine ⟨fun e => absurd rfl e, fun _ => com _ (fun k hk => ?_)⟩
      rw [if_neg q]
      exact hk
  unfold w_X11_entry w_X11_tableOf
  refine ⟨fun q => bad (by omega), fun q => ⟨fun q2 => bad (by omega), fun q2 => ⟨fun q3 => bad (by omega), fun q3 => ⟨fun q4 => bad (by omega), fun q4 => ⟨fun q5 => ?_, fun q5 => bad (by omega)⟩⟩⟩⟩⟩
  refine ⟨fun e => ⟨fun e2 => (by cases e2), fun o1 e1 => ?_⟩, fun e => ⟨fun e2 => (by cases e2), fun o1 e1 => ?_⟩⟩
  · cases e1
    exact go 385 1 lo2 n2 (by omega) (by decide) (by omega) q5 hX
  · cases e1
    exact go 371 0 lo n (by omega) (by decide) (by omega) q5 hE
theorem o_letter {u : Nat} {C M : hq_M} (h : JJ u C M) (v w : Int) : w_X11_letter v w C (fun z => w_X12_letter v w M (fun z' => z = z')) := by
  obtain ⟨-, -, -, ⟨l1, l2, l3, l4, l5⟩, -⟩ := h
  unfold w_X11_letter
  refine x1_at (by omega) ?_
  rw [l1]
  by_cases q : 0 ≤ v ∧ v < M 0 25
  · rw [if_pos q]
    refine ⟨fun e => (by cases e), fun o e => ?_⟩
    cases e
    obtain ⟨s1, s2, ⟨t1, t2, t3, t4, t5⟩, b1, b2, b3, b4, b5, -⟩ := l5 v.toNat (by omega)
    have r1 : C (170 + 5 * v.toNat + 3) 1 = M 13 v.toNat := by
      rw [show 170 + 5 * v.toNat + 3 = 173 + 5 * v.toNat by omega, s2.1, sg_len]; omega
    have r2 : C (170 + 5 * v.toNat + 1) 1 = M 17 v.toNat := by
      rw [show 170 + 5 * v.toNat + 1 = 171 + 5 * v.toNat by omega, s1.1, sg_len]; omega
    have key : ∀ x : Int, (x = if w = 0 then M 13 v.toNat else if w = 1 then M 11 v.toNat else if w = 2 then M 12 v.toNat else if w = 3 then M 14 v.toNat else if w = 4 then M 15 v.toNat else if w = 5 then M 16 v.toNat else if w = 6 then M 17 v.toNat else -1) → w_X12_letter v w M (fun z' => x = z') := by
      intro x hx
      unfold w_X12_letter
      refine m_isLetter l2 ?_
      rw [if_pos q]
      refine ⟨fun _ => ⟨fun e => ⟨by omega, ?_⟩, fun e => ⟨by omega, ?_⟩, fun e => ⟨by omega, ?_⟩, fun e => ⟨by omega, ?_⟩, fun e => ⟨by omega, ?_⟩, fun e => ⟨by omega, fun e2 => ?_, fun e2 => ?_⟩, fun e => ⟨by omega, ?_⟩, fun e => ?_⟩, fun e => absurd e (by decide)⟩
      · rw [hx, if_pos e]
      · rw [hx, if_neg (by omega), if_pos e]
      · rw [hx, if_neg (by omega), if_neg (by omega), if_pos e]
      · rw [hx, if_neg (by omega), if_neg (by omega), if_neg (by omega), if_pos e]
      · rw [hx, if_neg (by omega), if_neg (by omega), if_neg (by omega), if_neg (by omega), if_pos e]
      · rw [hx, if_neg (by omega), if_neg (by omega), if_neg (by omega), if_neg (by omega), if_neg (by omega), if_pos e]; omega
      · rw [hx, if_neg (by omega), if_neg (by omega), if_neg (by omega), if_neg (by omega), if_neg (by omega), if_pos e]; omega
      · rw [hx, if_neg (by omega), if_neg (by omega), if_neg (by omega), if_neg (by omega), if_neg (by omega), if_neg (by omega), if_pos e]
      · rw [hx, if_neg (by omega), if_neg (by omega), if_neg (by omega), if_neg (by omega), if_neg (by omega), if_neg (by omega), if_neg (by omega)]
    refine ⟨fun e => key _ ?_, fun e => key _ ?_, fun e => key _ ?_, fun e => key _ ?_, fun e => key _ ?_, fun e => ⟨fun e2 => key _ ?_, fun e2 => key _ ?_⟩, fun e => key _ ?_, fun e => key _ ?_⟩
    · rw [if_pos e, r1]
    · rw [if_neg (by omega), if_pos e, t1]
    · rw [if_neg (by omega), if_neg (by omega), if_pos e, t2]
    · rw [if_neg (by omega), if_neg (by omega), if_neg (by omega), if_pos e, t3]
    · rw [if_neg (by omega), if_neg (by omega), if_neg (by omega), if_neg (by omega), if_pos e, t4]
    · rw [if_neg (by omega), if_neg (by omega), if_neg (by omega), if_neg (by omega), if_neg (by omega), if_pos e]; omega
    · rw [if_neg (by omega), if_neg (by omega), if_neg (by omega), if_neg (by omega), if_neg (by omega), if_pos e]; omega
    · rw [if_neg (by omega), if_neg (by omega), if_neg (by omega), if_neg (by omega), if_neg (by omega), if_neg (by omega), if_pos e, r2]
    · rw [if_neg (by omega), if_neg (by omega), if_neg (by omega), if_neg (by omega), if_neg (by omega), if_neg (by omega), if_neg (by omega)]
  · rw [if_neg q]
    refine ⟨fun _ => ?_, fun o e => (by cases e)⟩
    unfold w_X12_letter
    refine m_isLetter l2 ?_
    rw [if_neg q]
    exact ⟨fun e => absurd rfl e, fun _ => rfl⟩
theorem o_got {u : Nat} {C M : hq_M} (h : JJ u C M) (v w : Int) : w_X11_got v w C (fun z => w_X12_got v w M (fun z' => z = z')) := by
  obtain ⟨-, -, -, ⟨l1, l2, l3, l4, l5⟩, -⟩ := h
  unfold w_X11_got
  refine x1_at (by omega) ?_
  rw [l1]
  by_cases q : 0 ≤ v ∧ v < M 0 25
  · rw [if_pos q]
    refine ⟨fun e => (by cases e), fun o e => ?_⟩
    cases e
    obtain ⟨s1, s2, ⟨t1, t2, t3, t4, t5⟩, b1, b2, b3, b4, b5, -⟩ := l5 v.toNat (by omega)
    have r2 : C (170 + 5 * v.toNat + 1) 1 = M 17 v.toNat := by
      rw [show 170 + 5 * v.toNat + 1 = 171 + 5 * v.toNat by omega, s1.1, sg_len]; omega
    rw [r2, t4]
    have key : ∀ x : Int, (x = if 0 ≤ w ∧ w < M 17 v.toNat then (if M 15 v.toNat = 2 then M 18 (6 * v.toNat + w.toNat) else -2) else -1) → w_X12_got v w M (fun z' => x = z') := by
      intro x hx
      unfold w_X12_got
      refine m_isLetter l2 ?_
      rw [if_pos q]
      refine ⟨fun e => absurd e (by decide), fun _ => ⟨by omega, ⟨by omega, by omega⟩, m_in ?_⟩⟩
      by_cases q2 : 0 ≤ w ∧ w < M 17 v.toNat
      · rw [if_pos q2] at hx
        rw [if_pos (by omega)]
        refine ⟨fun _ => ⟨by omega, fun q3 => ?_, fun q3 => ⟨⟨by omega, by omega⟩, ⟨by omega, by omega⟩, ⟨by omega, by omega⟩, ?_⟩⟩, fun e => absurd e (by decide)⟩
        · rw [hx, if_neg q3]
        · rw [hx, if_pos q3, show (6 * v + w).toNat = 6 * v.toNat + w.toNat by omega]
      · rw [if_neg q2] at hx
        rw [if_neg (by omega)]
        exact ⟨fun e => absurd rfl e, fun _ => hx⟩
    refine ⟨fun q2 => key _ (by rw [if_neg (by omega)]), fun q2 => ⟨fun q3 => ⟨fun q4 => key _ (by rw [if_pos (by omega), if_neg q4]), fun q4 => ?_⟩, fun q3 => key _ (by rw [if_neg (by omega)])⟩⟩
    have hc := (capL v.toNat (by omega)).1
    refine x6_at (a := 170 + 5 * v.toNat + 1) (by rw [show 170 + 5 * v.toNat + 1 = 171 + 5 * v.toNat by omega]; exact s1) (by rw [show 170 + 5 * v.toNat + 1 + 1 = 171 + 5 * v.toNat + 1 by omega, hc, sg_len]; omega) (key _ ?_)
    rw [sg_len, if_pos (show 0 ≤ w ∧ w < ((M 17 v.toNat).toNat : Int) by omega), sg_gd (by omega), if_pos (by omega), if_pos q4]
  · rw [if_neg q]
    refine ⟨fun _ => ?_, fun o e => (by cases e)⟩
    unfold w_X12_got
    refine m_isLetter l2 ?_
    rw [if_neg q]
    exact ⟨fun _ => rfl, fun e => absurd rfl e⟩
theorem o_count {u : Nat} {C M : hq_M} (h : JJ u C M) (v : Int) : w_X11_count v C (fun z => w_X12_count v M (fun z' => z = z')) := by
  obtain ⟨⟨t1, t2, t3, -⟩, ⟨d1, d2, d3, -⟩, ⟨o, ho, s1, -, -, hS⟩, ⟨l1, l2, l3, l4, l5⟩, -, -, ⟨D, m, hQ, -⟩, -, ⟨r1, -, r3, -⟩, hK⟩ := h
  obtain ⟨-, -, -, sP, sQ, s2, s3, -⟩ := hS
  have e1 : C 1 1 = M 0 9 := by rw [t3.1, sg_len]; omega
  have e3 : C 3 1 = M 0 37 := by rw [d3.1, sg_len]; omega
  have e376 : C 376 1 = M 0 43 := by rw [hQ.2.1.2.2.1, sg_len]; have := hQ.2.1.1; omega
  have e389 : C 389 1 = M 0 52 := by rw [r3.1, sg_len]; omega
  have key : ∀ x : Int, (x = if v = 0 then M 0 0 else if v = 1 then M 0 1 else if v = 2 then M 0 2 else if v = 3 then M 0 3 else if v = 4 then M 0 23 else if v = 5 then M 0 24 else if v = 6 then M 0 25 else if v = 7 then ((cn (fun i => decide (M 15 i = 1)) (M 0 25).toNat : Nat) : Int) else if v = 8 then ((cn (fun i => decide (M 16 i = 0) && decide (M 0 23 < M 11 i)) (M 0 25).toNat : Nat) : Int) else if v = 9 then M 0 43 else if v = 10 then M 0 52 else if v = 11 then M 0 37 else if v = 12 then M 0 9 else -1) → w_X12_count v M (fun z' => x = z') := by
    intro x hx
    unfold w_X12_count
    refine ⟨fun e => ?_, fun e => ?_, fun e => ?_, fun e => ?_, fun e => ?_, fun e => ?_, fun e => ?_, fun e => m_waitingMany l2 ?_, fun e => m_risks l2 ?_, fun e => ?_, fun e => ?_, fun e => ?_, fun e => ?_, fun e => ?_⟩
    all_goals first | (subst e; exact hx) | (rw [hx]; repeat rw [if_neg (by omega)])
  unfold w_X11_count
  refine ⟨fun e => fun o2 e2 => key _ ?_, fun e => fun o2 e2 => key _ ?_, fun e => fun o2 e2 => key _ ?_, fun e => fun o2 e2 => key _ ?_, fun e => key _ ?_, fun e => key _ ?_, fun e => key _ ?_, fun e => x1_blocked (by omega) (key _ ?_), fun e => x1_atRisk (by omega) (key _ ?_), fun e => key _ ?_, fun e => key _ ?_, fun e => key _ ?_, fun e => key _ ?_, fun e => key _ ?_⟩
  · have : o2 = o := by omega
    subst e this
    exact sP.1
  · have : o2 = o := by omega
    subst e this
    exact sQ.1
  · have : o2 = o := by omega
    subst e this
    exact s2
  · have : o2 = o := by omega
    subst e this
    exact s3
  · subst e; exact hK.1
  · subst e; exact hK.2.1
  · subst e; exact l1
  · subst e
    show ((cn (fun i => decide (C (170 + 5 * i) 6 = 1)) (C 168 1).toNat : Nat) : Int) = ((cn (fun i => decide (M 15 i = 1)) (M 0 25).toNat : Nat) : Int)
    rw [l1, cn_cg (fun i hi => by rw [(l5 i hi).2.2.1.2.2.2.1])]
  · subst e
    show ((cn (fun i => decide (C (170 + 5 * i) 7 = 0) && decide (C 370 5 < C (170 + 5 * i) 3)) (C 168 1).toNat : Nat) : Int) = ((cn (fun i => decide (M 16 i = 0) && decide (M 0 23 < M 11 i)) (M 0 25).toNat : Nat) : Int)
    rw [l1, hK.1, cn_cg (fun i hi => by rw [(l5 i hi).2.2.1.2.2.2.2, (l5 i hi).2.2.1.1])]
  · subst e; exact e376
  · subst e; exact e389
  · subst e; exact e3
  · subst e; exact e1
  · repeat rw [if_neg (by omega)]
theorem o_spells {u : Nat} {C M : hq_M} (h : JJ u C M) (v w x y : Int) : w_X11_spells v w x y C (fun z => w_X12_spells v w x y M (fun z' => z = z')) := by
  obtain ⟨-, -, ⟨o, ho, s1, -, -, hS⟩, -⟩ := h
  obtain ⟨h0, h1, hL, sP, sQ, -⟩ := hS
  have pc7 : PC (o + 1) 7 := by rcases ho with rfl | rfl; exact PC_9; exact PC_89
  have pc8 : PC (o + 38) 8 := by rcases ho with rfl | rfl; exact PC_46; exact PC_126
  have key : ∀ z : Int, (z = if (0 ≤ v ∧ v ≤ 1) ∧ (0 ≤ w ∧ w < (if v = 0 then M 0 0 else M 0 1)) ∧ (0 ≤ x ∧ x ≤ 1) ∧ -1 ≤ y then (if y = -1 then (if x = 0 then M 1 (8 * v + w).toNat else M 2 (8 * v + w).toNat) else if x = 0 then (if y < M 1 (8 * v + w).toNat then M 3 (6 * (8 * v + w).toNat + y.toNat) else -9) else (if y < M 2 (8 * v + w).toNat then M 4 (6 * (8 * v + w).toNat + y.toNat) else -9)) else -1) → w_X12_spells v w x y M (fun z' => z = z') := by
    intro z hz
    unfold w_X12_spells
    refine m_in ?_
    have g28 : ∀ t : Int, t = (if v = 0 then M 0 0 else M 0 1) → 0 ≤ t ∧ t ≤ 8 → (0 ≤ v ∧ v ≤ 1) → b_X12_spells_28 v w x y w 0 t (fun z' => z = z') M := by
      intro t ht htb hv
      unfold b_X12_spells_28
      refine ⟨⟨by omega, by omega⟩, m_in ?_⟩
      rw [← ht] at hz
      by_cases q : 0 ≤ w ∧ w < t
      · rw [if_pos (by omega)]
        refine ⟨fun e => absurd e (by decide), fun _ => m_in ?_⟩
        by_cases q2 : 0 ≤ x ∧ x ≤ 1
        · rw [if_pos q2]
          refine ⟨fun e => absurd e (by decide), fun _ => ⟨fun q3 => ⟨⟨by omega, by omega⟩, ⟨by omega, by omega⟩, fun x6 e6 => ?_⟩, fun q3 => by rw [hz, if_neg (by omega)]⟩⟩
          rw [if_pos ⟨hv, q, q2, q3⟩, ← e6] at hz
          have hr := hL x6.toNat (by omega)
          unfold b_X12_spells_84
          refine ⟨fun q4 => ⟨by omega, fun q5 => ⟨fun q6 => ⟨fun _ => ⟨⟨by omega, by omega⟩, ⟨by omega, by omega⟩, ⟨by omega, by omega⟩, ?_⟩, fun e => absurd e q4⟩, fun q6 => ?_⟩, fun q5 => ?_⟩, fun q4 => ⟨by omega, fun q5 => ⟨fun q6 => ⟨fun e => absurd q4 e, fun _ => ⟨⟨by omega, by omega⟩, ⟨by omega, by omega⟩, ⟨by omega, by omega⟩, ?_⟩⟩, fun q6 => ?_⟩, fun q5 => ?_⟩⟩
          · rw [hz, if_neg (by omega), if_neg q4, if_pos q6, show (6 * x6 + y).toNat = 6 * x6.toNat + y.toNat by omega]
          · rw [hz, if_neg (by omega), if_neg q4, if_neg q6]
          · rw [hz, if_pos (by omega), if_neg q4]
          · rw [hz, if_neg (by omega), if_pos q4, if_pos q6, show (6 * x6 + y).toNat = 6 * x6.toNat + y.toNat by omega]
          · rw [hz, if_neg (by omega), if_pos q4, if_neg q6]
          · rw [hz, if_pos (by omega), if_pos q4]
        · rw [if_neg q2]
          exact ⟨fun _ => by rw [hz, if_neg (by omega)], fun e => absurd rfl e⟩
      · rw [if_neg (by omega)]
        exact ⟨fun _ => by rw [hz, if_neg (by omega)], fun e => absurd rfl e⟩
    by_cases q : 0 ≤ v ∧ v ≤ 1
    · rw [if_pos q]
      refine ⟨fun e => absurd e (by decide), fun _ => ⟨fun e => g28 _ (by rw [if_neg e]) (by omega) q, fun e => g28 _ (by rw [if_pos e]) (by omega) q⟩⟩
    · rw [if_neg q]
      exact ⟨fun _ => by rw [hz, if_neg (by omega)], fun e => absurd rfl e⟩
  have go : ∀ (P c f : Nat) (n : Int) (a b : Nat → List Int), PC P c → Pr C P n a b → 0 ≤ n ∧ n ≤ c → n = (if v = 0 then M 0 0 else M 0 1) → (0 ≤ v ∧ v ≤ 1) → (0 ≤ x ∧ x ≤ 1) → -1 ≤ y → (0 ≤ w ∧ w < n → a w.toNat = nm M (8 * v + w).toNat ∧ b w.toNat = vl M (8 * v + w).toNat ∧ (8 * v + w).toNat < 32) → w_X3_at P w C (fun q4 => (q4 = none → b_X11_spells_55 x y none (fun z => w_X12_spells v w x y M (fun z' => z = z')) C) ∧ (∀ o3, q4 = some o3 → b_X11_spells_55 x y (some o3) (fun z => w_X12_spells v w x y M (fun z' => z = z')) C)) := by
    intro P c f n a b hc hP hn hne hv hx hy hf
    refine x3_at hc hP.1 hn.2 ?_
    by_cases q : 0 ≤ w ∧ w < n
    · rw [if_pos q]
      refine ⟨fun e => (by cases e), fun o3 e => ?_⟩
      cases e
      obtain ⟨f1, f2, f3⟩ := hf q
      obtain ⟨p1, p2, p3, p4⟩ := hP.2 w.toNat (by omega)
      obtain ⟨c1, c2⟩ := hc.2.2 w.toNat (by omega)
      have hr := hL _ f3
      have ln : (nm M (8 * v + w).toNat).length = (M 1 (8 * v + w).toNat).toNat := sg_len _ _ _ _
      have lv : (vl M (8 * v + w).toNat).length = (M 2 (8 * v + w).toNat).toNat := sg_len _ _ _ _
      rw [f1] at p1 p3
      rw [f2] at p2 p4
      unfold b_X11_spells_55
      refine ⟨fun e => (by cases e), fun o1 e => ?_⟩
      cases e
      unfold b_X11_spells_81
      refine ⟨fun q4 => ⟨fun q5 => x6_at p2 (by omega) (key _ ?_), fun q5 => key _ ?_⟩, fun q4 => ⟨fun q5 => x6_at p1 (by omega) (key _ ?_), fun q5 => key _ ?_⟩⟩
      · rw [lv, if_pos (show (0 ≤ v ∧ v ≤ 1) ∧ (0 ≤ w ∧ w < (if v = 0 then M 0 0 else M 0 1)) ∧ (0 ≤ x ∧ x ≤ 1) ∧ -1 ≤ y from ⟨hv, by rw [← hne]; exact q, hx, hy⟩), if_neg q5, if_neg q4]
        by_cases q6 : y < M 2 (8 * v + w).toNat
        · rw [if_pos (by omega), if_pos q6]
          exact sg_gd (by omega)
        · rw [if_neg (by omega), if_neg q6]
      · rw [p2.1, lv, if_pos (show (0 ≤ v ∧ v ≤ 1) ∧ (0 ≤ w ∧ w < (if v = 0 then M 0 0 else M 0 1)) ∧ (0 ≤ x ∧ x ≤ 1) ∧ -1 ≤ y from ⟨hv, by rw [← hne]; exact q, hx, hy⟩), if_pos q5, if_neg q4]
        omega
      · rw [ln, if_pos (show (0 ≤ v ∧ v ≤ 1) ∧ (0 ≤ w ∧ w < (if v = 0 then M 0 0 else M 0 1)) ∧ (0 ≤ x ∧ x ≤ 1) ∧ -1 ≤ y from ⟨hv, by rw [← hne]; exact q, hx, hy⟩), if_neg q5, if_pos q4]
        by_cases q6 : y < M 1 (8 * v + w).toNat
        · rw [if_pos (by omega), if_pos q6]
          exact sg_gd (by omega)
        · rw [if_neg (by omega), if_neg q6]
      · rw [p1.1, ln, if_pos (show (0 ≤ v ∧ v ≤ 1) ∧ (0 ≤ w ∧ w < (if v = 0 then M 0 0 else M 0 1)) ∧ (0 ≤ x ∧ x ≤ 1) ∧ -1 ≤ y from ⟨hv, by rw [← hne]; exact q, hx, hy⟩), if_pos q5, if_pos q4]
        omega
    · rw [if_neg q]
      have hbad : b_X11_spells_55 x y none (fun z => w_X12_spells v w x y M (fun z' => z = z')) C := by
        unfold b_X11_spells_55
        refine ⟨fun _ => key _ ?_, fun o e => (by cases e)⟩
        rw [if_neg (fun e => q (by rw [hne]; exact e.2.1))]
      exact ⟨fun _ => hbad, fun o3 e => (by cases e)⟩
  unfold w_X11_spells
  refine ⟨fun q => key _ (by rw [if_neg (by omega)]), fun q => ⟨fun q2 => key _ (by rw [if_neg (by omega)]), fun q2 => ⟨fun q3 => key _ (by rw [if_neg (by omega)]), fun q3 => ⟨fun q4 => key _ (by rw [if_neg (by omega)]), fun q4 => ⟨fun q5 => ⟨fun q6 => fun o2 e2 => ?_, fun q6 => fun o2 e2 => ?_⟩, fun q5 => key _ (by rw [if_neg (by omega)])⟩⟩⟩⟩⟩
  · have : o2 = o := by omega
    subst this
    refine go (o2 + 38) 8 0 (M 0 1) _ _ pc8 sQ (by omega) (by rw [if_neg q6]) (by omega) (by omega) q5 (fun hw => ?_)
    rw [show (8 * v + w).toNat = 8 + w.toNat by omega]
    exact ⟨rfl, rfl, by omega⟩
  · have : o2 = o := by omega
    subst this
    refine go (o2 + 1) 7 0 (M 0 0) _ _ pc7 sP (by omega) (by rw [if_pos q6]) (by omega) (by omega) q5 (fun hw => ?_)
    rw [show (8 * v + w).toNat = w.toNat by omega]
    exact ⟨rfl, rfl, by omega⟩
