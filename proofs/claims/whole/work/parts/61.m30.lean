/-! ===== the mathematics, part 30: sends, its pieces ===== -/
theorem x0_begin {L c W : Nat} {C : hq_M} {F : List Int} {kk : hq_M → Prop} (hL : LW W L c) (h3 : Rw C 3 F) (hF : F.length ≤ 6) (hk : ∀ C', Rw C' (L + 1) F → Rw C' (L + 3) [] → (∀ j, 3 ≤ j → j ≤ 7 → C' L j = 0) → (∀ o j, ¬ ((L + 1 ≤ o ∧ o ≤ L + 4) ∨ (o = L ∧ 3 ≤ j ∧ j ≤ 7)) → C' o j = C o j) → kk C') : w_X0_begin L 3 C kk := by
  have hcp := (capLW hL).1
  have hL' := hL
  unfold LW at hL'
  unfold w_X0_begin
  refine x6_empty (fun C1 r1 f1 => ?_)
  refine x6_addAll r1 (h3.cg (f1 _ _ (by omega) (by omega)) (fun j => f1 _ _ (by omega) (by omega))) (by omega) (by rw [hcp, List.length_nil]; omega) (by rw [capD]; omega) (fun C2 r2 f2 => ?_)
  rw [List.nil_append] at r2
  refine x6_empty (fun C3 r3 f3 => ?_)
  intro C4 e4 C5 e5 C6 e6 C7 e7 C8 e8
  have g : ∀ o j, ¬ (o = L ∧ 3 ≤ j ∧ j ≤ 7) → C8 o j = C3 o j := fun o j ho => by rw [e8, hq_up_n _ _ (by omega), e7, hq_up_n _ _ (by omega), e6, hq_up_n _ _ (by omega), e5, hq_up_n _ _ (by omega), e4, hq_up_n _ _ (by omega)]
  refine hk C8 ?_ (r3.cg (g _ _ (by omega)) (fun j => g _ _ (by omega))) (fun j h1 h2 => ?_) (fun o j ho => ?_)
  · exact r2.cg (by rw [g _ _ (by omega), f3 _ _ (by omega) (by omega)]) (fun j => by rw [g _ _ (by omega), f3 _ _ (by omega) (by omega)])
  · have : j = 3 ∨ j = 4 ∨ j = 5 ∨ j = 6 ∨ j = 7 := by omega
    rw [e8, e7, e6, e5, e4]
    rcases this with rfl | rfl | rfl | rfl | rfl <;> simp [hq_up]
  · rw [g _ _ (by omega), f3 _ _ (by omega) (by omega), f2 _ _ (by omega) (by omega), f1 _ _ (by omega) (by omega)]
def boldv (M : hq_M) (v : Int) : Int := if v ≤ 0 then 0 else if M 0 3 ≤ ((cn (fun i => decide (M 16 i = 0) && decide (M 0 23 < M 11 i)) (M 0 25).toNat : Nat) : Int) then 0 else 1
theorem x11_may {C M : hq_M} {v : Int} {o : Nat} {k : Int → Prop} (hN : 0 ≤ M 0 25 ∧ M 0 25 ≤ 40) (h168 : C 168 1 = M 0 25) (hs : ∀ i, i < (M 0 25).toNat → C (170 + 5 * i) 7 = M 16 i ∧ C (170 + 5 * i) 3 = M 11 i) (h9 : C 0 9 = (o : Int)) (h3 : C o 3 = M 0 3) (h5 : C 370 5 = M 0 23) (hk : k (boldv M v)) : w_X11_mayReferToAny v C k := by
  unfold w_X11_mayReferToAny
  unfold boldv at hk
  refine ⟨fun q => by rwa [if_pos q] at hk, fun q => x1_atRisk (by omega) ?_⟩
  rw [if_neg q] at hk
  intro o4 e4
  have : o = o4 := by omega
  subst this
  have ec : cn (fun i => decide (C (170 + 5 * i) 7 = 0) && decide (C 370 5 < C (170 + 5 * i) 3)) (C 168 1).toNat = cn (fun i => decide (M 16 i = 0) && decide (M 0 23 < M 11 i)) (M 0 25).toNat := by
    rw [h168]
    exact cn_cg (fun i hi => by rw [(hs i hi).1, (hs i hi).2, h5])
  rw [ec, h3]
  exact ⟨fun q2 => by rwa [if_pos q2] at hk, fun q2 => by rwa [if_neg q2] at hk⟩
theorem m_makes {M : hq_M} {v : Int} {k : Int → hq_M → Prop} (hN : 0 ≤ M 0 25 ∧ M 0 25 ≤ 40) (hk : b_X12_makes_30 v (boldv M v) k (hq_up (hq_up M 0 39 0) 0 41 0)) : w_X12_makes v M k := by
  unfold w_X12_makes
  intro M1 e1 M2 e2
  subst e1 e2
  have g : ∀ o j, ¬ (o = 0 ∧ (j = 39 ∨ j = 41)) → hq_up (hq_up M 0 39 0) 0 41 0 o j = M o j := fun o j ho => by rw [hq_up_n _ _ (by omega), hq_up_n _ _ (by omega)]
  unfold boldv at hk
  refine ⟨fun q => ?_, fun q => m_risks (by rw [g _ _ (by omega)]; exact hN) ?_⟩
  · rw [if_pos q] at hk
    exact hk
  · rw [if_neg q] at hk
    have ec : cn (fun i => decide (hq_up (hq_up M 0 39 0) 0 41 0 16 i = 0) && decide (hq_up (hq_up M 0 39 0) 0 41 0 0 23 < hq_up (hq_up M 0 39 0) 0 41 0 11 i)) (hq_up (hq_up M 0 39 0) 0 41 0 0 25).toNat = cn (fun i => decide (M 16 i = 0) && decide (M 0 23 < M 11 i)) (M 0 25).toNat := by
      rw [g 0 25 (by omega)]
      exact cn_cg (fun i hi => by rw [g 16 i (by omega), g 0 23 (by omega), g 11 i (by omega)])
    rw [ec, g 0 3 (by omega)]
    exact ⟨fun q2 => by rw [if_pos q2] at hk; exact hk, fun q2 => by rw [if_neg q2] at hk; exact hk⟩
theorem m_sends75 {M : hq_M} {N : Nat} {os ys : List Int} {k136 : hq_M → Prop} {k : Int → hq_M → Prop} (h25 : M 0 25 = (N : Int)) (hN : N < 40) (h13 : M 13 N = ((os ++ ys).length : Int)) (hi : In M os) (hy : Md M ys) (hl : os.length ≤ 12) (hl2 : (os ++ ys).length ≤ 96) (hk : ∀ M', (∀ j, j < (os ++ ys).length → M' 20 (112 * N + j) = gd (os ++ ys) j) → (∀ o j, ¬ (o = 20 ∧ 112 * N ≤ j ∧ j < 112 * N + 112) → M' o j = M o j) → k136 M') : ∃ m, l_X12_sends_75 k136 k m 0 M := by
  refine ⟨(os ++ ys).length + 1, ?_⟩
  have key : ∀ (d i : Nat) (z : Int) (P : hq_M), z = (i : Int) → i + d = (os ++ ys).length → (∀ j, j < i → P 20 (112 * N + j) = gd (os ++ ys) j) → (∀ o j, ¬ (o = 20 ∧ 112 * N ≤ j ∧ j < 112 * N + 112) → P o j = M o j) → l_X12_sends_75 k136 k (d + 1) z P := by
    intro d
    induction d with
    | zero =>
      intro i z P hz hd hlo hF
      rw [l_X12_sends_75, hF 0 25 (by omega), h25, show ((N : Nat) : Int).toNat = N by omega, hF 13 N (by omega), h13]
      exact ⟨⟨by omega, by omega⟩, fun _ => hk P (fun j hj => hlo j (by omega)) hF, fun q => by omega⟩
    | succ d ih =>
      intro i z P hz hd hlo hF
      have hll : (os ++ ys).length = os.length + ys.length := List.length_append
      have step : ∀ t2 : Int, t2 = gd (os ++ ys) i → b_X12_sends_129 z (112 * (N : Int) + z) t2 (fun v2q Mq => l_X12_sends_75 k136 k (d + 1) v2q Mq) k P := by
        intro t2 ht2
        unfold b_X12_sends_129
        rw [show (112 * (N : Int) + z).toNat = 112 * N + i by omega]
        refine ⟨⟨by omega, by omega⟩, fun M2 e2 => ⟨⟨by omega, by omega⟩, fun x3 e3 => ih (i + 1) x3 M2 (by omega) (by omega) (fun j hj => ?_) (fun o j ho => ?_)⟩⟩
        · rw [e2]
          by_cases q : j = i
          · rw [q, up_self, ht2]
          · rw [hq_up_n _ _ (by omega)]; exact hlo j (by omega)
        · rw [e2, hq_up_n _ _ (by omega)]; exact hF o j ho
      rw [l_X12_sends_75, hF 0 25 (by omega), h25, show ((N : Nat) : Int).toNat = N by omega, hF 13 N (by omega), h13, hF 0 49 (by omega), hi.1]
      refine ⟨⟨by omega, by omega⟩, fun q => by omega, fun _ => ⟨⟨by omega, by omega⟩, ⟨by omega, by omega⟩, fun q => ⟨⟨by omega, by omega⟩, ⟨by omega, by omega⟩, ?_⟩, fun q => ⟨⟨by omega, by omega⟩, ?_⟩⟩⟩
      · refine step _ ?_
        obtain ⟨t, ht⟩ : ∃ t, i = os.length + t := ⟨i - os.length, by omega⟩
        rw [show (z - (os.length : Int)).toNat = t by omega, hF 23 t (by omega), hy.2 t (by omega), ht, gd_right]
      · refine step _ ?_
        rw [show z.toNat = i by omega, hF 28 i (by omega), hi.2 i (by omega), gd_left (by omega)]
  exact key _ 0 0 M rfl (by omega) (fun j hj => absurd hj (by omega)) (fun _ _ _ => rfl)
theorem m_sends181 {M : hq_M} {N nd : Nat} {k235 : hq_M → Prop} {k : Int → hq_M → Prop} (h25 : M 0 25 = (N : Int)) (hN : N < 40) (h37 : M 0 37 = (nd : Int)) (hnd : nd ≤ 6) (hk : ∀ M', (∀ j, j < nd → M' 18 (6 * N + j) = M 21 j) → (∀ j, j < nd → M' 19 (6 * N + j) = M 22 j) → (∀ o j, ¬ ((o = 18 ∨ o = 19) ∧ 6 * N ≤ j ∧ j < 6 * N + 6) → M' o j = M o j) → k235 M') : ∃ m, l_X12_sends_181 k235 k m 0 M := by
  refine ⟨nd + 1, ?_⟩
  have key : ∀ (d i : Nat) (z : Int) (P : hq_M), z = (i : Int) → i + d = nd → (∀ j, j < i → P 18 (6 * N + j) = M 21 j) → (∀ j, j < i → P 19 (6 * N + j) = M 22 j) → (∀ o j, ¬ ((o = 18 ∨ o = 19) ∧ 6 * N ≤ j ∧ j < 6 * N + 6) → P o j = M o j) → l_X12_sends_181 k235 k (d + 1) z P := by
    intro d
    induction d with
    | zero =>
      intro i z P hz hd h18 h19 hF
      rw [l_X12_sends_181, hF 0 37 (by omega), h37]
      exact ⟨fun _ => hk P (fun j hj => h18 j (by omega)) (fun j hj => h19 j (by omega)) hF, fun q => by omega⟩
    | succ d ih =>
      intro i z P hz hd h18 h19 hF
      rw [l_X12_sends_181, hF 0 37 (by omega), h37, hF 0 25 (by omega), h25, show z.toNat = i by omega, show (6 * (N : Int) + z).toNat = 6 * N + i by omega, hF 21 i (by omega)]
      refine ⟨fun q => by omega, fun _ => ⟨⟨by omega, by omega⟩, ⟨by omega, by omega⟩, ⟨by omega, by omega⟩, ⟨by omega, by omega⟩, fun M8 e8 => ?_⟩⟩
      have s8 : M8 0 25 = (N : Int) := by rw [e8, hq_up_n _ _ (by omega), hF 0 25 (by omega)]; exact h25
      have t8 : M8 22 i = M 22 i := by rw [e8, hq_up_n _ _ (by omega), hF 22 i (by omega)]
      rw [s8, t8, show (6 * (N : Int) + z).toNat = 6 * N + i by omega]
      refine ⟨⟨by omega, by omega⟩, ⟨by omega, by omega⟩, ⟨by omega, by omega⟩, ⟨by omega, by omega⟩, fun M15 e15 => ⟨⟨by omega, by omega⟩, fun x16 e16 => ih (i + 1) x16 M15 (by omega) (by omega) (fun j hj => ?_) (fun j hj => ?_) (fun o j ho => ?_)⟩⟩
      · rw [e15, hq_up_n _ _ (by omega), e8]
        by_cases q : j = i
        · rw [q, up_self]
        · rw [hq_up_n _ _ (by omega)]; exact h18 j (by omega)
      · rw [e15]
        by_cases q : j = i
        · rw [q, up_self]
        · rw [hq_up_n _ _ (by omega), e8, hq_up_n _ _ (by omega)]; exact h19 j (by omega)
      · rw [e15, hq_up_n _ _ (by omega), e8, hq_up_n _ _ (by omega)]; exact hF o j ho
  exact key _ 0 0 M rfl (by omega) (fun j hj => absurd hj (by omega)) (fun j hj => absurd hj (by omega)) (fun _ _ _ => rfl)
theorem WE.c {C M : hq_M} {W o lo n D m c c' B : Nat} (h : WE C M W o lo n D m c B) (h39 : M 0 39 = 0) (hc : c' ≤ 40) : WE C M W o lo n D m c' B := by
  obtain ⟨⟨ho, hW, hc40, b1, b2, b3⟩, h4, hS, hT, hH, hr⟩ := h
  refine ⟨⟨ho, hW, hc, b1, b2, b3⟩, h4, hS, hT, fun i a b => ?_, hr⟩
  obtain ⟨g1, g2⟩ := hH i a b
  refine ⟨g1, fun k hk => ?_⟩
  rw [g2 k hk]
  unfold hd
  rw [mr_rest h39, Bool.and_false, Bool.and_false]
