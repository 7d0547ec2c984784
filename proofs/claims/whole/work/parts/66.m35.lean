/-! ===== the mathematics, part 35: tells, the text in tokens; the reference ===== -/
def hre (T : List Int) (b e : Nat) : Nat := if b = T.length then b else if b < e then e else b + 1
def tkn (T : List Int) (b e : Nat) : Int := if b = T.length then -1 else if b < e then -2 else if gd T b = 61 ∨ gd T b = 59 then gd T b else 0
def TxM (T : List Int) (M : hq_M) : Prop := M 0 9 = (T.length : Int) ∧ (∀ i, i < T.length → M 5 i = gd T i) ∧ T.length ≤ 200 ∧ ∀ i, i < T.length → 0 ≤ gd T i ∧ gd T i ≤ 255
def TkM (T : List Int) (M : hq_M) (b e : Nat) : Prop := M 0 11 = (b : Int) ∧ M 0 10 = (hre T b e : Int) ∧ M 0 12 = tkn T b e
theorem TxM.cg {T : List Int} {M M' : hq_M} (h : TxM T M) (hM : ∀ q j, q = 5 ∨ (q = 0 ∧ j = 9) → M' q j = M q j) : TxM T M' := ⟨by rw [hM _ _ (by omega)]; exact h.1, fun i hi => by rw [hM _ _ (by omega)]; exact h.2.1 i hi, h.2.2⟩
theorem TkM.cg {T : List Int} {M M' : hq_M} {b e : Nat} (h : TkM T M b e) (hM : ∀ q j, q = 0 ∧ 10 ≤ j ∧ j ≤ 12 → M' q j = M q j) : TkM T M' b e := ⟨by rw [hM _ _ (by omega)]; exact h.1, by rw [hM _ _ (by omega)]; exact h.2.1, by rw [hM _ _ (by omega)]; exact h.2.2⟩
theorem m_isFigure {v : Int} {M : hq_M} {k : Int → Prop} (hk : k (if 48 ≤ v ∧ v ≤ 57 then 1 else 0)) : w_X12_isFigure v M k := by
  unfold w_X12_isFigure
  exact m_in hk
theorem m_isSmall {v : Int} {M : hq_M} {k : Int → Prop} (hk : k (if 97 ≤ v ∧ v ≤ 122 then 1 else 0)) : w_X12_isSmall v M k := by
  unfold w_X12_isSmall
  exact m_in hk
theorem m_take {M : hq_M} {T : List Int} {p b e : Nat} {kk : hq_M → Prop} (hT : TxM T M) (h10 : M 0 10 = (p : Int)) (hN : Nx T p b e) (hk : ∀ M', TkM T M' b e → (∀ o j, ¬ (o = 0 ∧ 10 ≤ j ∧ j ≤ 12) → M' o j = M o j) → kk M') : w_X12_take M kk := by
  obtain ⟨hT9, hT5, hl, hx⟩ := hT
  obtain ⟨⟨n1, n2, n3, n4⟩, ⟨e1, e2, e3, e4⟩⟩ := hN
  unfold w_X12_take
  refine ⟨b - p + 1, ?_⟩
  -- behind the spaces
  have fin : ∀ P : hq_M, P 0 10 = (b : Int) → (∀ o j, ¬ (o = 0 ∧ j = 10) → P o j = M o j) → (∀ M3 : hq_M, M3 = hq_up P 0 11 (P 0 10) → (¬ (M3 0 10) = (M3 0 9) → (0 ≤ (M3 0 10) ∧ (M3 0 10) < 200) ∧ ∀ x9 : Int, x9 = M3 5 (M3 0 10).toNat → (x9 = 61 → b_X12_take_86 x9 kk M3) ∧ (¬ x9 = 61 → (¬ x9 = 59 → b_X12_take_91 x9 0 kk M3) ∧ (x9 = 59 → b_X12_take_86 x9 kk M3))) ∧ ((M3 0 10) = (M3 0 9) → ∀ M10 : hq_M, M10 = hq_up M3 0 12 (-1) → kk M10)) := by
    intro P p10 fP M3 e3'
    have f3 : ∀ o j, ¬ (o = 0 ∧ (j = 10 ∨ j = 11)) → M3 o j = M o j := fun o j ho => by rw [e3', hq_up_n _ _ (by omega), fP _ _ (by omega)]
    have s10 : M3 0 10 = (b : Int) := by rw [e3', hq_up_n _ _ (by omega)]; exact p10
    have s11 : M3 0 11 = (b : Int) := by rw [e3', up_self]; exact p10
    rw [s10, f3 0 9 (by omega), hT9]
    refine ⟨fun q => ⟨⟨by omega, by omega⟩, fun x9 ex9 => ?_⟩, fun q => fun M10 e10 => hk M10 ⟨by rw [e10, hq_up_n _ _ (by omega)]; exact s11, ?_, ?_⟩ (fun o j ho => by rw [e10, hq_up_n _ _ (by omega), f3 _ _ (by omega)])⟩
    · have hbn : b < T.length := by omega
      rw [show ((b : Nat) : Int).toNat = b by omega, f3 5 b (by omega), hT5 b hbn] at ex9
      subst ex9
      have a91 : ∀ t1 : Int, t1 = (if gd T b = 61 ∨ gd T b = 59 then gd T b else 0) → b_X12_take_91 (gd T b) t1 kk M3 := by
        intro t1 ht1
        unfold b_X12_take_91
        intro M1 em1
        have m10 : M1 0 10 = (b : Int) := by rw [em1, hq_up_n _ _ (by omega)]; exact s10
        rw [m10]
        refine ⟨⟨by omega, by omega⟩, fun M4 em4 => ?_⟩
        have f4 : ∀ o j, ¬ (o = 0 ∧ (10 ≤ j ∧ j ≤ 12)) → M4 o j = M o j := fun o j ho => by rw [em4, hq_up_n _ _ (by omega), em1, hq_up_n _ _ (by omega), f3 _ _ (by omega)]
        have t10 : M4 0 10 = ((b + 1 : Nat) : Int) := by rw [em4, up_self]; omega
        have t11 : M4 0 11 = (b : Int) := by rw [em4, hq_up_n _ _ (by omega), em1, hq_up_n _ _ (by omega)]; exact s11
        have t12 : M4 0 12 = t1 := by rw [em4, hq_up_n _ _ (by omega), em1, up_self]
        have piece : aln (gd T b) → b_X12_take_118 kk M4 := by
          intro hal
          have hbe : b < e := by
            rcases Nat.lt_or_ge b e with h | h
            · exact h
            · have : e = b := by omega
              rw [this] at e4
              rcases e4 with h4 | h4
              · omega
              · exact absurd hal h4
          unfold b_X12_take_118
          intro M5 em5
          refine ⟨e - b, ?_⟩
          have key : ∀ (d i : Nat) (Q : hq_M), i + d = e → b < i → Q 0 10 = (i : Int) → (∀ o j, ¬ (o = 0 ∧ j = 10) → Q o j = M5 o j) → l_X12_take_124 kk (d + 1) Q := by
            intro d
            induction d with
            | zero =>
              intro i Q hi hbi q10 fQ
              have hie : i = e := by omega
              subst hie
              have done : kk Q := by
                refine hk Q ⟨by rw [fQ _ _ (by omega), em5, hq_up_n _ _ (by omega)]; exact t11, ?_, ?_⟩ (fun o j ho => by rw [fQ _ _ (by omega), em5, hq_up_n _ _ (by omega), f4 _ _ (by omega)])
                · rw [q10]; unfold hre; rw [if_neg (by omega), if_pos hbe]
                · rw [fQ _ _ (by omega), em5, up_self]; unfold tkn; rw [if_neg (by omega), if_pos hbe]
              rw [l_X12_take_124, q10, fQ 0 9 (by omega), em5, hq_up_n _ _ (by omega), f4 0 9 (by omega), hT9, show ((i : Nat) : Int).toNat = i by omega]
              refine ⟨fun _ => done, fun q5 => ⟨⟨by omega, by omega⟩, ?_⟩⟩
              have nal : ¬ aln (gd T i) := e4.resolve_left (by omega)
              rw [fQ 5 i (by omega), em5, hq_up_n _ _ (by omega), f4 5 i (by omega), hT5 i (by omega)]
              refine m_isFigure ?_
              rw [if_neg (fun h => nal (.inr h))]
              refine ⟨fun e => absurd rfl e, fun _ => ⟨⟨by omega, by omega⟩, m_isSmall ?_⟩⟩
              rw [if_neg (fun h => nal (.inl h))]
              exact ⟨fun _ => done, fun e => absurd rfl e⟩
            | succ d ih =>
              intro i Q hi hbi q10 fQ
              have go : b_X12_take_165 (fun Mq => l_X12_take_124 kk (d + 1) Mq) kk Q := by
                unfold b_X12_take_165
                rw [q10]
                refine ⟨⟨by omega, by omega⟩, fun M3q em3 => ih (i + 1) M3q (by omega) (by omega) (by rw [em3, up_self]; omega) (fun o j ho => by rw [em3, hq_up_n _ _ (by omega)]; exact fQ o j ho)⟩
              rw [l_X12_take_124, q10, fQ 0 9 (by omega), em5, hq_up_n _ _ (by omega), f4 0 9 (by omega), hT9, show ((i : Nat) : Int).toNat = i by omega]
              refine ⟨fun q5 => by omega, fun q5 => ⟨⟨by omega, by omega⟩, ?_⟩⟩
              have hal := e3 i (by omega) (by omega)
              rw [fQ 5 i (by omega), em5, hq_up_n _ _ (by omega), f4 5 i (by omega), hT5 i (by omega)]
              refine m_isFigure ?_
              by_cases q6 : 48 ≤ gd T i ∧ gd T i ≤ 57
              · rw [if_pos q6]
                exact ⟨fun _ => go, fun e => absurd e (by decide)⟩
              · rw [if_neg q6]
                refine ⟨fun e => absurd rfl e, fun _ => ⟨⟨by omega, by omega⟩, m_isSmall ?_⟩⟩
                rw [if_pos (hal.resolve_right q6)]
                exact ⟨fun e => absurd e (by decide), fun _ => go⟩
          have := key (e - b - 1) (b + 1) M5 (by omega) (by omega) (by rw [em5, hq_up_n _ _ (by omega)]; exact t10) (fun _ _ _ => rfl)
          rw [show e - b - 1 + 1 = e - b by omega] at this
          exact this
        have none : ¬ aln (gd T b) → kk M4 := by
          intro nal
          have hbe : e = b := by
            rcases Nat.lt_or_ge b e with h | h
            · exact absurd (e3 b (Nat.le_refl _) h) nal
            · omega
          refine hk M4 ⟨t11, ?_, ?_⟩ f4
          · rw [t10]; unfold hre; rw [if_neg (by omega), if_neg (by omega)]
          · rw [t12]; unfold tkn; rw [if_neg (by omega), if_neg (by omega)]; exact ht1
        refine m_isFigure ?_
        by_cases q6 : 48 ≤ gd T b ∧ gd T b ≤ 57
        · rw [if_pos q6]
          exact ⟨fun _ => piece (.inr q6), fun e => absurd e (by decide)⟩
        · rw [if_neg q6]
          refine ⟨fun e => absurd rfl e, fun _ => m_isSmall ?_⟩
          by_cases q7 : 97 ≤ gd T b ∧ gd T b ≤ 122
          · rw [if_pos q7]
            exact ⟨fun e => absurd e (by decide), fun _ => piece (.inl q7)⟩
          · rw [if_neg q7]
            exact ⟨fun _ => none (fun h => h.elim q7 q6), fun e => absurd rfl e⟩
      refine ⟨fun q1 => ?_, fun q1 => ⟨fun q2 => a91 0 (by rw [if_neg (by omega)]), fun q2 => ?_⟩⟩
      · unfold b_X12_take_86
        exact a91 _ (by rw [if_pos (.inl q1)])
      · unfold b_X12_take_86
        exact a91 _ (by rw [if_pos (.inr q2)])
    · rw [e10, hq_up_n _ _ (by omega), s10]; unfold hre; rw [if_pos (by omega)]
    · rw [e10, up_self]; unfold tkn; rw [if_pos (by omega)]
  have key : ∀ (d i : Nat) (P : hq_M), i + d = b → p ≤ i → P 0 10 = (i : Int) → (∀ o j, ¬ (o = 0 ∧ j = 10) → P o j = M o j) → l_X12_take_0 (fun M1 => ∀ M3 : hq_M, M3 = hq_up M1 0 11 (M1 0 10) → (¬ (M3 0 10) = (M3 0 9) → (0 ≤ (M3 0 10) ∧ (M3 0 10) < 200) ∧ ∀ x9 : Int, x9 = M3 5 (M3 0 10).toNat → (x9 = 61 → b_X12_take_86 x9 kk M3) ∧ (¬ x9 = 61 → (¬ x9 = 59 → b_X12_take_91 x9 0 kk M3) ∧ (x9 = 59 → b_X12_take_86 x9 kk M3))) ∧ ((M3 0 10) = (M3 0 9) → ∀ M10 : hq_M, M10 = hq_up M3 0 12 (-1) → kk M10)) kk (d + 1) P := by
    intro d
    induction d with
    | zero =>
      intro i P hi hpi p10 fP
      have hib : i = b := by omega
      subst hib
      rw [l_X12_take_0, p10, fP 0 9 (by omega), hT9, show ((i : Nat) : Int).toNat = i by omega]
      have fin' := fin P p10 fP
      rw [p10] at fin'
      refine ⟨fun _ => fin', fun q => ⟨⟨by omega, by omega⟩, fun _ => fin', fun q32 => ?_⟩⟩
      rw [fP 5 i (by omega), hT5 i (by omega)] at q32
      exact absurd q32 (n4.resolve_left (by omega))
    | succ d ih =>
      intro i P hi hpi p10 fP
      rw [l_X12_take_0, p10, fP 0 9 (by omega), hT9, show ((i : Nat) : Int).toNat = i by omega, fP 5 i (by omega), hT5 i (by omega)]
      refine ⟨fun q => by omega, fun q => ⟨⟨by omega, by omega⟩, fun q32 => absurd (n3 i hpi (by omega)) q32, fun _ => ⟨⟨by omega, by omega⟩, fun M8 e8 => ih (i + 1) M8 (by omega) (by omega) (by rw [e8, up_self]; omega) (fun o j ho => by rw [e8, hq_up_n _ _ (by omega)]; exact fP o j ho)⟩⟩⟩
  exact key (b - p) p M (by omega) (Nat.le_refl _) h10 (fun _ _ _ => rfl)
