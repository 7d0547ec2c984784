/-! ===== the mathematics, part 36: tells, words, numbers, names; the reference ===== -/
theorem ac_snoc (xs : List Int) (x : Int) : ac (xs ++ [x]) = ac xs * 256 + x := by simp [ac]
theorem ac_nn : ∀ (n : Nat) (xs : List Int), xs.length = n → (∀ t, t < xs.length → 1 ≤ gd xs t ∧ gd xs t ≤ 255) → 0 ≤ ac xs ∧ (1 ≤ n → 1 ≤ ac xs) := by
  intro n
  induction n with
  | zero =>
    intro xs hl hx
    have : xs = [] := List.eq_nil_of_length_eq_zero hl
    subst this
    exact ⟨by decide, fun h => by omega⟩
  | succ n ih =>
    intro xs hl hx
    have e : xs = xs.take n ++ [gd xs n] := by
      rw [← take_snoc (by omega), List.take_of_length_le (by omega)]
    have h1 := ih (xs.take n) (by rw [List.length_take]; omega) (fun t ht => by
      rw [List.length_take] at ht
      rw [gd_take (by omega)]
      exact hx t (by omega))
    have h2 := hx n (by omega)
    rw [e, ac_snoc]
    omega
theorem ac_inj : ∀ (n : Nat) (xs ys : List Int), xs.length = n → (∀ t, t < xs.length → 1 ≤ gd xs t ∧ gd xs t ≤ 255) → (∀ t, t < ys.length → 1 ≤ gd ys t ∧ gd ys t ≤ 255) → ac xs = ac ys → xs = ys := by
  intro n
  induction n with
  | zero =>
    intro xs ys hl hx hy h
    have : xs = [] := List.eq_nil_of_length_eq_zero hl
    subst this
    have h2 := ac_nn _ ys rfl hy
    have h3 : ac [] = 0 := rfl
    exact (List.eq_nil_of_length_eq_zero (by omega)).symm
  | succ n ih =>
    intro xs ys hl hx hy h
    have h1 := ac_nn _ xs rfl hx
    have h2 := ac_nn _ ys rfl hy
    obtain ⟨m, hm⟩ : ∃ m, ys.length = m + 1 := by
      cases q : ys.length with
      | zero =>
        have : ys = [] := List.eq_nil_of_length_eq_zero q
        subst this
        have h3 : ac [] = 0 := rfl
        omega
      | succ m => exact ⟨m, rfl⟩
    have ex : xs = xs.take n ++ [gd xs n] := by rw [← take_snoc (by omega), List.take_of_length_le (by omega)]
    have ey : ys = ys.take m ++ [gd ys m] := by rw [← take_snoc (by omega), List.take_of_length_le (by omega)]
    have gx := hx n (by omega)
    have gy := hy m (by omega)
    rw [ex, ey, ac_snoc, ac_snoc] at h
    have e1 : gd xs n = gd ys m := by omega
    have e2 : ac (xs.take n) = ac (ys.take m) := by omega
    have e3 := ih (xs.take n) (ys.take m) (by rw [List.length_take]; omega) (fun t ht => by
      rw [List.length_take] at ht
      rw [gd_take (by omega)]
      exact hx t (by omega)) (fun t ht => by
      rw [List.length_take] at ht
      rw [gd_take (by omega)]
      exact hy t (by omega)) e2
    rw [ex, ey, e1, e3]
theorem hq_wr_id {x : Int} (h : rl x) : hq_wr x = x := w6_toInt h
theorem tkn_pc {T : List Int} {b e : Nat} (hb : b ≤ e) (he : e ≤ T.length) : tkn T b e = -2 ↔ b < e := by
  unfold tkn
  constructor
  · intro h
    split at h
    · omega
    · split at h
      · assumption
      · split at h <;> omega
  · intro h
    rw [if_neg (by omega), if_pos h]
theorem hre_pc {T : List Int} {b e : Nat} (h : b < e) (he : e ≤ T.length) : hre T b e = e := by
  unfold hre
  rw [if_neg (by omega), if_pos h]
theorem hre_bd {T : List Int} {b e : Nat} (hb : b ≤ e) (he : e ≤ T.length) : b ≤ hre T b e ∧ hre T b e ≤ T.length := by
  unfold hre
  split
  · omega
  · split <;> omega
theorem m_word {M : hq_M} {T : List Int} {b e : Nat} {k : Int → Prop} (hT : TxM T M) (hk0 : TkM T M b e) (hb : b ≤ e) (he : e ≤ T.length) (hk : k (if b < e ∧ e - b ≤ 7 then ac (wd T b e) else 0)) : w_X12_word M k := by
  obtain ⟨hT9, hT5, hl, hx⟩ := hT
  obtain ⟨k1, k2, k3⟩ := hk0
  have hh := hre_bd hb he
  unfold w_X12_word
  intro x2 e2
  refine ⟨hre T b e - b + 1, ?_⟩
  have key : ∀ (d i : Nat) (v z : Int), z = (i : Int) → i + d = hre T b e → b ≤ i → (i - b ≤ 7 → v = ac (wd T b i) ∧ 0 ≤ v ∧ v < pb (i - b)) → l_X12_word_7 (fun x3 => (¬ (M 0 12) = (-2) → k 0) ∧ ((M 0 12) = (-2) → rg ((M 0 10) - (M 0 11)) ∧ (8 ≤ ((M 0 10) - (M 0 11)) → k 0) ∧ (¬ 8 ≤ ((M 0 10) - (M 0 11)) → k x3))) k M (d + 1) v z := by
    intro d
    induction d with
    | zero =>
      intro i v z hz hi hbi hv
      rw [l_X12_word_7, k2, k1, k3]
      refine ⟨fun _ => ⟨fun q => ?_, fun q => ⟨⟨by omega, by omega⟩, fun q2 => ?_, fun q2 => ?_⟩⟩, fun q => by omega⟩
      · rw [tkn_pc hb he] at q
        rwa [if_neg (by omega)] at hk
      · rw [tkn_pc hb he] at q
        rw [hre_pc q he] at q2
        rwa [if_neg (by omega)] at hk
      · rw [tkn_pc hb he] at q
        rw [hre_pc q he] at q2 hi
        rw [if_pos (by omega), show e = i by omega] at hk
        rw [(hv (by omega)).1]
        exact hk
    | succ d ih =>
      intro i v z hz hi hbi hv
      rw [l_X12_word_7]
      refine ⟨fun q => by omega, fun _ => ⟨⟨by omega, by omega⟩, fun x4 e4 => ⟨⟨by omega, by omega⟩, fun x5 e5 => ih (i + 1) x4 x5 (by omega) (by omega) (by omega) (fun h7 => ?_)⟩⟩⟩
      rw [show z.toNat = i by omega, hT5 i (by omega)] at e4
      obtain ⟨a1, a2, a3⟩ := hv (by omega)
      have hp := pb_le (i - b) (by omega)
      have hxi := hx i (by omega)
      have hpe : pb (i + 1 - b) = 256 * pb (i - b) := by rw [show i + 1 - b = (i - b) + 1 by omega]; rfl
      rw [hq_wr_id (x := 256 * v) ⟨by omega, by omega⟩, hq_wr_id ⟨by omega, by omega⟩] at e4
      rw [wd_snoc hbi, ac_snoc, ← a1, e4, hpe]
      omega
  refine key (hre T b e - b) b 0 x2 (by rw [e2, k1]) (by omega) (Nat.le_refl _) (fun _ => ?_)
  rw [wd_nil, Nat.sub_self]
  exact ⟨rfl, by decide, by decide⟩
theorem word_is {T : List Int} {b e v : Nat} (hb : b ≤ e) (hN : Run aln T b e) (hv : v < 4) : (if b < e ∧ e - b ≤ 7 then ac (wd T b e) else 0) = ac (str v) ↔ wd T b e = str v := by
  have hs : (∀ t, t < (str v).length → 1 ≤ gd (str v) t ∧ gd (str v) t ≤ 255) ∧ 1 ≤ ac (str v) ∧ 1 ≤ (str v).length ∧ (str v).length ≤ 7 := by
    have : v = 0 ∨ v = 1 ∨ v = 2 ∨ v = 3 := by omega
    rcases this with rfl | rfl | rfl | rfl <;> decide
  have hw : ∀ t, t < (wd T b e).length → 1 ≤ gd (wd T b e) t ∧ gd (wd T b e) t ≤ 255 := fun t ht => by
    rw [wd_len] at ht
    rw [wd_gd ht]
    have := hN.2.2.1 (b + t) (by omega) (by omega)
    unfold aln at this
    omega
  constructor
  · intro h
    by_cases q : b < e ∧ e - b ≤ 7
    · rw [if_pos q] at h
      exact ac_inj _ _ _ rfl hw hs.1 h
    · rw [if_neg q] at h
      omega
  · intro h
    have := wd_len T b e
    rw [h] at this
    rw [if_pos (by omega), h]
theorem m_told {M : hq_M} {T : List Int} {b e : Nat} {k : Int → Prop} (hT : TxM T M) (hk0 : TkM T M b e) (hb : b ≤ e) (he : e ≤ T.length) (hk : ∀ v, NV (wd T b e) v → k v) : w_X12_told M k := by
  obtain ⟨hT9, hT5, hl, hx⟩ := hT
  obtain ⟨k1, k2, k3⟩ := hk0
  have hh := hre_bd hb he
  have hlen := wd_len T b e
  have nb : ¬ nok (wd T b e) → b_X12_told_53 k M := by
    intro hn
    have hk9 := hk (-9) (.inr ⟨hn, rfl⟩)
    unfold b_X12_told_53 b_X12_told_55
    intro x2 e2
    refine ⟨1, ?_⟩
    rw [l_X12_told_61]
    exact ⟨fun _ => hk9, fun _ => ⟨fun _ => hk9, fun q => absurd (by decide) q⟩⟩
  have go : b < e → 1 ≤ e - b → e - b ≤ 3 → (gd T b ≠ 48 ∨ e - b = 1) → b_X12_told_49 k M := by
    intro hbe q1 q3 q48
    have hr := hre_pc hbe he
    unfold b_X12_told_49 b_X12_told_55
    intro x2 e2
    refine ⟨e - b + 1, ?_⟩
    have key : ∀ (d i : Nat) (z s : Int), z = (i : Int) → i + d = e → b ≤ i → s = dv (wd T b i) → (∀ k, b ≤ k → k < i → 48 ≤ gd T k ∧ gd T k ≤ 57) → (0 ≤ s ∧ (i = b → s = 0) ∧ (i ≤ b + 1 → s ≤ 9) ∧ (i ≤ b + 2 → s ≤ 99) ∧ s ≤ 999) → l_X12_told_61 k M (d + 1) s z := by
      intro d
      induction d with
      | zero =>
        intro i z s hz hi hbi hs ha hbd
        have hie : i = e := by omega
        subst hie
        rw [l_X12_told_61, k2, hr]
        have hnv : NV (wd T b i) s := .inl ⟨⟨by omega, by omega, by
          rw [wd_gd (by omega), Nat.add_zero, hlen]
          exact q48, fun t ht => by
            rw [hlen] at ht
            rw [wd_gd ht]
            exact ha (b + t) (by omega) (by omega)⟩, hs⟩
        exact ⟨fun _ => hk s hnv, fun q => by omega⟩
      | succ d ih =>
        intro i z s hz hi hbi hs ha hbd
        rw [l_X12_told_61, k2, hr, show z.toNat = i by omega, hT5 i (by omega)]
        refine ⟨fun q => by omega, fun _ => ⟨fun q => by omega, fun _ => ⟨⟨by omega, by omega⟩, m_isFigure ?_⟩⟩⟩
        by_cases q : 48 ≤ gd T i ∧ gd T i ≤ 57
        · rw [if_pos q]
          refine ⟨fun e => absurd e (by decide), fun _ => ⟨⟨by omega, by omega⟩, ⟨by omega, by omega⟩, ⟨by omega, by omega⟩, ⟨by omega, by omega⟩, ?_⟩⟩
          unfold b_X12_told_104
          refine ⟨⟨by omega, by omega⟩, fun x1 e1 => ih (i + 1) x1 _ (by omega) (by omega) (by omega) ?_ (fun k h1 h2 => ?_) ?_⟩
          · rw [wd_snoc hbi, dv_snoc, hs]; omega
          · by_cases q2 : k = i
            · rw [q2]; exact q
            · exact ha k h1 (by omega)
          · omega
        · rw [if_neg q]
          refine ⟨fun _ => ?_, fun e => absurd rfl e⟩
          have hk9 : k (-9) := hk (-9) (.inr ⟨fun hn => q (by
            have := hn.2.2.2 (i - b) (by omega)
            rw [wd_gd (by omega), show b + (i - b) = i by omega] at this
            exact this), rfl⟩)
          unfold b_X12_told_104
          refine ⟨⟨by omega, by omega⟩, fun x1 e1 => ?_⟩
          show l_X12_told_61 k M (d + 1) (-9) x1
          rw [l_X12_told_61]
          exact ⟨fun _ => hk9, fun _ => ⟨fun _ => hk9, fun q => absurd (by decide) q⟩⟩
    exact key (e - b) b x2 0 (by rw [e2, k1]) (by omega) (Nat.le_refl _) (by rw [wd_nil]; rfl) (fun k h1 h2 => by omega) (by omega)
  unfold w_X12_told
  rw [k1, k2, k3]
  refine ⟨fun q => nb (fun h => q ((tkn_pc hb he).mpr (by have := h.1; omega))), fun q => ?_⟩
  have hbe := (tkn_pc hb he).mp q
  rw [hre_pc hbe he, show ((b : Nat) : Int).toNat = b by omega, hT5 b (by omega)]
  refine ⟨⟨by omega, by omega⟩, fun q4 => nb (fun h => by have := h.2.1; omega), fun q4 => ⟨⟨by omega, by omega⟩, fun q48 => go hbe (by omega) (by omega) (.inl q48), fun q48 => ⟨⟨by omega, by omega⟩, fun q1 => nb (fun h => ?_), fun q1 => go hbe (by omega) (by omega) (.inr (by omega))⟩⟩⟩
  have := h.2.2.1
  rw [wd_gd (by omega), Nat.add_zero, hlen] at this
  rcases this with hh2 | hh2
  · exact hh2 q48
  · omega
theorem tkn_sg {T : List Int} {b e : Nat} {s : Int} (hs : s = 59 ∨ s = 61) (hb : b ≤ e) (he : e ≤ T.length) : tkn T b e = s ↔ Sg T b e s := by
  unfold tkn Sg
  constructor
  · intro h
    split at h
    · omega
    · split at h
      · omega
      · split at h <;> omega
  · rintro ⟨h1, h2, h3⟩
    rw [if_neg (by omega), if_neg (by omega), if_pos (by omega)]
    exact h3
theorem m_sign_no {M : hq_M} {T : List Int} {b e : Nat} {s : Int} {kk : Int → hq_M → Prop} (hs : s = 59 ∨ s = 61) (hk0 : TkM T M b e) (hb : b ≤ e) (he : e ≤ T.length) (h : ¬ Sg T b e s) (hk : kk 0 M) : w_X12_readsSign s M kk := by
  unfold w_X12_readsSign b_X12_readsSign_13
  rw [hk0.2.2]
  exact ⟨fun _ => ⟨fun _ => hk, fun e => absurd rfl e⟩, fun q => absurd ((tkn_sg hs hb he).mp q) h⟩
theorem m_sign_yes {M : hq_M} {T : List Int} {b e b' e' : Nat} {s : Int} {kk : Int → hq_M → Prop} (hT : TxM T M) (hs : s = 59 ∨ s = 61) (hk0 : TkM T M b e) (hb : b ≤ e) (he : e ≤ T.length) (h : Sg T b e s) (hN : Nx T (b + 1) b' e') (hk : ∀ M', TkM T M' b' e' → (∀ o j, ¬ (o = 0 ∧ 10 ≤ j ∧ j ≤ 12) → M' o j = M o j) → kk 1 M') : w_X12_readsSign s M kk := by
  unfold w_X12_readsSign b_X12_readsSign_13
  rw [hk0.2.2]
  refine ⟨fun q => absurd ((tkn_sg hs hb he).mpr h) q, fun _ => ⟨fun e => absurd e (by decide), fun _ => m_take hT ?_ hN hk⟩⟩
  rw [hk0.2.1]
  obtain ⟨h1, h2, h3⟩ := h
  unfold hre
  rw [if_neg (by omega), if_neg (by omega)]
theorem m_isName {M : hq_M} {T : List Int} {b e : Nat} {k : Int → Prop} (hT : TxM T M) (hk0 : TkM T M b e) (hb : b ≤ e) (he : e ≤ T.length) (no : ¬ IsNm T b e → k 0) (yes : IsNm T b e → k 1) : w_X12_isName M k := by
  obtain ⟨hT9, hT5, hl, hx⟩ := hT
  obtain ⟨k1, k2, k3⟩ := hk0
  have hh := hre_bd hb he
  have b27 : ¬ IsNm T b e → b_X12_isName_27 k M := by
    intro h
    have h0 := no h
    unfold b_X12_isName_27 b_X12_isName_28
    intro x2 e2
    refine ⟨1, ?_⟩
    rw [l_X12_isName_34]
    exact ⟨fun _ => h0, fun _ => ⟨fun _ => h0, fun q => absurd rfl q⟩⟩
  unfold w_X12_isName
  rw [k1, k2, k3]
  refine ⟨fun q => b27 (fun h => q ((tkn_pc hb he).mpr h.1)), fun q => ?_⟩
  have hbe := (tkn_pc hb he).mp q
  have hr := hre_pc hbe he
  rw [hr]
  refine ⟨⟨by omega, by omega⟩, fun q6 => b27 (fun h => by have := h.2.1; omega), fun q6 => ?_⟩
  unfold b_X12_isName_28
  intro x2 e2
  refine ⟨e - b + 1, ?_⟩
  have key : ∀ (d i : Nat) (z : Int), z = (i : Int) → i + d = e → b ≤ i → (∀ k, b ≤ k → k < i → 97 ≤ gd T k ∧ gd T k ≤ 122) → l_X12_isName_34 k M (d + 1) 1 z := by
    intro d
    induction d with
    | zero =>
      intro i z hz hi hbi ha
      rw [l_X12_isName_34, k2, hr]
      exact ⟨fun _ => yes ⟨hbe, by omega, fun k h1 h2 => ha k h1 (by omega)⟩, fun q => by omega⟩
    | succ d ih =>
      intro i z hz hi hbi ha
      rw [l_X12_isName_34, k2, hr, show z.toNat = i by omega, hT5 i (by omega)]
      refine ⟨fun q => by omega, fun _ => ⟨fun q => absurd q (by decide), fun _ => ⟨⟨by omega, by omega⟩, m_isSmall ?_⟩⟩⟩
      by_cases q3 : 97 ≤ gd T i ∧ gd T i ≤ 122
      · rw [if_pos q3]
        refine ⟨⟨by omega, by omega⟩, fun x5 e5 => ih (i + 1) x5 (by omega) (by omega) (by omega) (fun k h1 h2 => ?_)⟩
        by_cases q4 : k = i
        · rw [q4]; exact q3
        · exact ha k h1 (by omega)
      · rw [if_neg q3]
        have h0 := no (fun h => q3 (h.2.2 i hbi (by omega)))
        refine ⟨⟨by omega, by omega⟩, fun x5 e5 => ?_⟩
        cases d with
        | zero => rw [l_X12_isName_34]; exact ⟨fun _ => h0, fun _ => ⟨fun _ => h0, fun q => absurd rfl q⟩⟩
        | succ d => rw [l_X12_isName_34]; exact ⟨fun _ => h0, fun _ => ⟨fun _ => h0, fun q => absurd rfl q⟩⟩
  exact key (e - b) b x2 (by rw [e2, k1]) (by omega) (Nat.le_refl _) (fun k h1 h2 => by omega)
theorem m_copy30 {M : hq_M} {T : List Int} {v : Int} {f b e : Nat} {k68 : hq_M → Prop} {k : Int → hq_M → Prop} (hT : TxM T M) (hv : v = (f : Int)) (hf : f < 32) (h11 : M 0 11 = (b : Int)) (hbe : b ≤ e) (he : e ≤ T.length) (h6 : e - b ≤ 6) (h1 : M 1 f = ((e - b : Nat) : Int)) (hk : ∀ M', (∀ t, t < e - b → M' 3 (6 * f + t) = gd T (b + t)) → (∀ o j, ¬ (o = 3 ∧ 6 * f ≤ j ∧ j < 6 * f + 6) → M' o j = M o j) → k68 M') : ∃ m, l_X12_readsPair_30 v k68 k m 0 M := by
  obtain ⟨hT9, hT5, hl, hx⟩ := hT
  refine ⟨e - b + 1, ?_⟩
  have key : ∀ (d i : Nat) (z : Int) (P : hq_M), z = (i : Int) → i + d = e - b → (∀ t, t < i → P 3 (6 * f + t) = gd T (b + t)) → (∀ o j, ¬ (o = 3 ∧ 6 * f ≤ j ∧ j < 6 * f + 6) → P o j = M o j) → l_X12_readsPair_30 v k68 k (d + 1) z P := by
    intro d
    induction d with
    | zero =>
      intro i z P hz hi ha hF
      rw [l_X12_readsPair_30, show v.toNat = f by omega, hF 1 f (by omega), h1]
      exact ⟨⟨by omega, by omega⟩, fun _ => hk P (fun t ht => ha t (by omega)) hF, fun q => by omega⟩
    | succ d ih =>
      intro i z P hz hi ha hF
      rw [l_X12_readsPair_30, show v.toNat = f by omega, hF 1 f (by omega), h1, hF 0 11 (by omega), h11, show (6 * v + z).toNat = 6 * f + i by omega, show ((b : Int) + z).toNat = b + i by omega, hF 5 (b + i) (by omega), hT5 (b + i) (by omega)]
      refine ⟨⟨by omega, by omega⟩, fun q => by omega, fun _ => ⟨⟨by omega, by omega⟩, ⟨by omega, by omega⟩, ⟨by omega, by omega⟩, ⟨by omega, by omega⟩, ⟨by omega, by omega⟩, fun M10 e10 => ⟨⟨by omega, by omega⟩, fun x11 e11 => ih (i + 1) x11 M10 (by omega) (by omega) (fun t ht => ?_) (fun o j ho => ?_)⟩⟩⟩
      · rw [e10]
        by_cases q : t = i
        · rw [q, up_self]
        · rw [hq_up_n _ _ (by omega)]; exact ha t (by omega)
      · rw [e10, hq_up_n _ _ (by omega)]; exact hF o j ho
  exact key (e - b) 0 0 M rfl (by omega) (fun t ht => absurd ht (by omega)) (fun _ _ _ => rfl)
theorem m_copy132 {M : hq_M} {T : List Int} {v : Int} {f b e : Nat} {k170 : hq_M → Prop} {k : Int → hq_M → Prop} (hT : TxM T M) (hv : v = (f : Int)) (hf : f < 32) (h11 : M 0 11 = (b : Int)) (hbe : b ≤ e) (he : e ≤ T.length) (h6 : e - b ≤ 6) (h1 : M 2 f = ((e - b : Nat) : Int)) (hk : ∀ M', (∀ t, t < e - b → M' 4 (6 * f + t) = gd T (b + t)) → (∀ o j, ¬ (o = 4 ∧ 6 * f ≤ j ∧ j < 6 * f + 6) → M' o j = M o j) → k170 M') : ∃ m, l_X12_readsPair_132 v k170 k m 0 M := by
  obtain ⟨hT9, hT5, hl, hx⟩ := hT
  refine ⟨e - b + 1, ?_⟩
  have key : ∀ (d i : Nat) (z : Int) (P : hq_M), z = (i : Int) → i + d = e - b → (∀ t, t < i → P 4 (6 * f + t) = gd T (b + t)) → (∀ o j, ¬ (o = 4 ∧ 6 * f ≤ j ∧ j < 6 * f + 6) → P o j = M o j) → l_X12_readsPair_132 v k170 k (d + 1) z P := by
    intro d
    induction d with
    | zero =>
      intro i z P hz hi ha hF
      rw [l_X12_readsPair_132, show v.toNat = f by omega, hF 2 f (by omega), h1]
      exact ⟨⟨by omega, by omega⟩, fun _ => hk P (fun t ht => ha t (by omega)) hF, fun q => by omega⟩
    | succ d ih =>
      intro i z P hz hi ha hF
      rw [l_X12_readsPair_132, show v.toNat = f by omega, hF 2 f (by omega), h1, hF 0 11 (by omega), h11, show (6 * v + z).toNat = 6 * f + i by omega, show ((b : Int) + z).toNat = b + i by omega, hF 5 (b + i) (by omega), hT5 (b + i) (by omega)]
      refine ⟨⟨by omega, by omega⟩, fun q => by omega, fun _ => ⟨⟨by omega, by omega⟩, ⟨by omega, by omega⟩, ⟨by omega, by omega⟩, ⟨by omega, by omega⟩, ⟨by omega, by omega⟩, fun M10 e10 => ⟨⟨by omega, by omega⟩, fun x11 e11 => ih (i + 1) x11 M10 (by omega) (by omega) (fun t ht => ?_) (fun o j ho => ?_)⟩⟩⟩
      · rw [e10]
        by_cases q : t = i
        · rw [q, up_self]
        · rw [hq_up_n _ _ (by omega)]; exact ha t (by omega)
      · rw [e10, hq_up_n _ _ (by omega)]; exact hF o j ho
  exact key (e - b) 0 0 M rfl (by omega) (fun t ht => absurd ht (by omega)) (fun _ _ _ => rfl)
theorem m_field36 {M : hq_M} {n : Nat} {k70 : hq_M → Prop} {k : Int → hq_M → Prop} (hL : Lo6 M) (h14 : M 0 14 = (n : Int)) (hn : n ≤ 7) (no : (∀ i, i < n → ¬ (nm M (16 + i) = nm M (16 + n) ∧ vl M (16 + i) = vl M (16 + n))) → k70 M) (yes : (∃ i, i < n ∧ nm M (16 + i) = nm M (16 + n) ∧ vl M (16 + i) = vl M (16 + n)) → k 0 M) : ∃ m, l_X12_readsField_36 k70 k m 0 M := by
  refine ⟨n + 1, ?_⟩
  have key : ∀ (d i : Nat) (z : Int), z = (i : Int) → i + d = n → (∀ t, t < i → ¬ (nm M (16 + t) = nm M (16 + n) ∧ vl M (16 + t) = vl M (16 + n))) → l_X12_readsField_36 k70 k (d + 1) z M := by
    intro d
    induction d with
    | zero =>
      intro i z hz hi ha
      rw [l_X12_readsField_36, h14]
      exact ⟨fun _ => no (fun t ht => ha t (by omega)), fun q => by omega⟩
    | succ d ih =>
      intro i z hz hi ha
      rw [l_X12_readsField_36, h14]
      refine ⟨fun q => by omega, fun _ => ⟨⟨by omega, by omega⟩, ⟨by omega, by omega⟩, m_areAlike (f := 16 + i) (g := 16 + n) (by omega) (by omega) (by omega) (by omega) hL ?_⟩⟩
      by_cases q : nm M (16 + i) = nm M (16 + n) ∧ vl M (16 + i) = vl M (16 + n)
      · rw [if_pos q]
        exact ⟨fun e => absurd e (by decide), fun _ => yes ⟨i, by omega, q⟩⟩
      · rw [if_neg q]
        refine ⟨fun _ => ⟨⟨by omega, by omega⟩, fun x6 e6 => ih (i + 1) x6 (by omega) (by omega) (fun t ht => ?_)⟩, fun e => absurd rfl e⟩
        by_cases q2 : t = i
        · rw [q2]; exact q
        · exact ha t (by omega)
  exact key n 0 0 rfl (by omega) (fun t ht => absurd ht (by omega))
