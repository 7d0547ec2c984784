/-! ===== the mathematics, part 34: tells, the text in tokens; the class ===== -/
def aln (x : Int) : Prop := (97 ≤ x ∧ x ≤ 122) ∨ (48 ≤ x ∧ x ≤ 57)
def Run (P : Int → Prop) (T : List Int) (i j : Nat) : Prop := i ≤ j ∧ j ≤ T.length ∧ (∀ k, i ≤ k → k < j → P (gd T k)) ∧ (j = T.length ∨ ¬ P (gd T j))
theorem Run.un {P : Int → Prop} {T : List Int} {i j j' : Nat} (h : Run P T i j) (g : Run P T i j') : j = j' := by
  rcases Nat.lt_trichotomy j j' with q | q | q
  · exact absurd (g.2.2.1 j h.1 q) (h.2.2.2.resolve_left (by have := g.2.1; omega))
  · exact q
  · exact absurd (h.2.2.1 j' g.1 q) (g.2.2.2.resolve_left (by have := h.2.1; omega))
def Nx (T : List Int) (p b e : Nat) : Prop := Run (fun x => x = 32) T p b ∧ Run aln T b e
def wd (T : List Int) (b e : Nat) : List Int := (List.range (e - b)).map (fun t => gd T (b + t))
theorem wd_len (T : List Int) (b e : Nat) : (wd T b e).length = e - b := by simp [wd]
theorem wd_gd {T : List Int} {b e t : Nat} (h : t < e - b) : gd (wd T b e) t = gd T (b + t) := by
  unfold wd
  rw [gd, List.getD_eq_getElem?_getD]
  simp [h]
theorem wd_snoc {T : List Int} {b e : Nat} (h : b ≤ e) : wd T b (e + 1) = wd T b e ++ [gd T e] := by
  unfold wd
  rw [show e + 1 - b = (e - b) + 1 by omega, List.range_succ, List.map_append, List.map_cons, List.map_nil, show b + (e - b) = e by omega]
theorem wd_nil {T : List Int} {b : Nat} : wd T b b = [] := by simp [wd]
def dv (xs : List Int) : Int := xs.foldl (fun a x => a * 10 + x - 48) 0
theorem dv_snoc (xs : List Int) (x : Int) : dv (xs ++ [x]) = dv xs * 10 + x - 48 := by simp [dv]
def nok (xs : List Int) : Prop := 1 ≤ xs.length ∧ xs.length ≤ 3 ∧ (gd xs 0 ≠ 48 ∨ xs.length = 1) ∧ ∀ t, t < xs.length → 48 ≤ gd xs t ∧ gd xs t ≤ 57
def NV (xs : List Int) (v : Int) : Prop := (nok xs ∧ v = dv xs) ∨ (¬ nok xs ∧ v = -9)
theorem NV.un {xs : List Int} {v w : Int} (h : NV xs v) (g : NV xs w) : v = w := by
  rcases h with ⟨a, b⟩ | ⟨a, b⟩ <;> rcases g with ⟨c, d⟩ | ⟨c, d⟩
  · rw [b, d]
  · exact absurd a c
  · exact absurd c a
  · rw [b, d]
def Sg (T : List Int) (b e : Nat) (s : Int) : Prop := e = b ∧ b < T.length ∧ gd T b = s
def IsNm (T : List Int) (b e : Nat) : Prop := b < e ∧ e - b ≤ 6 ∧ ∀ k, b ≤ k → k < e → 97 ≤ gd T k ∧ gd T k ≤ 122
def str (i : Nat) : List Int := sTx.getD i []
theorem x4_isLetter {v : Int} {M : hq_M} {k : Int → Prop} (hk : k (if 97 ≤ v ∧ v ≤ 122 then 1 else 0)) : w_X4_isLetter v M k := by
  unfold w_X4_isLetter
  refine ⟨fun q => ?_, fun q => ⟨fun q2 => ?_, fun q2 => ?_⟩⟩
  · rwa [if_neg (by omega)] at hk
  · rwa [if_neg (by omega)] at hk
  · rwa [if_pos (by omega)] at hk
theorem x4_isDigit {v : Int} {M : hq_M} {k : Int → Prop} (hk : k (if 48 ≤ v ∧ v ≤ 57 then 1 else 0)) : w_X4_isDigit v M k := by
  unfold w_X4_isDigit
  refine ⟨fun q => ?_, fun q => ⟨fun q2 => ?_, fun q2 => ?_⟩⟩
  · rwa [if_neg (by omega)] at hk
  · rwa [if_neg (by omega)] at hk
  · rwa [if_pos (by omega)] at hk
theorem x1t_at {C : hq_M} {T : List Int} {i : Nat} {v : Int} {k : Int → Prop} (hT : Rw C 1 T) (hl : T.length ≤ 200) (hv : v = (i : Int)) (hi : i < T.length) (hk : k (gd T i)) : w_X6_at 1 v C k := by
  refine x6_at hT (by rw [capT]; exact hl) ?_
  rw [if_pos (by omega), show v.toNat = i by omega]
  exact hk
theorem x4_advance {C : hq_M} {T : List Int} {p : Nat} {kk : hq_M → Prop} (hT : Rw C 1 T) (hl : T.length ≤ 200) (h5 : C 7 5 = (p : Int)) (hp : p ≤ T.length) (hk : ∀ b e C', Nx T p b e → C' 7 4 = (b : Int) → C' 7 5 = (e : Int) → (∀ q j, ¬ (q = 7 ∧ (j = 4 ∨ j = 5)) → C' q j = C q j) → kk C') : w_X4_advance C kk := by
  unfold w_X4_advance
  intro x2 e2
  have l2 : ∀ (d i b : Nat) (z : Int) (P : hq_M), z = (i : Int) → i + d = T.length → b ≤ i → (∀ k, b ≤ k → k < i → aln (gd T k)) → Rw P 1 T → (∀ e C', Run aln T b e → C' 7 5 = (e : Int) → (∀ q j, ¬ (q = 7 ∧ j = 5) → C' q j = P q j) → kk C') → l_X4_advance_40 (fun x7 M6 => ∀ M8 : hq_M, M8 = hq_up M6 7 5 x7 → kk M8) kk (d + 1) z P := by
    intro d
    induction d with
    | zero =>
      intro i b z P hz hi hbi ha hP hk2
      rw [l_X4_advance_40, hP.1]
      exact ⟨fun _ => fun M8 e8 => hk2 i M8 ⟨hbi, by omega, ha, .inl (by omega)⟩ (by rw [e8, up_self, hz]) (fun q j hq => by rw [e8]; simp only [hq_up]; rw [if_neg hq]), fun q => by omega⟩
    | succ d ih =>
      intro i b z P hz hi hbi ha hP hk2
      have go : aln (gd T i) → b_X4_advance_79 z (fun v1q Mq => l_X4_advance_40 (fun x7 M6 => ∀ M8 : hq_M, M8 = hq_up M6 7 5 x7 → kk M8) kk (d + 1) v1q Mq) kk P := by
        intro hal
        unfold b_X4_advance_79
        refine ⟨⟨by omega, by omega⟩, fun x1 e1 => ih (i + 1) b x1 P (by omega) (by omega) (by omega) (fun k h1 h2 => ?_) hP hk2⟩
        by_cases q : k = i
        · rw [q]; exact hal
        · exact ha k h1 (by omega)
      rw [l_X4_advance_40, hP.1]
      refine ⟨fun q => by omega, fun _ => x1t_at (i := i) hP hl hz (by omega) (x4_isLetter ?_)⟩
      by_cases q : 97 ≤ gd T i ∧ gd T i ≤ 122
      · rw [if_pos q]
        exact ⟨fun _ => go (.inl q), fun e => absurd e (by decide)⟩
      · rw [if_neg q]
        refine ⟨fun e => absurd rfl e, fun _ => x1t_at (i := i) hP hl hz (by omega) (x4_isDigit ?_)⟩
        by_cases q2 : 48 ≤ gd T i ∧ gd T i ≤ 57
        · rw [if_pos q2]
          exact ⟨fun e => absurd e (by decide), fun _ => go (.inr q2)⟩
        · rw [if_neg q2]
          refine ⟨fun _ => fun M8 e8 => hk2 i M8 ⟨hbi, by omega, ha, .inr (fun h => h.elim q q2)⟩ (by rw [e8, up_self, hz]) (fun q j hq => by rw [e8]; simp only [hq_up]; rw [if_neg hq]), fun e => absurd rfl e⟩
  refine ⟨T.length - p + 1, ?_⟩
  have l1 : ∀ (d i : Nat) (z : Int), z = (i : Int) → i + d = T.length → p ≤ i → (∀ k, p ≤ k → k < i → gd T k = 32) → l_X4_advance_5 (fun x4 M3 => ∀ M5 : hq_M, M5 = hq_up M3 7 4 x4 → ∃ m40, l_X4_advance_40 (fun x7 M6 => ∀ M8 : hq_M, M8 = hq_up M6 7 5 x7 → kk M8) kk m40 x4 M5) kk (d + 1) z C := by
    intro d
    induction d with
    | zero =>
      intro i z hz hi hpi ha
      rw [l_X4_advance_5, hT.1]
      refine ⟨fun _ => fun M5 e5 => ⟨1, ?_⟩, fun q => by omega⟩
      have f5 : ∀ q j, ¬ (q = 7 ∧ j = 4) → M5 q j = C q j := fun q j hq => by rw [e5]; simp only [hq_up]; rw [if_neg hq]
      refine l2 0 i i z M5 hz hi (Nat.le_refl _) (fun k h1 h2 => by omega) (hT.cg (f5 _ _ (by omega)) (fun j => f5 _ _ (by omega))) (fun e C' hr h7 fC => hk i e C' ⟨⟨hpi, by omega, ha, .inl (by omega)⟩, hr⟩ (by rw [fC _ _ (by omega), e5, up_self, hz]) h7 (fun q j hq => by rw [fC _ _ (by omega), f5 _ _ (by omega)]))
    | succ d ih =>
      intro i z hz hi hpi ha
      rw [l_X4_advance_5, hT.1]
      refine ⟨fun q => by omega, fun _ => x1t_at (i := i) hT hl hz (by omega) ⟨fun q => fun M5 e5 => ⟨d + 1 + 1, ?_⟩, fun q => ⟨⟨by omega, by omega⟩, fun x3 e3 => ih (i + 1) x3 (by omega) (by omega) (by omega) (fun k h1 h2 => ?_)⟩⟩⟩
      · have f5 : ∀ q j, ¬ (q = 7 ∧ j = 4) → M5 q j = C q j := fun q j hq => by rw [e5]; simp only [hq_up]; rw [if_neg hq]
        refine l2 (d + 1) i i z M5 hz hi (Nat.le_refl _) (fun k h1 h2 => by omega) (hT.cg (f5 _ _ (by omega)) (fun j => f5 _ _ (by omega))) (fun e C' hr h7 fC => hk i e C' ⟨⟨hpi, by omega, ha, .inr q⟩, hr⟩ (by rw [fC _ _ (by omega), e5, up_self, hz]) h7 (fun q j hq => by rw [fC _ _ (by omega), f5 _ _ (by omega)]))
      · by_cases q2 : k = i
        · rw [q2]; exact q
        · exact ha k h1 (by omega)
  refine l1 (T.length - p) p x2 (by rw [e2, h5]) (by omega) (Nat.le_refl _) (fun k h1 h2 => by omega)
theorem x4_isPiece {C : hq_M} {T : List Int} {b e v : Nat} {k : Int → Prop} (hT : Rw C 1 T) (hl : T.length ≤ 200) (h4 : C 7 4 = (b : Int)) (h5 : C 7 5 = (e : Int)) (hb : b ≤ e) (he : e ≤ T.length) (yes : wd T b e = str v → k 1) (no : wd T b e ≠ str v → k 0) : w_X4_isPiece v C k := by
  have hs : (sL v : Nat) = (str v).length := rfl
  have hlen := wd_len T b e
  unfold w_X4_isPiece
  rw [h4, h5]
  refine ⟨⟨by omega, by omega⟩, fun x4 e4 => ⟨fun q => ⟨sL v + 1, ?_⟩, fun q => no (fun hh => q (by rw [hh] at hlen; omega))⟩⟩
  have key : ∀ (d i : Nat) (z : Int), z = (i : Int) → i + d = sL v → (∀ t, t < i → gd T (b + t) = gd (str v) t) → l_X4_isPiece_20 v k C (d + 1) z := by
    intro d
    induction d with
    | zero =>
      intro i z hz hi ha
      rw [l_X4_isPiece_20]
      intro x1 e1
      refine ⟨fun _ => yes (ls_ext (by omega) (fun t ht => ?_)), fun q => by omega⟩
      rw [wd_gd (by omega)]
      exact ha t (by omega)
    | succ d ih =>
      intro i z hz hi ha
      rw [l_X4_isPiece_20]
      intro x1 e1
      rw [h4]
      refine ⟨fun q => by omega, fun _ => ⟨⟨by omega, by omega⟩, x1t_at (i := b + i) hT hl (by omega) (by omega) ⟨⟨by omega, by omega⟩, fun x5 e5 => ⟨fun q5 => ⟨⟨by omega, by omega⟩, fun x7 e7 => ih (i + 1) x7 (by omega) (by omega) (fun t ht => ?_)⟩, fun q5 => no (fun hh => q5 ?_)⟩⟩⟩⟩
      · by_cases q2 : t = i
        · rw [q2, q5, e5, show z.toNat = i by omega]; rfl
        · exact ha t (by omega)
      · rw [e5, show z.toNat = i by omega, ← wd_gd (T := T) (b := b) (e := e) (by omega), hh]; rfl
  exact key _ 0 0 rfl (by omega) (fun t ht => absurd ht (by omega))
theorem x4_readNumber {C : hq_M} {T : List Int} {b e : Nat} {lim : Int} {kk : Int → hq_M → Prop} (hT : Rw C 1 T) (hl : T.length ≤ 200) (h4 : C 7 4 = (b : Int)) (h5 : C 7 5 = (e : Int)) (hb : b ≤ e) (he : e ≤ T.length) (bad : ∀ v, NV (wd T b e) v → (v < 0 ∨ lim < v) → kk (-9) C) (ok : ∀ v, NV (wd T b e) v → 0 ≤ v → v ≤ lim → ∀ b' e' C', Nx T e b' e' → C' 7 4 = (b' : Int) → C' 7 5 = (e' : Int) → (∀ q j, ¬ (q = 7 ∧ (j = 4 ∨ j = 5)) → C' q j = C q j) → kk v C') : w_X4_readNumber lim C kk := by
  have hlen := wd_len T b e
  unfold w_X4_readNumber
  rw [h4, h5]
  have go : 1 ≤ e - b → e - b ≤ 3 → (gd T b ≠ 48 ∨ e - b = 1) → b_X4_readNumber_44 lim kk C := by
    intro q1 q3 q48
    unfold b_X4_readNumber_44
    intro x2 e2
    refine ⟨e - b + 1, ?_⟩
    have key : ∀ (d i : Nat) (z s : Int), z = (i : Int) → i + d = e → b ≤ i → s = dv (wd T b i) → (∀ k, b ≤ k → k < i → 48 ≤ gd T k ∧ gd T k ≤ 57) → (0 ≤ s ∧ (i = b → s = 0) ∧ (i ≤ b + 1 → s ≤ 9) ∧ (i ≤ b + 2 → s ≤ 99) ∧ s ≤ 999) → l_X4_readNumber_52 (fun x4 M3 => (x4 ≤ lim → w_X4_advance M3 (fun M5 => kk x4 M5)) ∧ (¬ x4 ≤ lim → kk (-9) M3)) kk (d + 1) s z C := by
      intro d
      induction d with
      | zero =>
        intro i z s hz hi hbi hs ha hbd
        have hie : i = e := by omega
        subst hie
        rw [l_X4_readNumber_52, h5]
        have hnv : NV (wd T b i) s := .inl ⟨⟨by omega, by omega, by
          rw [wd_gd (by omega), Nat.add_zero, hlen]
          exact q48, fun t ht => by
            rw [hlen] at ht
            rw [wd_gd ht]
            exact ha (b + t) (by omega) (by omega)⟩, hs⟩
        refine ⟨fun _ => ⟨fun q => x4_advance hT hl h5 he (fun b' e' C' hN g4 g5 fC => ok s hnv hbd.1 q b' e' C' hN g4 g5 fC), fun q => bad s hnv (.inr (by omega))⟩, fun q => by omega⟩
      | succ d ih =>
        intro i z s hz hi hbi hs ha hbd
        rw [l_X4_readNumber_52, h5]
        refine ⟨fun q => by omega, fun _ => x1t_at (i := i) hT hl hz (by omega) (x4_isDigit ?_)⟩
        by_cases q : 48 ≤ gd T i ∧ gd T i ≤ 57
        · rw [if_pos q]
          refine ⟨fun _ => ⟨⟨by omega, by omega⟩, x1t_at (i := i) hT hl hz (by omega) ⟨⟨by omega, by omega⟩, ⟨by omega, by omega⟩, fun x8 e8 => ⟨⟨by omega, by omega⟩, fun x9 e9 => ih (i + 1) x9 x8 (by omega) (by omega) (by omega) ?_ (fun k h1 h2 => ?_) ?_⟩⟩⟩, fun e => absurd e (by decide)⟩
          · rw [wd_snoc hbi, dv_snoc, e8, hs]
          · by_cases q2 : k = i
            · rw [q2]; exact q
            · exact ha k h1 (by omega)
          · omega
        · rw [if_neg q]
          refine ⟨fun e => absurd rfl e, fun _ => bad (-9) (.inr ⟨fun hn => q ?_, rfl⟩) (.inl (by decide))⟩
          have := hn.2.2.2 (i - b) (by omega)
          rw [wd_gd (by omega), show b + (i - b) = i by omega] at this
          exact this
    exact key (e - b) b x2 0 (by rw [e2, h4]) (by omega) (Nat.le_refl _) (by rw [wd_nil]; rfl) (fun k h1 h2 => by omega) (by omega)
  have nb : ¬ nok (wd T b e) → kk (-9) C := fun h => bad (-9) (.inr ⟨h, rfl⟩) (.inl (by decide))
  refine ⟨⟨by omega, by omega⟩, fun x4 e4 => ⟨fun q => nb (fun h => by have := h.1; omega), fun q => ⟨fun q2 => nb (fun h => by have := h.2.1; omega), fun q2 => ⟨fun q3 => go (by omega) (by omega) (.inr (by omega)), fun q3 => x1t_at (i := b) hT hl rfl (by omega) ⟨fun q6 => go (by omega) (by omega) (.inl q6), fun q6 => nb (fun h => ?_)⟩⟩⟩⟩⟩
  have := h.2.2.1
  rw [wd_gd (by omega), Nat.add_zero, hlen] at this
  rcases this with hh | hh
  · exact hh q6
  · omega
theorem x4_readSign {C : hq_M} {T : List Int} {b e : Nat} {s : Int} {kk : Int → hq_M → Prop} (hT : Rw C 1 T) (hl : T.length ≤ 200) (h4 : C 7 4 = (b : Int)) (h5 : C 7 5 = (e : Int)) (hb : b ≤ e) (he : e ≤ T.length) (hs : s ≠ -9) (no : ¬ Sg T b e s → kk 0 C) (yes : Sg T b e s → ∀ b' e' C', Nx T (b + 1) b' e' → C' 7 4 = (b' : Int) → C' 7 5 = (e' : Int) → (∀ q j, ¬ (q = 7 ∧ (j = 4 ∨ j = 5)) → C' q j = C q j) → kk 1 C') : w_X4_readSign s C kk := by
  unfold w_X4_readSign
  rw [h4, h5]
  refine ⟨fun q => no (fun h => by have := h.1; omega), fun q => x6_at hT (by rw [capT]; exact hl) ?_⟩
  by_cases q2 : b < T.length
  · rw [if_pos (by omega), show ((b : Nat) : Int).toNat = b by omega]
    refine ⟨fun q3 => ⟨⟨by omega, by omega⟩, fun M7 e7 => ?_⟩, fun q3 => no (fun h => q3 h.2.2)⟩
    have f7 : ∀ q j, ¬ (q = 7 ∧ j = 5) → M7 q j = C q j := fun q j hq => by rw [e7]; simp only [hq_up]; rw [if_neg hq]
    refine x4_advance (p := b + 1) (hT.cg (f7 _ _ (by omega)) (fun j => f7 _ _ (by omega))) hl (by rw [e7, up_self]; omega) (by omega) (fun b' e' C' hN g4 g5 fC => yes ⟨by omega, q2, q3⟩ b' e' C' hN g4 g5 (fun q j hq => by rw [fC _ _ hq, f7 _ _ (by omega)]))
  · rw [if_neg (by omega)]
    exact ⟨fun q3 => absurd q3.symm hs, fun _ => no (fun h => by have := h.2.1; omega)⟩
theorem x4_isName {C : hq_M} {T : List Int} {b e : Nat} {k : Int → Prop} (hT : Rw C 1 T) (hl : T.length ≤ 200) (h4 : C 7 4 = (b : Int)) (h5 : C 7 5 = (e : Int)) (hb : b ≤ e) (he : e ≤ T.length) (no : ¬ IsNm T b e → k 0) (yes : IsNm T b e → k 1) : w_X4_isName C k := by
  unfold w_X4_isName
  rw [h4, h5]
  refine ⟨fun q => no (fun h => by have := h.1; omega), fun q => ⟨⟨by omega, by omega⟩, fun q2 => fun x7 e7 => ⟨e - b + 1, ?_⟩, fun q2 => no (fun h => by have := h.2.1; omega)⟩⟩
  have key : ∀ (d i : Nat) (z : Int), z = (i : Int) → i + d = e → b ≤ i → (∀ k, b ≤ k → k < i → 97 ≤ gd T k ∧ gd T k ≤ 122) → l_X4_isName_32 k C (d + 1) z := by
    intro d
    induction d with
    | zero =>
      intro i z hz hi hbi ha
      rw [l_X4_isName_32, h5]
      exact ⟨fun _ => yes ⟨by omega, by omega, fun k h1 h2 => ha k h1 (by omega)⟩, fun q => by omega⟩
    | succ d ih =>
      intro i z hz hi hbi ha
      rw [l_X4_isName_32, h5]
      refine ⟨fun q => by omega, fun _ => x1t_at (i := i) hT hl hz (by omega) (x4_isLetter ?_)⟩
      by_cases q3 : 97 ≤ gd T i ∧ gd T i ≤ 122
      · rw [if_pos q3]
        refine ⟨fun _ => ⟨⟨by omega, by omega⟩, fun x4 e4 => ih (i + 1) x4 (by omega) (by omega) (by omega) (fun k h1 h2 => ?_)⟩, fun e => absurd e (by decide)⟩
        by_cases q4 : k = i
        · rw [q4]; exact q3
        · exact ha k h1 (by omega)
      · rw [if_neg q3]
        exact ⟨fun e => absurd rfl e, fun _ => no (fun h => q3 (h.2.2 i hbi (by omega)))⟩
  exact key (e - b) b x7 e7 (by omega) (Nat.le_refl _) (fun k h1 h2 => by omega)
theorem x4_readWord {C : hq_M} {T : List Int} {b e a : Nat} {kk : hq_M → Prop} (hT : Rw C 1 T) (hl : T.length ≤ 200) (h4 : C 7 4 = (b : Int)) (h5 : C 7 5 = (e : Int)) (hb : b ≤ e) (he : e ≤ T.length) (h6 : e - b ≤ 6) (hcap : hq_len YC (a + 1) = 6) (ha : 8 ≤ a) (hk : ∀ b' e' C', Nx T e b' e' → C' 7 4 = (b' : Int) → C' 7 5 = (e' : Int) → Rw C' a (wd T b e) → (∀ q j, ¬ ((q = 7 ∧ (j = 4 ∨ j = 5)) ∨ q = a ∨ q = a + 1) → C' q j = C q j) → kk C') : w_X4_readWord a C kk := by
  unfold w_X4_readWord
  refine x6_empty (fun C1 r1 f1 => ?_)
  intro x3 e3
  refine ⟨e - b + 1, ?_⟩
  have key : ∀ (d i : Nat) (z : Int) (P : hq_M), z = (i : Int) → i + d = e → b ≤ i → Rw P a (wd T b i) → Fa C P a → l_X4_readWord_9 a (fun M4 => w_X4_advance M4 (fun M5 => kk M5)) kk (d + 1) z P := by
    intro d
    induction d with
    | zero =>
      intro i z P hz hi hbi hP hF
      have hie : i = e := by omega
      subst hie
      have p5 : P 7 5 = (i : Int) := by rw [hF _ _ (by omega) (by omega)]; exact h5
      rw [l_X4_readWord_9, p5]
      refine ⟨fun _ => x4_advance (hT.cg (hF _ _ (by omega) (by omega)) (fun j => hF _ _ (by omega) (by omega))) hl p5 he (fun b' e' C' hN g4 g5 fC => hk b' e' C' hN g4 g5 (hP.cg (fC _ _ (by omega)) (fun j => fC _ _ (by omega))) (fun q j hq => by rw [fC _ _ (by omega), hF _ _ (by omega) (by omega)])), fun q => by omega⟩
    | succ d ih =>
      intro i z P hz hi hbi hP hF
      have p5 : P 7 5 = (e : Int) := by rw [hF _ _ (by omega) (by omega)]; exact h5
      have hwl := wd_len T b i
      rw [l_X4_readWord_9, p5]
      refine ⟨fun q => by omega, fun _ => x1t_at (i := i) (hT.cg (hF _ _ (by omega) (by omega)) (fun j => hF _ _ (by omega) (by omega))) hl hz (by omega) (x6_add hP (by rw [hcap]; omega) (fun M3 r3 f3 => ⟨⟨by omega, by omega⟩, fun x5 e5 => ih (i + 1) x5 M3 (by omega) (by omega) (by omega) ?_ (hF.tr f3)⟩))⟩
      rw [wd_snoc hbi]
      exact r3
  exact key (e - b) b x3 C1 (by rw [e3, f1 _ _ (by omega) (by omega), h4]) (by omega) (Nat.le_refl _) (by rw [wd_nil]; exact r1) f1
