/-! ===== the mathematics, part 1: lists in memory, rows, numbers in octets ===== -/
def gd (xs : List Int) (i : Nat) : Int := xs.getD i 0
def sg (M : hq_M) (a s n : Nat) : List Int := (List.range n).map (fun i => M a (s + i))
theorem sg_len (M : hq_M) (a s n : Nat) : (sg M a s n).length = n := by simp [sg]
theorem sg_gd {M : hq_M} {a s n i : Nat} (h : i < n) : gd (sg M a s n) i = M a (s + i) := by
  simp [gd, sg, List.getD_eq_getElem?_getD, h]
theorem gd_left {xs ys : List Int} {i : Nat} (h : i < xs.length) : gd (xs ++ ys) i = gd xs i := by
  simp [gd, List.getD_eq_getElem?_getD, List.getElem?_append_left h]
theorem gd_right {xs ys : List Int} {i : Nat} : gd (xs ++ ys) (xs.length + i) = gd ys i := by
  unfold gd
  rw [List.getD_eq_getElem?_getD, List.getD_eq_getElem?_getD, List.getElem?_append_right (by omega), Nat.add_sub_cancel_left]
theorem gd_drop {xs : List Int} {t i : Nat} : gd (xs.drop t) i = gd xs (t + i) := by
  simp [gd, List.getD_eq_getElem?_getD]
theorem gd_take {xs : List Int} {t i : Nat} (h : i < t) : gd (xs.take t) i = gd xs i := by
  simp [gd, List.getD_eq_getElem?_getD, List.getElem?_take, h]
theorem gd_one {v : Int} : gd [v] 0 = v := rfl
theorem gd_snoc {xs : List Int} {v : Int} : gd (xs ++ [v]) xs.length = v := by
  have := gd_right (xs := xs) (ys := [v]) (i := 0)
  rw [Nat.add_zero] at this
  exact this
theorem ls_ext {xs ys : List Int} (h : xs.length = ys.length) (h2 : ∀ i, i < xs.length → gd xs i = gd ys i) : xs = ys := by
  apply List.ext_getElem h
  intro i h1 h3
  have := h2 i h1
  simpa [gd, List.getD_eq_getElem?_getD, h1, h3] using this
theorem sg_iff {M : hq_M} {a s n : Nat} {xs : List Int} (hl : xs.length = n) (h : ∀ i, i < n → M a (s + i) = gd xs i) : sg M a s n = xs := by
  refine ls_ext (by rw [sg_len, hl]) (fun i hi => ?_)
  rw [sg_len] at hi
  rw [sg_gd hi]
  exact h i hi
theorem sg_eq {M N : hq_M} {a b s t n : Nat} (h : ∀ i, i < n → M a (s + i) = N b (t + i)) : sg M a s n = sg N b t n :=
  sg_iff (sg_len _ _ _ _) (fun i hi => by rw [h i hi, sg_gd hi])
theorem sg_snoc (M : hq_M) (a s n : Nat) : sg M a s (n + 1) = sg M a s n ++ [M a (s + n)] := by
  simp [sg, List.range_succ]
/-- the row at a holds xs -/
def Rw (M : hq_M) (a : Nat) (xs : List Int) : Prop := M a 1 = (xs.length : Int) ∧ ∀ i, i < xs.length → M (a + 1) i = gd xs i
/-- nothing but the row at a has changed -/
def Fa (M M' : hq_M) (a : Nat) : Prop := ∀ o j, o ≠ a → o ≠ a + 1 → M' o j = M o j
theorem Fa.tr {M N P : hq_M} {a : Nat} (h : Fa M N a) (g : Fa N P a) : Fa M P a := fun o j h1 h2 => (g o j h1 h2).trans (h o j h1 h2)
theorem Fa.rf (M : hq_M) (a : Nat) : Fa M M a := fun _ _ _ _ => rfl
theorem Rw.cg {M N : hq_M} {a : Nat} {xs : List Int} (h : Rw M a xs) (h1 : N a 1 = M a 1) (h2 : ∀ i, N (a + 1) i = M (a + 1) i) : Rw N a xs :=
  ⟨h1.trans h.1, fun i hi => (h2 i).trans (h.2 i hi)⟩
theorem Rw.fa {M N : hq_M} {a b : Nat} {xs : List Int} (h : Rw M b xs) (f : Fa M N a) (hab : b ≠ a ∧ b ≠ a + 1 ∧ a ≠ b + 1) : Rw N b xs :=
  h.cg (f _ _ hab.1 hab.2.1) (fun i => f _ _ (by omega) (by omega))
theorem x6_empty {a : Nat} {M : hq_M} {k : hq_M → Prop} (hk : ∀ M', Rw M' a [] → Fa M M' a → k M') : w_X6_empty a M k := by
  unfold w_X6_empty
  intro M1 h
  subst h
  refine hk _ ⟨by simp [hq_up], by simp⟩ (fun o j h1 h2 => by simp [hq_up, h1])
theorem x6_add {a : Nat} {v : Int} {M : hq_M} {xs : List Int} {k : Int → hq_M → Prop} (h : Rw M a xs) (hc : xs.length < hq_len YC (a + 1)) (hk : ∀ M', Rw M' a (xs ++ [v]) → Fa M M' a → k 1 M') : w_X6_add a v M k := by
  have hl := hq_lenC (a + 1)
  have h1 := h.1
  unfold w_X6_add
  refine ⟨fun q => by omega, fun _ => ⟨fun _ => ⟨by omega, ?_⟩, fun q => by omega⟩⟩
  intro M5 e5
  have e : M5 a 1 = xs.length := by rw [e5]; simp [hq_up]; exact h1
  refine ⟨⟨by omega, by omega⟩, ?_⟩
  intro M8 e8
  have ht : (M a 1).toNat = xs.length := by omega
  refine hk M8 ⟨?_, ?_⟩ ?_
  · rw [e8]; simp [hq_up, e]
  · intro i hi
    rw [e8, e5, ht]
    simp at hi
    by_cases q : i = xs.length
    · subst q; rw [gd_snoc]; simp [hq_up]
    · rw [gd_left (by omega), ← h.2 i (by omega)]; simp [hq_up, q]
  · intro o j h1 h2
    rw [e8, e5]
    simp [hq_up, h1, h2]
theorem x6_add_full {a : Nat} {v : Int} {M : hq_M} {xs : List Int} {k : Int → hq_M → Prop} (h : Rw M a xs) (hc : xs.length = hq_len YC (a + 1)) (hk : k 0 M) : w_X6_add a v M k := by
  have h1 := h.1
  unfold w_X6_add
  exact ⟨fun q => by omega, fun _ => ⟨fun q => by omega, fun q => hk⟩⟩
theorem x6_at {a : Nat} {v : Int} {M : hq_M} {xs : List Int} {k : Int → Prop} (h : Rw M a xs) (hc : xs.length ≤ hq_len YC (a + 1)) (hk : k (if 0 ≤ v ∧ v < xs.length then gd xs v.toNat else -9)) : w_X6_at a v M k := by
  have h1 := h.1
  unfold w_X6_at
  refine ⟨fun q => ?_, fun q => ⟨fun q2 => ?_, fun q2 => ⟨fun q3 => ⟨⟨by omega, q3⟩, ?_⟩, fun q3 => by omega⟩⟩⟩
  · rwa [if_neg (by omega)] at hk
  · rwa [if_neg (by omega)] at hk
  · rw [if_pos ⟨by omega, by omega⟩] at hk
    rw [h.2 _ (by omega)]
    exact hk
theorem x6_addAll {a b : Nat} {M : hq_M} {xs ys : List Int} {k : hq_M → Prop} (h : Rw M a xs) (g : Rw M b ys) (hab : b ≠ a ∧ b ≠ a + 1 ∧ a ≠ b + 1) (hc : xs.length + ys.length ≤ hq_len YC (a + 1)) (hd : ys.length ≤ hq_len YC (b + 1)) (hk : ∀ M', Rw M' a (xs ++ ys) → Fa M M' a → k M') : w_X6_addAll a b M k := by
  have hl := hq_lenC (a + 1)
  have hl2 := hq_lenC (b + 1)
  unfold w_X6_addAll
  refine ⟨ys.length + 1, ?_⟩
  have key : ∀ (d i : Nat) (z : Int) (N : hq_M), z = (i : Int) → i + d = ys.length → Rw N a (xs ++ ys.take i) → Fa M N a → l_X6_addAll_2 a b k (d + 1) z N := by
    intro d
    induction d with
    | zero =>
      intro i z N hz hi hN hF
      have hb := (g.fa hF hab).1
      rw [l_X6_addAll_2]
      refine ⟨fun _ => hk N ?_ hF, fun q => by omega⟩
      rwa [List.take_of_length_le (by omega)] at hN
    | succ d ih =>
      intro i z N hz hi hN hF
      have hb := g.fa hF hab
      have hb1 := hb.1
      have hn1 := hN.1
      have hle : (xs ++ ys.take i).length = xs.length + i := by simp; omega
      rw [hle] at hn1
      have hzi : z.toNat = i := by omega
      have hni : (N a 1).toNat = xs.length + i := by omega
      rw [l_X6_addAll_2]
      refine ⟨fun q => by omega, fun _ => ⟨fun q => by omega, fun _ => ⟨fun q => by omega, fun _ => ⟨fun q => by omega, fun _ => ⟨⟨by omega, by omega⟩, ⟨by omega, by omega⟩, ?_⟩⟩⟩⟩⟩
      intro M7 e7
      have e : M7 a 1 = ((xs.length + i : Nat) : Int) := by rw [e7]; simp [hq_up]; omega
      refine ⟨⟨by omega, by omega⟩, ?_⟩
      intro M10 e10
      refine ⟨⟨by omega, by omega⟩, ?_⟩
      intro x11 e11
      rw [hzi, hni] at e7
      have hy : N (b + 1) i = gd ys i := hb.2 i (by omega)
      refine ih (i + 1) x11 M10 (by omega) (by omega) ⟨?_, ?_⟩ (hF.tr ?_)
      · rw [e10]
        have : (xs ++ ys.take (i + 1)).length = xs.length + (i + 1) := by simp; omega
        rw [this]
        simp [hq_up]
        omega
      · intro j hj
        have : (xs ++ ys.take (i + 1)).length = xs.length + (i + 1) := by simp; omega
        rw [this] at hj
        rw [e10, e7]
        by_cases q : j = xs.length + i
        · subst q
          rw [gd_right, gd_take (by omega), ← hy]
          simp [hq_up]
        · have hj2 := hN.2 j (by omega)
          have e3 : gd (xs ++ ys.take (i + 1)) j = gd (xs ++ ys.take i) j := by
            by_cases q2 : j < xs.length
            · rw [gd_left q2, gd_left q2]
            · obtain ⟨t, rfl⟩ := Nat.exists_eq_add_of_le (Nat.not_lt.mp q2)
              rw [gd_right, gd_right, gd_take (by omega), gd_take (by omega)]
          rw [e3, ← hj2]
          simp [hq_up, q]
      · intro o j h1 h2
        rw [e10, e7]
        simp [hq_up, h1, h2]
  exact key ys.length 0 0 M rfl (by omega) (by simpa using h) (Fa.rf M a)
theorem x6_addWord {a b : Nat} {v : Int} {M : hq_M} {xs ys : List Int} {k : hq_M → Prop} (hv : 0 ≤ v ∧ v ≤ 255) (h : Rw M a xs) (g : Rw M b ys) (hab : b ≠ a ∧ b ≠ a + 1 ∧ a ≠ b + 1) (hc : xs.length + 1 + ys.length ≤ hq_len YC (a + 1)) (hd : ys.length ≤ hq_len YC (b + 1)) (hk : ∀ M', Rw M' a (xs ++ ((v + ys.length) :: ys)) → Fa M M' a → k M') : w_X6_addWord a v b M k := by
  have hl2 := hq_lenC (b + 1)
  have g1 := g.1
  unfold w_X6_addWord
  refine ⟨⟨by omega, by omega⟩, ?_⟩
  refine x6_add h (by omega) (fun M3 h3 f3 => ?_)
  refine x6_addAll h3 (g.fa f3 hab) hab (by simp; omega) hd (fun M5 h5 f5 => hk M5 ?_ (f3.tr f5))
  rw [g1] at h5
  simpa using h5
theorem x6_same {a b : Nat} {M : hq_M} {xs ys : List Int} {k : Int → Prop} (h : Rw M a xs) (g : Rw M b ys) (hc : xs.length ≤ hq_len YC (a + 1)) (hd : ys.length ≤ hq_len YC (b + 1)) (hk : k (if xs = ys then 1 else 0)) : w_X6_same a b M k := by
  have hl := hq_lenC (a + 1)
  have h1 := h.1
  have g1 := g.1
  unfold w_X6_same
  refine ⟨fun q => ⟨xs.length + 1, ?_⟩, fun q => ?_⟩
  · have hll : xs.length = ys.length := by omega
    have key : ∀ (d i : Nat) (z : Int), z = (i : Int) → i + d = xs.length → (∀ j, j < i → gd xs j = gd ys j) → l_X6_same_15 a b k M (d + 1) z := by
      intro d
      induction d with
      | zero =>
        intro i z hz hi hj
        rw [l_X6_same_15]
        refine ⟨fun _ => ?_, fun q => by omega⟩
        rwa [if_pos (ls_ext hll (fun j hj2 => hj j (by omega)))] at hk
      | succ d ih =>
        intro i z hz hi hj
        have hzi : z.toNat = i := by omega
        rw [l_X6_same_15, hzi, h.2 i (by omega), g.2 i (by omega)]
        refine ⟨fun q => by omega, fun _ => ⟨fun q => by omega, fun _ => ⟨fun q => by omega, fun _ => ⟨⟨by omega, by omega⟩, ⟨by omega, by omega⟩, fun q => ⟨⟨by omega, by omega⟩, ?_⟩, fun q => ?_⟩⟩⟩⟩
        · intro x6 e6
          refine ih (i + 1) x6 (by omega) (by omega) (fun j hj2 => ?_)
          by_cases q2 : j = i
          · rw [q2]; exact q
          · exact hj j (by omega)
        · rwa [if_neg (fun e => q (by rw [e]))] at hk
    exact key xs.length 0 0 rfl (by omega) (fun j hj => absurd hj (by omega))
  · rwa [if_neg (fun e => q (by rw [h1, g1, e]))] at hk
theorem x6_drop {a : Nat} {v : Int} {M : hq_M} {xs : List Int} {k : hq_M → Prop} (hv : 0 ≤ v) (h : Rw M a xs) (hc : xs.length ≤ hq_len YC (a + 1)) (hk : ∀ M', Rw M' a (xs.drop v.toNat) → Fa M M' a → k M') : w_X6_drop a v M k := by
  have hl := hq_lenC (a + 1)
  have h1 := h.1
  unfold w_X6_drop
  intro x2 e2
  obtain ⟨t, ht, htl, hdr⟩ : ∃ t : Nat, x2 = (t : Int) ∧ t ≤ xs.length ∧ xs.drop v.toNat = xs.drop t := by
    refine ⟨min v.toNat xs.length, ?_, Nat.min_le_right _ _, ?_⟩
    · rw [e2, h1]; omega
    · rw [Nat.min_def]; split
      · rfl
      · rw [List.drop_of_length_le (by omega), List.drop_of_length_le (Nat.le_refl _)]
  rw [hdr] at hk
  refine ⟨xs.length - t + 1, ?_⟩
  have key : ∀ (d i : Nat) (z : Int) (N : hq_M), z = (i : Int) → i + d = xs.length → t ≤ i → N a 1 = M a 1 → (∀ j, j < i - t → N (a + 1) j = gd xs (t + j)) → (∀ j, i - t ≤ j → N (a + 1) j = M (a + 1) j) → Fa M N a → l_X6_drop_15 a x2 (fun M3 => rg ((M3 a 1) - x2) ∧ ∀ M6 : hq_M, M6 = hq_up M3 a 1 ((M3 a 1) - x2) → k M6) k (d + 1) z N := by
    intro d
    induction d with
    | zero =>
      intro i z N hz hi hti hc1 hlo hhi hF
      rw [l_X6_drop_15]
      refine ⟨fun _ => ⟨⟨by omega, by omega⟩, ?_⟩, fun q => by omega⟩
      intro M6 e6
      refine hk M6 ⟨?_, ?_⟩ (hF.tr ?_)
      · rw [e6]; simp [hq_up]; omega
      · intro j hj
        simp at hj
        rw [gd_drop, e6, ← hlo j (by omega)]
        simp [hq_up]
      · intro o j q1 q2
        rw [e6]
        simp [hq_up, q1]
    | succ d ih =>
      intro i z N hz hi hti hc1 hlo hhi hF
      have e1 : z.toNat = i := by omega
      have e3 : (z - x2).toNat = i - t := by omega
      rw [l_X6_drop_15, e1, e3]
      refine ⟨fun q => by omega, fun _ => ⟨fun q => by omega, fun _ => ⟨⟨by omega, by omega⟩, ⟨by omega, by omega⟩, ⟨by omega, by omega⟩, ?_⟩⟩⟩
      intro M6 e6
      refine ⟨⟨by omega, by omega⟩, ?_⟩
      intro x7 e7
      refine ih (i + 1) x7 M6 (by omega) (by omega) (by omega) ?_ ?_ ?_ (hF.tr ?_)
      · rw [e6]; simp [hq_up]; exact hc1
      · intro j hj
        rw [e6]
        by_cases q : j = i - t
        · subst q
          simp [hq_up]
          rw [hhi i (by omega), h.2 i (by omega)]
          congr 1
          omega
        · simp [hq_up, q]
          exact hlo j (by omega)
      · intro j hj
        rw [e6]
        simp [hq_up, show ¬ j = i - t by omega]
        exact hhi j (by omega)
      · intro o j q1 q2
        rw [e6]
        simp [hq_up, q2]
  exact key (xs.length - t) t x2 M ht (by omega) (Nat.le_refl t) rfl (fun j hj => absurd hj (by omega)) (fun j _ => rfl) (Fa.rf M a)
theorem x6_removeLast {a : Nat} {M : hq_M} {xs : List Int} {v : Int} {k : Int → hq_M → Prop} (h : Rw M a (xs ++ [v])) (hc : xs.length + 1 ≤ hq_len YC (a + 1)) (hk : ∀ M', Rw M' a xs → Fa M M' a → k v M') : w_X6_removeLast a M k := by
  have hl := hq_lenC (a + 1)
  have h1 : M a 1 = ((xs.length + 1 : Nat) : Int) := by rw [h.1]; simp
  unfold w_X6_removeLast
  refine ⟨⟨by omega, by omega⟩, ?_⟩
  refine x6_at h (by simpa using hc) ?_
  rw [if_pos ⟨by omega, by simp; omega⟩, show (M a 1 - 1).toNat = xs.length by omega, gd_snoc]
  refine ⟨⟨by omega, by omega⟩, ?_⟩
  intro M6 e6
  refine hk M6 ⟨?_, ?_⟩ ?_
  · rw [e6]; simp [hq_up]; rw [Int.max_def]; split <;> omega
  · intro i hi
    rw [e6, ← gd_left (ys := [v]) hi, ← h.2 i (by simp; omega)]
    simp [hq_up]
  · intro o j q1 q2
    rw [e6]
    simp [hq_up, q1]
/-! numbers in octets -/
def pw (b : Int) : Int := ((2 ^ b.toNat : Nat) : Int)
theorem pw_bd {b : Int} (h : 1 ≤ b ∧ b ≤ 8) : 2 ≤ pw b ∧ pw b ≤ 256 := by
  have : b = 1 ∨ b = 2 ∨ b = 3 ∨ b = 4 ∨ b = 5 ∨ b = 6 ∨ b = 7 ∨ b = 8 := by omega
  rcases this with rfl | rfl | rfl | rfl | rfl | rfl | rfl | rfl <;> decide
def grp : Nat → Int → List Int
  | 0, v => [v]
  | n + 1, v => if v < 128 then [v] else (128 + v % 128) :: grp n (v / 128)
def octs (h b v : Int) : List Int := if pw b - 1 ≤ v then (h + (pw b - 1)) :: grp 4 (v - (pw b - 1)) else [h + v]
theorem grp_len (n : Nat) (v : Int) : 1 ≤ (grp n v).length ∧ (grp n v).length ≤ n + 1 := by
  induction n generalizing v with
  | zero => simp [grp]
  | succ n ih =>
    rw [grp]
    split
    · simp
    · have := ih (v / 128)
      simp
      omega
theorem grp_small {n : Nat} {v : Int} (h : v < 128) : grp n v = [v] := by
  cases n with
  | zero => rfl
  | succ n => rw [grp, if_pos h]
theorem octs_len (h b v : Int) : 1 ≤ (octs h b v).length ∧ (octs h b v).length ≤ 6 := by
  unfold octs
  split
  · have := grp_len 4 (v - (pw b - 1))
    simp
    omega
  · simp
theorem octs_one {h b v : Int} (hv : v < pw b - 1) : octs h b v = [h + v] := by
  unfold octs
  rw [if_neg (by omega)]
theorem octs_two {h b v : Int} (hv : v < pw b - 1 + 128) : (octs h b v).length ≤ 2 := by
  unfold octs
  split
  · rw [grp_small (by omega)]; simp
  · simp
theorem x6_addInteger {a : Nat} {h b v : Int} {M : hq_M} {xs : List Int} {k : hq_M → Prop} (hb : 1 ≤ b ∧ b ≤ 8) (hh : 0 ≤ h ∧ h ≤ 255) (hv : 0 ≤ v ∧ v ≤ 2147483647) (hr : Rw M a xs) (hc : xs.length + (octs h b v).length ≤ hq_len YC (a + 1)) (hk : ∀ M', Rw M' a (xs ++ octs h b v) → Fa M M' a → k M') : w_X6_addInteger a h b v M k := by
  have hp := pw_bd hb
  have e1 : 1 * ((2 ^ b.toNat : Nat) : Int) = pw b := Int.one_mul _
  have key : ∀ (d : Nat) (z c : Int) (N : hq_M) (ys : List Int), d ≤ 4 → c = 4 - (d : Int) → 0 ≤ z → Rw N a ys → ys.length + (grp d z).length ≤ hq_len YC (a + 1) → Fa M N a → (∀ N', Rw N' a (ys ++ grp d z) → Fa M N' a → k N') → l_X6_addInteger_40 a (fun x11 M10 => w_X6_add a x11 M10 (fun x13 M12 => k M12)) k (d + 1) z c N := by
    intro d
    induction d with
    | zero =>
      intro z c N ys hd hcz hz hN hcl hF hk2
      rw [grp] at hcl hk2
      rw [l_X6_addInteger_40]
      refine ⟨fun _ => ?_, fun q => by omega⟩
      exact x6_add hN (by simp at hcl; omega) (fun M12 h12 f12 => hk2 M12 h12 (hF.tr f12))
    | succ d ih =>
      intro z c N ys hd hcz hz hN hcl hF hk2
      rw [grp] at hcl hk2
      rw [l_X6_addInteger_40]
      refine ⟨fun q => by omega, fun _ => ⟨fun q => ?_, fun q => ?_⟩⟩
      · rw [if_pos q] at hcl hk2
        exact x6_add hN (by simp at hcl; omega) (fun M12 h12 f12 => hk2 M12 h12 (hF.tr f12))
      · rw [if_neg q] at hcl hk2
        simp only [List.length_cons] at hcl
        refine ⟨⟨by omega, by omega⟩, ?_⟩
        refine x6_add hN (by omega) (fun M2 h2 f2 => ⟨hz, ?_⟩)
        intro x5 e5
        refine ⟨⟨by omega, by omega⟩, ?_⟩
        intro x6 e6
        subst e5
        refine ih (z / 128) x6 M2 (ys ++ [128 + z % 128]) (by omega) (by omega) (by omega) h2 (by simp; omega) (hF.tr f2) (fun N' h' f' => hk2 N' ?_ f')
        simpa using h'
  unfold w_X6_addInteger
  rw [e1]
  refine ⟨by omega, ⟨by omega, by omega⟩, ⟨by omega, by omega⟩, ?_⟩
  intro x4 e4
  subst e4
  unfold octs at hc hk
  refine ⟨fun q => ⟨⟨by omega, by omega⟩, ?_⟩, fun q => ⟨⟨by omega, by omega⟩, ?_⟩⟩
  · rw [if_pos q] at hc hk
    simp only [List.length_cons] at hc
    refine x6_add hr (by omega) (fun M6 h6 f6 => ⟨⟨by omega, by omega⟩, ?_⟩)
    intro x9 e9
    subst e9
    refine ⟨5, key 4 _ 0 M6 (xs ++ [h + (pw b - 1)]) (by omega) (by omega) (by omega) h6 (by simp; omega) f6 (fun N' h' f' => hk N' ?_ f')⟩
    simpa using h'
  · rw [if_neg q] at hc hk
    exact x6_add hr (by simp at hc; omega) hk
/-! the same of the reference: what it lays for one number, name, value -/
def In (M : hq_M) (xs : List Int) : Prop := M 0 49 = (xs.length : Int) ∧ ∀ i, i < xs.length → M 28 i = gd xs i
def Fi (M M' : hq_M) : Prop := ∀ o j, o ≠ 28 → ¬ (o = 0 ∧ j = 49) → M' o j = M o j
theorem Fi.tr {M N P : hq_M} (h : Fi M N) (g : Fi N P) : Fi M P := fun o j h1 h2 => (g o j h1 h2).trans (h o j h1 h2)
theorem Fi.rf (M : hq_M) : Fi M M := fun _ _ _ _ => rfl
theorem In.new {M N : hq_M} (h : N = hq_up M 0 49 0) : In N [] ∧ Fi M N := by
  subst h
  refine ⟨⟨by simp [hq_up], by simp⟩, fun o j h1 h2 => by simp [hq_up, h2]⟩
theorem m_lays {v : Int} {M : hq_M} {xs : List Int} {k : hq_M → Prop} (h : In M xs) (hc : xs.length < 32) (hk : ∀ M', In M' (xs ++ [v]) → Fi M M' → k M') : w_X12_lays v M k := by
  have h1 := h.1
  have ht : (M 0 49).toNat = xs.length := by omega
  unfold w_X12_lays
  rw [ht]
  refine ⟨⟨by omega, by omega⟩, ?_⟩
  intro M3 e3
  have e : M3 0 49 = xs.length := by rw [e3]; simp [hq_up]; exact h1
  refine ⟨⟨by omega, by omega⟩, ?_⟩
  intro M6 e6
  refine hk M6 ⟨?_, ?_⟩ ?_
  · rw [e6]; simp [hq_up, e]
  · intro i hi
    rw [e6, e3]
    simp at hi
    by_cases q : i = xs.length
    · subst q; rw [gd_snoc]; simp [hq_up]
    · rw [gd_left (by omega), ← h.2 i (by omega)]; simp [hq_up, q]
  · intro o j h1 h2
    rw [e6, e3]
    simp [hq_up, h1, h2]
theorem m_laysNumber {h b v : Int} {M : hq_M} {xs : List Int} {k : hq_M → Prop} (hb : 1 ≤ b ∧ b ≤ 8) (hh : 0 ≤ h ∧ h ≤ 255) (hv : 0 ≤ v ∧ v ≤ 2147483647) (hr : In M xs) (hc : xs.length + (octs h b v).length ≤ 32) (hk : ∀ M', In M' (xs ++ octs h b v) → Fi M M' → k M') : w_X12_laysNumber h b v M k := by
  have hp := pw_bd hb
  have e1 : 1 * ((2 ^ b.toNat : Nat) : Int) = pw b := Int.one_mul _
  have key : ∀ (d : Nat) (z : Int) (N : hq_M) (ys : List Int), 0 ≤ z → z < 128 ^ (d + 1) → In N ys → ys.length + (grp d z).length ≤ 32 → Fi M N → (∀ N', In N' (ys ++ grp d z) → Fi M N' → k N') → l_X12_laysNumber_35 (fun x10 M9 => w_X12_lays x10 M9 (fun M11 => k M11)) k (d + 1) z N := by
    intro d
    induction d with
    | zero =>
      intro z N ys hz hz2 hN hcl hF hk2
      rw [grp] at hcl hk2
      rw [l_X12_laysNumber_35]
      refine ⟨fun _ => ?_, fun q => by omega⟩
      exact m_lays hN (by simp at hcl; omega) (fun M12 h12 f12 => hk2 M12 h12 (hF.tr f12))
    | succ d ih =>
      intro z N ys hz hz2 hN hcl hF hk2
      rw [grp] at hcl hk2
      rw [l_X12_laysNumber_35]
      refine ⟨fun q => ?_, fun q => ?_⟩
      · rw [if_pos (by omega)] at hcl hk2
        exact m_lays hN (by simp at hcl; omega) (fun M12 h12 f12 => hk2 M12 h12 (hF.tr f12))
      · rw [if_neg (by omega)] at hcl hk2
        simp only [List.length_cons] at hcl
        refine ⟨⟨hz, by decide⟩, ⟨by omega, by omega⟩, ?_⟩
        refine m_lays hN (by omega) (fun M2 h2 f2 => ⟨⟨hz, by decide⟩, ?_⟩)
        intro x5 e5
        subst e5
        have hz3 : z / 128 < 128 ^ (d + 1) := by
          rw [Int.pow_succ] at hz2
          exact Int.ediv_lt_of_lt_mul (by decide) hz2
        refine ih (z / 128) M2 (ys ++ [128 + z % 128]) (by omega) hz3 h2 (by simp; omega) (hF.tr f2) (fun N' h' f' => hk2 N' ?_ f')
        simpa using h'
  unfold w_X12_laysNumber
  rw [e1]
  refine ⟨by omega, ⟨by omega, by omega⟩, ⟨by omega, by omega⟩, ?_⟩
  intro x4 e4
  subst e4
  unfold octs at hc hk
  refine ⟨fun q => ⟨⟨by omega, by omega⟩, ?_⟩, fun q => ⟨⟨by omega, by omega⟩, ?_⟩⟩
  · rw [if_pos q] at hc hk
    simp only [List.length_cons] at hc
    refine m_lays hr (by omega) (fun M6 h6 f6 => ⟨⟨by omega, by omega⟩, ?_⟩)
    intro x9 e9
    subst e9
    have hz : v - (pw b - 1) < 128 ^ (4 + 1) := by
      have : (128 : Int) ^ (4 + 1) = 34359738368 := by decide
      omega
    refine ⟨5, key 4 _ M6 (xs ++ [h + (pw b - 1)]) (by omega) hz h6 (by simp; omega) f6 (fun N' h' f' => hk N' ?_ f')⟩
    simpa using h'
  · rw [if_neg q] at hc hk
    exact m_lays hr (by simp at hc; omega) hk
def nm (M : hq_M) (f : Nat) : List Int := sg M 3 (6 * f) (M 1 f).toNat
def vl (M : hq_M) (f : Nat) : List Int := sg M 4 (6 * f) (M 2 f).toNat
theorem nm_cg {M N : hq_M} {f : Nat} (h1 : N 1 f = M 1 f) (h2 : ∀ j, N 3 j = M 3 j) : nm N f = nm M f := by
  unfold nm; rw [h1]; exact sg_eq (fun i _ => h2 _)
theorem vl_cg {M N : hq_M} {f : Nat} (h1 : N 2 f = M 2 f) (h2 : ∀ j, N 4 j = M 4 j) : vl N f = vl M f := by
  unfold vl; rw [h1]; exact sg_eq (fun i _ => h2 _)
theorem m_laysName {v : Int} {f : Nat} {M : hq_M} {xs : List Int} {k : hq_M → Prop} (hv : v = (f : Int)) (hf : f < 32) (hn : 0 ≤ M 1 f ∧ M 1 f ≤ 6) (h : In M xs) (hc : xs.length + (nm M f).length ≤ 32) (hk : ∀ M', In M' (xs ++ nm M f) → Fi M M' → k M') : w_X12_laysName v M k := by
  have hl : (nm M f).length = (M 1 f).toNat := sg_len _ _ _ _
  have hvn : v.toNat = f := by omega
  unfold w_X12_laysName
  refine ⟨(M 1 f).toNat + 1, ?_⟩
  have key : ∀ (d i : Nat) (z : Int) (N : hq_M), z = (i : Int) → i + d = (M 1 f).toNat → In N (xs ++ (nm M f).take i) → Fi M N → l_X12_laysName_2 v k (d + 1) z N := by
    intro d
    induction d with
    | zero =>
      intro i z N hz hi hN hF
      have hb : N 1 f = M 1 f := hF 1 f (by decide) (by simp)
      rw [l_X12_laysName_2, hvn, hb]
      refine ⟨⟨by omega, by omega⟩, fun _ => hk N ?_ hF, fun q => by omega⟩
      rwa [List.take_of_length_le (by omega)] at hN
    | succ d ih =>
      intro i z N hz hi hN hF
      have hb : N 1 f = M 1 f := hF 1 f (by decide) (by simp)
      have hle : (xs ++ (nm M f).take i).length = xs.length + i := by simp; omega
      rw [l_X12_laysName_2, hvn, hb, show (6 * v + z).toNat = 6 * f + i by omega]
      refine ⟨⟨by omega, by omega⟩, fun q => by omega, fun _ => ⟨⟨by omega, by omega⟩, ⟨by omega, by omega⟩, ⟨by omega, by omega⟩, ?_⟩⟩
      refine m_lays hN (by rw [hle]; omega) (fun M7 h7 f7 => ⟨⟨by omega, by omega⟩, ?_⟩)
      intro x8 e8
      refine ih (i + 1) x8 M7 (by omega) (by omega) ?_ (hF.tr f7)
      have e3 : N 3 (6 * f + i) = gd (nm M f) i := by
        rw [hF 3 _ (by decide) (by simp)]
        exact (sg_gd (by omega)).symm
      rw [e3, List.append_assoc] at h7
      have e4 : (nm M f).take (i + 1) = (nm M f).take i ++ [gd (nm M f) i] := by
        rw [List.take_succ]
        congr 1
        simp [gd, List.getD_eq_getElem?_getD, show i < (nm M f).length by omega]
      rw [e4]
      exact h7
  exact key _ 0 0 M rfl (by omega) (by simpa using h) (Fi.rf M)
theorem m_laysValue {v : Int} {f : Nat} {M : hq_M} {xs : List Int} {k : hq_M → Prop} (hv : v = (f : Int)) (hf : f < 32) (hn : 0 ≤ M 2 f ∧ M 2 f ≤ 6) (h : In M xs) (hc : xs.length + 1 + (vl M f).length ≤ 32) (hk : ∀ M', In M' (xs ++ (0 + ((vl M f).length : Int)) :: vl M f) → Fi M M' → k M') : w_X12_laysValue v M k := by
  have hl : (vl M f).length = (M 2 f).toNat := sg_len _ _ _ _
  have hvn : v.toNat = f := by omega
  have ho : octs 0 7 (M 2 f) = [0 + ((vl M f).length : Int)] := by
    rw [octs_one (show M 2 f < pw 7 - 1 from Int.lt_of_le_of_lt hn.2 (by decide)), hl, Int.toNat_of_nonneg hn.1]
  unfold w_X12_laysValue
  rw [hvn]
  refine ⟨⟨by omega, by omega⟩, ?_⟩
  refine m_laysNumber (by decide) (by decide) ⟨by omega, by omega⟩ h (by rw [ho]; simp; omega) (fun M3 h3 f3 => ?_)
  rw [ho] at h3
  refine ⟨(M 2 f).toNat + 1, ?_⟩
  have key : ∀ (d i : Nat) (z : Int) (N : hq_M), z = (i : Int) → i + d = (M 2 f).toNat → In N (xs ++ [0 + ((vl M f).length : Int)] ++ (vl M f).take i) → Fi M N → l_X12_laysValue_15 v k (d + 1) z N := by
    intro d
    induction d with
    | zero =>
      intro i z N hz hi hN hF
      have hb : N 2 f = M 2 f := hF 2 f (by decide) (by simp)
      rw [l_X12_laysValue_15, hvn, hb]
      refine ⟨⟨by omega, by omega⟩, fun _ => hk N ?_ hF, fun q => by omega⟩
      rw [List.take_of_length_le (by omega)] at hN
      simpa using hN
    | succ d ih =>
      intro i z N hz hi hN hF
      have hb : N 2 f = M 2 f := hF 2 f (by decide) (by simp)
      have hle : (xs ++ [0 + ((vl M f).length : Int)] ++ (vl M f).take i).length = xs.length + 1 + i := by simp; omega
      rw [l_X12_laysValue_15, hvn, hb, show (6 * v + z).toNat = 6 * f + i by omega]
      refine ⟨⟨by omega, by omega⟩, fun q => by omega, fun _ => ⟨⟨by omega, by omega⟩, ⟨by omega, by omega⟩, ⟨by omega, by omega⟩, ?_⟩⟩
      refine m_lays hN (by rw [hle]; omega) (fun M7 h7 f7 => ⟨⟨by omega, by omega⟩, ?_⟩)
      intro x8 e8
      refine ih (i + 1) x8 M7 (by omega) (by omega) ?_ (hF.tr f7)
      have e3 : N 4 (6 * f + i) = gd (vl M f) i := by
        rw [hF 4 _ (by decide) (by simp)]
        exact (sg_gd (by omega)).symm
      rw [e3, List.append_assoc] at h7
      have e4 : (vl M f).take (i + 1) = (vl M f).take i ++ [gd (vl M f) i] := by
        rw [List.take_succ]
        congr 1
        simp [gd, List.getD_eq_getElem?_getD, show i < (vl M f).length by omega]
      rw [e4]
      exact h7
  exact key _ 0 0 M3 rfl (by omega) (by simpa using h3) f3
