/-! ===== the mathematics, part 7: coded, number ===== -/
theorem w3_int {x : Int} (h : rg x) : (w3 x).toInt = x := by
  unfold w3
  rw [Int32.toInt_ofInt_of_le h.1 (by have := h.2; omega)]
theorem grp_bd {n : Nat} {v : Int} (h0 : 0 ≤ v) (hv : v < 128 ^ (n + 1)) : ∀ x, x ∈ grp n v → 0 ≤ x ∧ x ≤ 255 := by
  induction n generalizing v with
  | zero =>
    intro x hx
    rw [grp] at hx
    simp at hx
    have : (128 : Int) ^ (0 + 1) = 128 := by decide
    omega
  | succ n ih =>
    intro x hx
    rw [grp] at hx
    split at hx
    · simp at hx
      omega
    · simp at hx
      rcases hx with hx | hx
      · omega
      · refine ih (v := v / 128) (by omega) ?_ x hx
        rw [Int.pow_succ] at hv
        exact Int.ediv_lt_of_lt_mul (by decide) hv
theorem octs_bd {h b v : Int} (hb : 1 ≤ b ∧ b ≤ 8) (hh : 0 ≤ h ∧ h + pw b ≤ 256) (hv : 0 ≤ v ∧ v ≤ 2147483647) : ∀ x, x ∈ octs h b v → 0 ≤ x ∧ x ≤ 255 := by
  have hp := pw_bd hb
  intro x hx
  unfold octs at hx
  split at hx
  · simp at hx
    rcases hx with hx | hx
    · omega
    · refine grp_bd (n := 4) (by omega) ?_ x hx
      have : (128 : Int) ^ (4 + 1) = 34359738368 := by decide
      omega
  · simp at hx
    omega
def ac (xs : List Int) : Int := xs.foldl (fun a x => a * 256 + x) 0
def pb : Nat → Int
  | 0 => 1
  | i + 1 => 256 * pb i
theorem pb_le : ∀ i, i < 7 → pb i ≤ 281474976710656 := by decide
theorem take_snoc {xs : List Int} {i : Nat} (h : i < xs.length) : xs.take (i + 1) = xs.take i ++ [gd xs i] := by
  rw [List.take_succ]
  congr 1
  simp [gd, List.getD_eq_getElem?_getD, h]
theorem gd_mem {xs : List Int} {i : Nat} (h : i < xs.length) : gd xs i ∈ xs := by
  unfold gd
  rw [List.getD_eq_getElem?_getD, List.getElem?_eq_getElem h]
  exact List.getElem_mem h
theorem ac_take {xs : List Int} {i : Nat} (h : i < xs.length) : ac (xs.take (i + 1)) = ac (xs.take i) * 256 + gd xs i := by
  unfold ac
  rw [take_snoc h, List.foldl_append]
  rfl
theorem c_coded {C : hq_M} {xs : List Int} {k : Int → hq_M → Prop} (h : Rw C 5 xs) (hl : xs.length ≤ 6) (hx : ∀ x, x ∈ xs → 0 ≤ x ∧ x ≤ 255) (hk : k (ac xs) C) : ∃ m41, l_X11_coded_41 k m41 0 0 C := by
  refine ⟨xs.length + 1, ?_⟩
  have h1 := h.1
  have key : ∀ (d i : Nat) (y z : Int), z = (i : Int) → i + d = xs.length → y = ac (xs.take i) → 0 ≤ y → y < pb i → l_X11_coded_41 k (d + 1) y z C := by
    intro d
    induction d with
    | zero =>
      intro i y z hz hi hy h0 hp
      rw [l_X11_coded_41]
      refine ⟨fun _ => ?_, fun q => by omega⟩
      rw [hy, List.take_of_length_le (by omega)]
      exact hk
    | succ d ih =>
      intro i y z hz hi hy h0 hp
      have hpl := pb_le i (by omega)
      have hg := hx _ (gd_mem (xs := xs) (i := i) (by omega))
      rw [l_X11_coded_41]
      refine ⟨fun q => by omega, fun _ => ⟨⟨by omega, by omega⟩, x6_at h (by rw [capS]; omega) ?_⟩⟩
      rw [if_pos (by omega), show z.toNat = i by omega]
      refine ⟨⟨by omega, by omega⟩, fun x5 e5 => ⟨⟨by omega, by omega⟩, fun x6 e6 => ih (i + 1) x5 x6 (by omega) (by omega) ?_ (by omega) ?_⟩⟩
      · rw [e5, hy, ac_take (by omega)]
      · rw [e5, pb]; omega
  exact key _ 0 0 0 rfl (by omega) rfl (Int.le_refl 0) (by decide)
theorem m_coded {M : hq_M} {xs : List Int} {k : Int → hq_M → Prop} (h : In M xs) (hl : xs.length ≤ 6) (hx : ∀ x, x ∈ xs → 0 ≤ x ∧ x ≤ 255) (hk : k (ac xs) M) : ∃ m37, l_X12_coded_37 k m37 0 0 M := by
  refine ⟨xs.length + 1, ?_⟩
  have h1 := h.1
  have key : ∀ (d i : Nat) (y z : Int), z = (i : Int) → i + d = xs.length → y = ac (xs.take i) → 0 ≤ y → y < pb i → l_X12_coded_37 k (d + 1) y z M := by
    intro d
    induction d with
    | zero =>
      intro i y z hz hi hy h0 hp
      rw [l_X12_coded_37]
      refine ⟨fun _ => ?_, fun q => by omega⟩
      rw [hy, List.take_of_length_le (by omega)]
      exact hk
    | succ d ih =>
      intro i y z hz hi hy h0 hp
      have hpl := pb_le i (by omega)
      have hg := hx _ (gd_mem (xs := xs) (i := i) (by omega))
      rw [l_X12_coded_37, show z.toNat = i by omega, h.2 i (by omega)]
      refine ⟨fun q => by omega, fun _ => ⟨⟨by omega, by omega⟩, ⟨by omega, by omega⟩, ⟨by omega, by omega⟩, fun x5 e5 => ⟨⟨by omega, by omega⟩, fun x6 e6 => ih (i + 1) x5 x6 (by omega) (by omega) ?_ (by omega) ?_⟩⟩⟩
      · rw [e5, hy, ac_take (by omega)]; omega
      · rw [e5, pb]; omega
  exact key _ 0 0 0 rfl (by omega) rfl (Int.le_refl 0) (by decide)
theorem o_coded {u : Nat} {C M : hq_M} (h : JJ u C M) (v w : Int) (rw' : rg w) : w_X11_coded v w C (fun z C' => w_X12_coded v w M (fun z' M' => z = z' ∧ JJ u C' M')) := by
  have hJ := h
  obtain ⟨hT, hD, -⟩ := h
  have bad : ¬ ((1 ≤ v ∧ v ≤ 8) ∧ 0 ≤ w) → w_X12_coded v w M (fun z' M' => -1 = z' ∧ JJ u C M') := by
    intro hn
    unfold w_X12_coded
    refine m_in ?_
    by_cases q : 1 ≤ v ∧ v ≤ 8
    · rw [if_pos q]
      exact ⟨fun e => absurd e (by decide), fun _ => ⟨fun e => absurd ⟨q, e⟩ hn, fun _ => ⟨rfl, hJ⟩⟩⟩
    · rw [if_neg q]
      exact ⟨fun _ => ⟨rfl, hJ⟩, fun e => absurd rfl e⟩
  unfold w_X11_coded
  refine ⟨fun q => bad (by omega), fun q => ⟨fun q2 => bad (by omega), fun q2 => ⟨fun q3 => ?_, fun q3 => bad (by omega)⟩⟩⟩
  have ol := octs_len 0 v w
  have hpw := pw_bd (b := v) (by omega)
  have ob := octs_bd (h := 0) (b := v) (v := w) (by omega) (by omega) ⟨q3, rw'.2⟩
  refine x6_empty (fun C1 r1 f1 => x6_addInteger (by omega) (by decide) ⟨q3, rw'.2⟩ r1 (by rw [capS]; simp; omega) (fun C2 r2 f2 => ?_))
  rw [List.nil_append] at r2
  refine c_coded r2 ol.2 ob ?_
  unfold w_X12_coded
  refine m_in ?_
  rw [if_pos (by omega)]
  refine ⟨fun e => absurd e (by decide), fun _ => ⟨fun _ => fun M2 e2 => ?_, fun e => absurd q3 e⟩⟩
  obtain ⟨i2, g2⟩ := In.new e2
  refine m_laysNumber (by omega) (by decide) ⟨q3, rw'.2⟩ i2 (by simp; omega) (fun M3 i3 g3 => ?_)
  rw [List.nil_append] at i3
  refine m_coded i3 ol.2 ob ⟨rfl, ?_⟩
  have fC := f1.tr f2
  have fM := g2.tr g3
  exact hJ.put (hT.cg (fun o j ho => fC o j (by omega) (by omega)) (fun o j ho => fM o j (by omega) (by omega))) (hD.cg (fun o j ho => fC o j (by omega) (by omega)) (fun o j ho => fM o j (by omega) (by omega))) (fun o j ho => fC o j (by omega) (by omega)) (fun o j ho => fM o j (by omega) (by omega))
/-! number -/
def nsp (xs : List Int) : Nat → Nat → Int → Int → Int
  | 0, _, _, _ => -2
  | d + 1, i, acc, f => if gd xs i ≤ 127 then (if i + 1 = xs.length then (if acc + gd xs i * f ≤ 2147483647 then acc + gd xs i * f else -3) else -2) else nsp xs d (i + 1) (if acc + (gd xs i - 128) * f ≤ 2147483647 then acc + (gd xs i - 128) * f else 4294967296) (if f ≤ 2147483647 then 128 * f else 4294967296)
theorem mul_bd {g f : Int} (hg : 0 ≤ g ∧ g ≤ 127) (hf : 0 ≤ f ∧ f ≤ 274877906816) : 0 ≤ g * f ∧ g * f ≤ 34909494165632 ∧ (1 ≤ g → f ≤ g * f) := by
  have h1 := Int.mul_nonneg hg.1 hf.1
  have h2 : g * f ≤ 127 * 274877906816 := Int.mul_le_mul hg.2 hf.2 hf.1 (by decide)
  refine ⟨h1, by omega, fun h => ?_⟩
  have h3 := Int.mul_nonneg (show 0 ≤ g - 1 by omega) hf.1
  rw [Int.sub_mul] at h3
  omega
theorem m_num {M : hq_M} {n : Nat} {k : Int → Prop} (hn : M 0 9 = (n : Int)) (hn2 : 1 ≤ n ∧ n ≤ 200) (hx : ∀ i, i < n → 0 ≤ M 5 i ∧ M 5 i ≤ 255) (d i : Nat) (acc f z : Int) (hd : i + d = n) (hi : 1 ≤ i) (hz : z = (i : Int)) (ha : 0 ≤ acc ∧ acc ≤ 4294967296) (hf : 0 ≤ f ∧ f ≤ 274877906816) (hk : k (nsp (sg M 5 0 n) d i acc f)) : l_X12_number_71 (fun x12 x13 x14 => rg ((M 0 9) - 1) ∧ (x14 = ((M 0 9) - 1) → (0 ≤ x14 ∧ x14 < 200) ∧ rl ((M 5 x14.toNat) * x13) ∧ rl (x12 + ((M 5 x14.toNat) * x13)) ∧ ∀ x21 : Int, x21 = (x12 + ((M 5 x14.toNat) * x13)) → (x21 ≤ 2147483647 → rg x21 ∧ k x21) ∧ (¬ x21 ≤ 2147483647 → k (-3))) ∧ (¬ x14 = ((M 0 9) - 1) → k (-2))) k M (d + 1) acc f z := by
  induction d generalizing i acc f z with
  | zero =>
    rw [l_X12_number_71]
    refine ⟨fun _ => ⟨⟨by omega, by omega⟩, fun e => by omega, fun _ => hk⟩, fun q => by omega⟩
  | succ d ih =>
    have hzi : z.toNat = i := by omega
    have hg : gd (sg M 5 0 n) i = M 5 i := by rw [sg_gd (by omega), Nat.zero_add]
    obtain ⟨x1, x2⟩ := hx i (by omega)
    rw [nsp, hg, sg_len] at hk
    rw [l_X12_number_71, hzi]
    refine ⟨fun q => by omega, fun _ => ⟨⟨by omega, by omega⟩, fun q => ⟨⟨by omega, by omega⟩, fun e => ?_, fun e => ?_⟩, fun q => ⟨⟨by omega, by omega⟩, ⟨by omega, by omega⟩, ?_⟩⟩⟩
    · rw [if_pos q, if_pos (by omega)] at hk
      obtain ⟨b1, b2, b3⟩ := mul_bd (g := M 5 i) ⟨x1, q⟩ hf
      refine ⟨⟨by omega, by omega⟩, ⟨by omega, by omega⟩, ⟨by omega, by omega⟩, fun x21 e21 => ⟨fun q2 => ⟨⟨by omega, by omega⟩, ?_⟩, fun q2 => ?_⟩⟩
      · rw [if_pos (by omega)] at hk; rw [e21]; exact hk
      · rw [if_neg (by omega)] at hk; exact hk
    · rw [if_pos q, if_neg (by omega)] at hk
      exact hk
    · rw [if_neg q] at hk
      obtain ⟨b1, b2, b3⟩ := mul_bd (g := M 5 i - 128) ⟨by omega, by omega⟩ hf
      have hs : ∀ t : Int, 0 ≤ t → t ≤ 4294967296 → t = (if acc + (M 5 i - 128) * f ≤ 2147483647 then acc + (M 5 i - 128) * f else 4294967296) → b_X12_number_129 f z t (fun v4q v6q v8q => l_X12_number_71 (fun x12 x13 x14 => rg ((M 0 9) - 1) ∧ (x14 = ((M 0 9) - 1) → (0 ≤ x14 ∧ x14 < 200) ∧ rl ((M 5 x14.toNat) * x13) ∧ rl (x12 + ((M 5 x14.toNat) * x13)) ∧ ∀ x21 : Int, x21 = (x12 + ((M 5 x14.toNat) * x13)) → (x21 ≤ 2147483647 → rg x21 ∧ k x21) ∧ (¬ x21 ≤ 2147483647 → k (-3))) ∧ (¬ x14 = ((M 0 9) - 1) → k (-2))) k M (d + 1) v4q v6q v8q) k M := by
        intro t ht0 ht1 ht
        rw [← ht] at hk
        unfold b_X12_number_129
        refine ⟨fun q2 => ⟨⟨by omega, by omega⟩, ?_⟩, fun q2 => ?_⟩
        · rw [if_pos q2] at hk
          unfold b_X12_number_152
          exact ⟨⟨by omega, by omega⟩, fun x1 e1 => ih (i + 1) t (128 * f) x1 (by omega) (by omega) (by omega) ⟨ht0, ht1⟩ (by omega) hk⟩
        · rw [if_neg q2] at hk
          unfold b_X12_number_152
          exact ⟨⟨by omega, by omega⟩, fun x1 e1 => ih (i + 1) t 4294967296 x1 (by omega) (by omega) (by omega) ⟨ht0, ht1⟩ (by omega) hk⟩
      refine ⟨⟨by omega, by omega⟩, ⟨by omega, by omega⟩, fun x9 e9 => ⟨fun q2 => hs x9 (by omega) (by omega) (by rw [if_pos (by omega), e9]), fun q2 => hs 4294967296 (by omega) (by omega) (by rw [if_neg (by omega)])⟩⟩
theorem lsh7 : ∀ g : Nat, g < 128 → ∀ i : Nat, i < 5 → hq_lsh (g : Int) (7 * (i : Int)) = (g : Int) * 128 ^ i := by decide +kernel
theorem lsh7' {x z : Int} {i : Nat} (hx : 0 ≤ x ∧ x < 128) (hi : i < 5) (hz : z = (i : Int)) : hq_lsh x (7 * z) = x * 128 ^ i := by
  have := lsh7 x.toNat (by omega) i hi
  rw [Int.toNat_of_nonneg hx.1] at this
  rw [hz]
  exact this
theorem x11_withGroup {a g z : Int} {j : Nat} {M : hq_M} {k : Int → Prop} (hz : z = (j : Int)) (hg : 0 ≤ g ∧ g < 128) (ha : 0 ≤ a ∧ a ≤ 10000000000000) (hj : j ≤ 300) (hk : ∀ r : Int, (j < 5 → r = a + g * 128 ^ j) → (5 ≤ j → (g = 0 → r = a) ∧ (g ≠ 0 → r = 2147483648)) → k r) : w_X11_withGroup a g z M k := by
  unfold w_X11_withGroup
  refine ⟨fun q => ⟨fun q2 => ⟨⟨by omega, by omega⟩, ?_⟩, fun q2 => hk _ (fun e => by omega) (fun _ => ⟨fun e => absurd e q, fun _ => rfl⟩)⟩, fun q => hk _ (fun _ => by rw [q, Int.zero_mul, Int.add_zero]) (fun _ => ⟨fun _ => rfl, fun e => absurd q e⟩)⟩
  rw [lsh7' hg (i := j) (by omega) hz]
  have hp : (1 : Int) ≤ 128 ^ j ∧ (128 : Int) ^ j ≤ 34359738368 := by
    have : j = 0 ∨ j = 1 ∨ j = 2 ∨ j = 3 ∨ j = 4 := by omega
    rcases this with rfl | rfl | rfl | rfl | rfl <;> decide
  have hb := mul_bd (g := g) (f := 128 ^ j) ⟨hg.1, by omega⟩ ⟨by omega, by omega⟩
  exact ⟨⟨by omega, by omega⟩, hk _ (fun _ => rfl) (fun e => by omega)⟩
theorem c_num {C M : hq_M} {n : Nat} {k : Int → Prop} (hn2 : 2 ≤ n ∧ n ≤ 200) (hC : Rw C 1 (sg M 5 0 n)) (hx : ∀ i, i < n → 0 ≤ M 5 i ∧ M 5 i ≤ 255) (d i : Nat) (accC acc f z : Int) (hd : i + d = n) (hi : 1 ≤ i) (hz : z = (i : Int)) (hlast : d = 0 → False) (hf : (i ≤ 5 ∧ f = 128 ^ (i - 1)) ∨ (6 ≤ i ∧ 2147483648 ≤ f ∧ f ≤ 34359738368)) (ha : (accC = acc ∧ 0 ≤ acc ∧ acc ≤ 2147483647) ∨ (2147483647 < accC ∧ accC ≤ 40000000000 * (i : Int) ∧ acc = 4294967296)) (hk : k (nsp (sg M 5 0 n) d i acc f)) : l_X11_withGroups_20 (fun x2 => (x2 ≤ 2147483647 → rg x2 ∧ k x2) ∧ (¬ x2 ≤ 2147483647 → k (-3))) k C (d + 1) accC z := by
  have hl : (sg M 5 0 n).length = n := sg_len _ _ _ _
  have h1 := hC.1
  rw [hl] at h1
  have fb : 0 ≤ f ∧ f ≤ 34359738368 := by
    rcases hf with ⟨a, b⟩ | ⟨a, b, c⟩
    · have : i = 1 ∨ i = 2 ∨ i = 3 ∨ i = 4 ∨ i = 5 := by omega
      rcases this with rfl | rfl | rfl | rfl | rfl <;> rw [b] <;> decide
    · omega
  induction d generalizing i accC acc f z with
  | zero => exact (hlast rfl).elim
  | succ d ih =>
    have hzi : z.toNat = i := by omega
    have hg : gd (sg M 5 0 n) i = M 5 i := by rw [sg_gd (by omega), Nat.zero_add]
    obtain ⟨x1, x2⟩ := hx i (by omega)
    rw [nsp, hg, hl] at hk
    rw [l_X11_withGroups_20]
    refine ⟨fun q => by omega, fun _ => x6_at hC (by rw [capT, hl]; omega) ?_⟩
    rw [hl, if_pos (by omega), hzi, hg]
    -- the group at i
    have grpI : ∀ (cont : Int → Int → Prop) , (∀ r y : Int, y = (i : Int) + 1 → (i ≤ 5 → r = accC + (M 5 i % 128) * f) → (6 ≤ i → (M 5 i % 128 = 0 → r = accC) ∧ (M 5 i % 128 ≠ 0 → r = 2147483648)) → cont r y) → w_X6_at 1 z C (fun x1 => rg (z - 1) ∧ w_X11_withGroup accC (x1 % 128) (z - 1) C (fun x3 => rg (z + 1) ∧ ∀ x4 : Int, x4 = (z + 1) → cont x3 x4)) := by
      intro cont hc
      refine x6_at hC (by rw [capT, hl]; omega) ?_
      rw [hl, if_pos (by omega), hzi, hg]
      refine ⟨⟨by omega, by omega⟩, x11_withGroup (j := i - 1) (by omega) (by omega) (by omega) (by omega) (fun r r1 r2 => ⟨⟨by omega, by omega⟩, fun x4 e4 => hc r x4 (by omega) (fun e => ?_) (fun e => r2 (by omega))⟩)⟩
      rw [r1 (by omega)]
      rcases hf with ⟨a, b⟩ | ⟨a, b, c⟩
      · rw [b]
      · omega
    have fin : ∀ fin : Int, (if fin ≤ 2147483647 then k fin else k (-3)) → 0 ≤ fin → ((fin ≤ 2147483647 → rg fin ∧ k fin) ∧ (¬ fin ≤ 2147483647 → k (-3))) := by
      intro fi h h0
      refine ⟨fun e => ?_, fun e => ?_⟩
      · rw [if_pos e] at h; exact ⟨⟨by omega, e⟩, h⟩
      · rw [if_neg e] at h; exact h
    by_cases q : M 5 i ≤ 127
    · rw [if_pos q] at hk
      have em : M 5 i % 128 = M 5 i := by omega
      refine ⟨fun _ => ?_, fun e => by omega⟩
      unfold b_X11_withGroups_52
      refine ⟨⟨by omega, by omega⟩, fun e => ?_, fun e => ?_⟩
      · rw [if_neg (by omega)] at hk
        unfold b_X11_withGroups_73
        exact ⟨fun e2 => absurd rfl e2, fun _ => hk⟩
      · rw [if_pos (by omega)] at hk
        unfold b_X11_withGroups_73
        refine ⟨fun _ => grpI _ (fun r y hy r1 r2 => ?_), fun e2 => absurd e2 (by decide)⟩
        rw [show d + 1 = d + 1 from rfl, l_X11_withGroups_20]
        refine ⟨fun _ => ?_, fun e => by omega⟩
        rw [em] at r1 r2
        obtain ⟨b1, b2, b3⟩ := mul_bd (g := M 5 i) (f := f) ⟨x1, q⟩ ⟨fb.1, by omega⟩
        refine fin r ?_ ?_
        · by_cases e5 : i ≤ 5
          · have := r1 e5
            rcases ha with ⟨a1, a2, a3⟩ | ⟨a1, a2, a3⟩
            · rw [this, a1]
              split at hk
              · rw [if_pos (by omega)]; exact hk
              · rw [if_neg (by omega)]; exact hk
            · rw [if_neg (by omega)] at hk
              rw [if_neg (by omega)]; exact hk
          · obtain ⟨r3, r4⟩ := r2 (by omega)
            by_cases e0 : M 5 i = 0
            · rw [r3 e0]
              rw [e0, Int.zero_mul, Int.add_zero] at hk
              rcases ha with ⟨a1, a2, a3⟩ | ⟨a1, a2, a3⟩
              · rw [if_pos (by omega)] at hk
                rw [if_pos (by omega), a1]; exact hk
              · rw [if_neg (by omega)] at hk
                rw [if_neg (by omega)]; exact hk
            · rw [r4 e0]
              have := b3 (by omega)
              rw [if_neg (by omega)] at hk
              rw [if_neg (by omega)]; exact hk
        · by_cases e5 : i ≤ 5
          · have := r1 e5; omega
          · obtain ⟨r3, r4⟩ := r2 (by omega)
            by_cases e0 : M 5 i = 0
            · rw [r3 e0]; omega
            · rw [r4 e0]; omega
    · rw [if_neg q] at hk
      have em : M 5 i % 128 = M 5 i - 128 := by omega
      refine ⟨fun e => by omega, fun _ => ?_⟩
      unfold b_X11_withGroups_52
      refine ⟨⟨by omega, by omega⟩, fun e => ?_, fun e => ?_⟩
      · unfold b_X11_withGroups_73
        refine ⟨fun _ => grpI _ (fun r y hy r1 r2 => ?_), fun e2 => absurd e2 (by decide)⟩
        rw [em] at r1 r2
        obtain ⟨b1, b2, b3⟩ := mul_bd (g := M 5 i - 128) (f := f) ⟨by omega, by omega⟩ ⟨fb.1, by omega⟩
        have hf' : (i + 1 ≤ 5 ∧ (if f ≤ 2147483647 then 128 * f else 4294967296) = 128 ^ (i + 1 - 1)) ∨ (6 ≤ i + 1 ∧ 2147483648 ≤ (if f ≤ 2147483647 then 128 * f else 4294967296) ∧ (if f ≤ 2147483647 then 128 * f else 4294967296) ≤ 34359738368) := by
          rcases hf with ⟨a, b⟩ | ⟨a, b, c⟩
          · have : i = 1 ∨ i = 2 ∨ i = 3 ∨ i = 4 ∨ i = 5 := by omega
            rcases this with rfl | rfl | rfl | rfl | rfl <;> rw [b] <;> decide
          · right
            rw [if_neg (by omega)]
            omega
        refine ih (i + 1) r _ _ y (by omega) (by omega) (by omega) (by omega) hf' ?_ hk ?_
        · by_cases e5 : i ≤ 5
          · have := r1 e5
            have f5 : (M 5 i - 128) * f ≤ 34091302912 := by
              have : i = 1 ∨ i = 2 ∨ i = 3 ∨ i = 4 ∨ i = 5 := by omega
              rcases hf with ⟨a, b⟩ | ⟨a, b, c⟩
              · have hf5 : f ≤ 268435456 := by rcases this with rfl | rfl | rfl | rfl | rfl <;> rw [b] <;> decide
                have : (M 5 i - 128) * f ≤ 127 * 268435456 := Int.mul_le_mul (by omega) hf5 fb.1 (by decide)
                omega
              · omega
            rcases ha with ⟨a1, a2, a3⟩ | ⟨a1, a2, a3⟩
            · by_cases e6 : acc + (M 5 i - 128) * f ≤ 2147483647
              · left
                rw [if_pos e6]
                omega
              · right
                rw [if_neg e6]
                omega
            · right
              rw [if_neg (by omega)]
              omega
          · obtain ⟨r3, r4⟩ := r2 (by omega)
            by_cases e0 : M 5 i - 128 = 0
            · rw [r3 e0, e0, Int.zero_mul, Int.add_zero]
              rcases ha with ⟨a1, a2, a3⟩ | ⟨a1, a2, a3⟩
              · left
                rw [if_pos (by omega)]
                omega
              · right
                rw [if_neg (by omega)]
                omega
            · rw [r4 e0]
              have := b3 (by omega)
              right
              rcases hf with ⟨a, b⟩ | ⟨a, b, c⟩
              · omega
              · rw [if_neg (by omega)]
                omega
        · rcases hf' with ⟨a, b⟩ | ⟨a, b, c⟩
          · rw [b]
            have : i = 1 ∨ i = 2 ∨ i = 3 ∨ i = 4 := by omega
            rcases this with rfl | rfl | rfl | rfl <;> decide
          · omega
      · have hd0 : d = 0 := by omega
        subst hd0
        rw [nsp] at hk
        unfold b_X11_withGroups_73
        exact ⟨fun e2 => absurd rfl e2, fun _ => hk⟩
theorem ian_mask {x : Int} {b : Int} (hb : 1 ≤ b ∧ b ≤ 8) (hx : 0 ≤ x ∧ x ≤ 255) : hq_ian x (pw b - 1) = x % pw b := by
  have e : pw b - 1 = ((2 ^ b.toNat - 1 : Nat) : Int) := by
    have : 1 ≤ 2 ^ b.toNat := Nat.one_le_two_pow
    unfold pw
    omega
  have hp := pw_bd hb
  unfold hq_ian
  rw [e, w3_mask b.toNat (by omega) ⟨by omega, by omega⟩]
  show (w3 (x % pw b)).toInt = _
  have h1 := Int.emod_nonneg x (show pw b ≠ 0 by omega)
  have h2 := Int.emod_lt_of_pos x (show 0 < pw b by omega)
  rw [w3_int ⟨by omega, by omega⟩]
theorem o_number {u : Nat} {C M : hq_M} (h : JJ u C M) (v : Int) : w_X11_number v C (fun z => w_X12_number v M (fun z' => z = z')) := by
  obtain ⟨⟨t1, t2, t3, t4⟩, -⟩ := h
  have tl : (sg M 5 0 (M 0 9).toNat).length = (M 0 9).toNat := sg_len _ _ _ _
  have e1 : C 1 1 = M 0 9 := by rw [t3.1, tl]; omega
  have bad : ¬ (1 ≤ v ∧ v ≤ 8) → w_X12_number v M (fun z' => -1 = z') := by
    intro hn
    unfold w_X12_number
    refine m_in ?_
    rw [if_neg hn]
    exact ⟨fun e => absurd rfl e, fun _ => rfl⟩
  unfold w_X11_number
  rw [e1]
  refine ⟨fun q => bad (by omega), fun q => ⟨fun q2 => ?_, fun q2 => bad (by omega)⟩⟩
  have hpw := pw_bd (b := v) (by omega)
  have eo : 1 * ((2 ^ v.toNat : Nat) : Int) = pw v := Int.one_mul _
  by_cases n0 : M 0 9 = 0
  · refine ⟨fun e => absurd n0 e, fun _ => ?_⟩
    unfold w_X12_number
    refine m_in ?_
    rw [if_pos (by omega)]
    exact ⟨fun _ => ⟨fun e => absurd n0 e, fun _ => rfl⟩, fun e => absurd e (by decide)⟩
  · obtain ⟨a1, a2⟩ := t4 0 (by omega)
    have hm1 := Int.emod_nonneg (M 5 0) (show pw v ≠ 0 by omega)
    have hm2 := Int.emod_lt_of_pos (M 5 0) (show 0 < pw v by omega)
    have key : ∀ x : Int, (x = if pw v - 1 ≤ M 5 0 % pw v then nsp (sg M 5 0 (M 0 9).toNat) ((M 0 9).toNat - 1) 1 (pw v - 1) 1 else if M 0 9 = 1 then M 5 0 % pw v else -2) → w_X12_number v M (fun z' => x = z') := by
      intro x hx
      unfold w_X12_number
      refine m_in ?_
      rw [if_pos (by omega), eo]
      refine ⟨fun _ => ⟨fun _ => ⟨⟨by omega, by omega⟩, ⟨by omega, by omega⟩, ⟨by omega, by omega⟩, fun x6 e6 => ?_⟩, fun e => absurd e n0⟩, fun e => absurd e (by decide)⟩
      subst e6
      refine ⟨by decide, ⟨by omega, by omega⟩, ⟨by omega, by omega⟩, fun x11 e11 => ?_⟩
      rw [show pw v - 1 + 1 = pw v by omega] at e11
      subst e11
      refine ⟨fun q3 => ⟨(M 0 9).toNat - 1 + 1, ?_⟩, fun q3 => ⟨fun q4 => ?_, fun q4 => ?_⟩⟩
      · rw [if_pos q3] at hx
        exact m_num (n := (M 0 9).toNat) (by omega) (by omega) t4 ((M 0 9).toNat - 1) 1 (pw v - 1) 1 1 (by omega) (by omega) rfl (by omega) (by decide) hx
      · rw [hx, if_neg q3, if_neg q4]
      · rw [hx, if_neg q3, if_pos q4]
    refine ⟨fun _ => ?_, fun e => absurd e n0⟩
    rw [eo]
    refine ⟨by omega, ⟨by omega, by omega⟩, ⟨by omega, by omega⟩, fun x5 e5 => x6_at t3 (by rw [capT, tl]; omega) ?_⟩
    subst e5
    rw [tl, if_pos (by omega), show (0 : Int).toNat = 0 from rfl, sg_gd (by omega), Nat.zero_add]
    intro x7 e7
    rw [ian_mask (by omega) ⟨a1, a2⟩] at e7
    subst e7
    refine ⟨fun q3 => ?_, fun q3 => ⟨fun q4 => key _ (by rw [if_neg q3, if_neg q4]), fun q4 => key _ (by rw [if_neg q3, if_pos q4])⟩⟩
    unfold w_X11_withGroups
    rw [e1]
    refine ⟨fun q4 => ⟨(M 0 9).toNat - 1 + 1, ?_⟩, fun q4 => key _ ?_⟩
    · refine c_num (n := (M 0 9).toNat) (by omega) t3 t4 ((M 0 9).toNat - 1) 1 (pw v - 1) (pw v - 1) 1 1 (by omega) (by omega) rfl (by omega) (.inl ⟨by decide, by decide⟩) (.inl ⟨rfl, by omega, by omega⟩) (key _ ?_)
      rw [if_pos q3]
    · rw [if_pos q3, show (M 0 9).toNat - 1 = 0 by omega, nsp]
