/-! ===== the mathematics, part 4: how the two states belong together ===== -/
/-! the bits of a set -/
def bt (x : Int) (k : Nat) : Bool := (w6 x).toBitVec.getLsbD k
theorem w6_toInt {x : Int} (h : rl x) : (w6 x).toInt = x := by
  unfold w6
  rw [Int64.toInt_ofInt_of_le h.1 (by omega)]
theorem bt_or (x y : Int) (k : Nat) : bt (hq_or x y) k = (bt x k || bt y k) := by
  unfold bt hq_or
  rw [w6_of, Int64.toBitVec_or, BitVec.getLsbD_or]
theorem bt_and (x y : Int) (k : Nat) : bt (hq_and x y) k = (bt x k && bt y k) := by
  unfold bt hq_and
  rw [w6_of, Int64.toBitVec_and, BitVec.getLsbD_and]
theorem bt_xor (x y : Int) (k : Nat) : bt (hq_xor x y) k = (bt x k ^^ bt y k) := by
  unfold bt hq_xor
  rw [w6_of, Int64.toBitVec_xor, BitVec.getLsbD_xor]
theorem bt_zero (k : Nat) : bt 0 k = false := by
  show (BitVec.ofNat 64 0).getLsbD k = false
  simp
theorem bt_ones : ∀ k, k < 64 → bt (-1) k = true := by decide +kernel
theorem bt_one : ∀ n : Nat, n < 41 → ∀ k, k < 64 → bt (hq_lsh 1 (n : Int)) k = decide (k = n) := by decide +kernel
theorem bt_ext {x y : Int} (hx : rl x) (hy : rl y) (h : ∀ k, k < 64 → bt x k = bt y k) : x = y := by
  have e : (w6 x).toBitVec = (w6 y).toBitVec := BitVec.eq_of_getLsbD_eq (fun k hk => h k hk)
  have e2 : w6 x = w6 y := Int64.toBitVec_inj.mp e
  rw [← w6_toInt hx, ← w6_toInt hy, e2]
/-! the pieces -/
def sz (M : hq_M) (f : Nat) : Int := M 1 f + M 2 f + 4
def TX (C M : hq_M) : Prop := 0 ≤ M 0 9 ∧ M 0 9 ≤ 200 ∧ Rw C 1 (sg M 5 0 (M 0 9).toNat) ∧ ∀ i, i < (M 0 9).toNat → 0 ≤ M 5 i ∧ M 5 i ≤ 255
def DR (C M : hq_M) : Prop := 0 ≤ M 0 37 ∧ M 0 37 ≤ 6 ∧ Rw C 3 (sg M 21 0 (M 0 37).toNat) ∧ ∀ i, i < (M 0 37).toNat → 0 ≤ M 21 i ∧ M 21 i < M 0 0
/-- the settings at o of the class are those of the reference -/
def SS (C : hq_M) (o : Nat) (M : hq_M) : Prop := (0 ≤ M 0 0 ∧ M 0 0 ≤ 7) ∧ (0 ≤ M 0 1 ∧ M 0 1 ≤ 8) ∧ Lo6 M ∧ Pr C (o + 1) (M 0 0) (nm M) (vl M) ∧ Pr C (o + 38) (M 0 1) (fun i => nm M (8 + i)) (fun i => vl M (8 + i)) ∧ C o 2 = M 0 2 ∧ C o 3 = M 0 3 ∧ ((0 ≤ M 0 2 ∧ M 0 2 ≤ 200) ∧ M 8 0 ≤ M 0 2) ∧ (0 ≤ M 0 3 ∧ M 0 3 ≤ 9)
def ST (C M : hq_M) : Prop := ∃ o : Nat, (o = 8 ∨ o = 88) ∧ C 0 9 = (o : Int) ∧ C 0 10 = 96 - (o : Int) ∧ C 370 4 = (o : Int) ∧ SS C o M
/-- a letter -/
def SE (C M : hq_M) (k : Nat) : Prop := Rw C (171 + 5 * k) (sg M 18 (6 * k) (M 17 k).toNat) ∧ Rw C (173 + 5 * k) (sg M 20 (112 * k) (M 13 k).toNat) ∧ (C (170 + 5 * k) 3 = M 11 k ∧ C (170 + 5 * k) 4 = M 12 k ∧ C (170 + 5 * k) 5 = M 14 k ∧ C (170 + 5 * k) 6 = M 15 k ∧ C (170 + 5 * k) 7 = M 16 k) ∧ (0 ≤ M 17 k ∧ M 17 k ≤ 6) ∧ (0 ≤ M 13 k ∧ M 13 k ≤ 96) ∧ (0 ≤ M 14 k ∧ M 14 k ≤ M 13 k) ∧ (0 ≤ M 15 k ∧ M 15 k ≤ 3) ∧ (0 ≤ M 16 k ∧ M 16 k ≤ 1) ∧ (0 ≤ M 11 k ∧ M 11 k ≤ M 6 0) ∧ (0 ≤ M 12 k ∧ M 12 k ≤ M 6 0) ∧ (∀ j, j < (M 17 k).toNat → M 19 (6 * k + j) < M 6 0) ∧ (M 15 k = 1 → M 6 1 < M 11 k)
def LT (C M : hq_M) : Prop := C 168 1 = M 0 25 ∧ (0 ≤ M 0 25 ∧ M 0 25 ≤ 40) ∧ (∀ k : Nat, k < 40 → C (170 + 5 * k) 0 = (k : Int)) ∧ C 405 0 = 40 ∧ ∀ k, k < (M 0 25).toNat → SE C M k
/-- the table at A of the class is the table t of the reference -/
def TB (C M : hq_M) (A t lo n : Nat) : Prop := TC C A lo n ∧ (M 7 t = (lo : Int) ∧ M 6 t = ((lo + n : Nat) : Int) ∧ M 9 t = C A 5 ∧ M 8 t = C A 6) ∧ C A 5 = sm (fun i => C (A + 2) (i % 64)) lo n ∧ C A 5 ≤ C A 6 ∧ (0 ≤ C A 6 ∧ C A 6 ≤ 200) ∧ ∀ i, lo ≤ i → i < lo + n → C (A + 1) (i % 64) = M 10 (64 * t + i % 64) ∧ (0 ≤ M 10 (64 * t + i % 64) ∧ M 10 (64 * t + i % 64) < M 0 0) ∧ C (A + 2) (i % 64) = sz M (M 10 (64 * t + i % 64)).toNat
/-- section k holds the place i -/
def hb (M : hq_M) (k i : Nat) : Bool := decide (M 16 k = 0) && (List.range (M 17 k).toNat).any (fun j => decide (M 19 (6 * k + j) = (i : Int)))
def mr (M : hq_M) (i : Nat) : Bool := (List.range (M 0 39).toNat).any (fun j => decide (M 22 j = (i : Int)))
def hd (M : hq_M) (c k i : Nat) : Bool := (decide (k < (M 0 25).toNat) && hb M k i) || (decide (k = c) && mr M i)
def HO (C M : hq_M) (A lo n c : Nat) : Prop := ∀ i, lo ≤ i → i < lo + n → rl (C (A + 3) (i % 64)) ∧ ∀ k, k < 64 → bt (C (A + 3) (i % 64)) k = hd M c k i
/-- what waits in the instruction stream: the Stream at s of the class; D done, m pending orders -/
def cpf (M : hq_M) (c : Int) : Nat → Int
  | 0 => c
  | i + 1 => if M 25 i = 0 then M 27 i else cpf M c i
def SQ (C M : hq_M) (s D m : Nat) : Prop := (C s 4 = (D : Int) ∧ C s 3 = ((D + m : Nat) : Int) ∧ M 0 47 = (m : Int) ∧ D + m ≤ 1000000) ∧ (0 ≤ M 0 43 ∧ M 0 43 ≤ 200 ∧ Rw C (s + 1) (sg M 24 0 (M 0 43).toNat)) ∧ M 0 43 = sm (fun i => M 26 i) 0 m ∧ (∀ i, i < m → 1 ≤ M 26 i) ∧ (∀ i, i < m → C (s + 4) ((D + i) % 256) = M 26 i ∧ ((M 25 i = 0 ∧ 0 ≤ M 27 i ∧ M 27 i ≤ 200 ∧ C (s + 3) ((D + i) % 256) = -1 - M 27 i) ∨ (M 25 i = 1 ∧ 0 ≤ M 27 i ∧ M 27 i < M 0 0 ∧ C (s + 3) ((D + i) % 256) = M 27 i))) ∧ hq_len YC (s + 3) = 256 ∧ hq_len YC (s + 4) = 256 ∧ hq_len YC (s + 1 + 1) = 200
/-- the decoder is behind the encoder by the orders that wait -/
def DE (M : hq_M) : Prop := cpf M (M 8 1) (M 0 47).toNat = M 8 0 ∧ (∀ i, i < (M 0 47).toNat → M 25 i = 1 → sz M (M 27 i).toNat ≤ cpf M (M 8 1) i) ∧ M 6 1 + (cn (fun i => decide (M 25 i = 1)) (M 0 47).toNat : Nat) = M 6 0
/-- the acknowledgements that wait -/
def kf (M : hq_M) (c : Int) : Nat → Int
  | 0 => c
  | i + 1 => if M 31 i = 0 then max (kf M c i) (M 11 (M 32 i).toNat) else if M 31 i = 1 then kf M c i else kf M c i + M 32 i
def RP (C M : hq_M) : Prop := (0 ≤ M 0 52 ∧ M 0 52 ≤ 100 + (cn (fun k => decide (2 ≤ M 15 k)) (M 0 25).toNat : Nat)) ∧ M 0 56 = M 0 52 ∧ Rw C 389 (sg M 30 0 (M 0 52).toNat) ∧ (∀ i, i < (M 0 52).toNat → M 33 i = 1 ∧ ((M 31 i = 0 ∧ 0 ≤ M 32 i ∧ M 32 i < M 0 25 ∧ M 30 i = 128 + M 32 i) ∨ (M 31 i = 1 ∧ 0 ≤ M 32 i ∧ M 32 i < M 0 25 ∧ M 30 i = 64 + M 32 i) ∨ (M 31 i = 2 ∧ 0 < M 32 i ∧ M 32 i ≤ 62 ∧ M 30 i = M 32 i))) ∧ kf M (M 0 23) (M 0 52).toNat = M 0 24
/-- known, reported, and the counts -/
def KN (C M : hq_M) : Prop := C 370 5 = M 0 23 ∧ C 384 2 = M 0 24 ∧ (M 7 0 ≤ M 0 23 ∧ 0 ≤ M 0 23 ∧ M 0 24 ≤ M 6 1) ∧ M 0 39 = 0
/-- the trial's stream counts what was ever written to it -/
def TW (u : Nat) (C : hq_M) : Prop := 0 ≤ C 396 3 ∧ C 396 3 ≤ 8 * (u : Int)
theorem TW.cg {u : Nat} {C C' : hq_M} (h : TW u C) (e : C' 396 3 = C 396 3) : TW u C' := by
  unfold TW at h ⊢
  rw [e]
  exact h
theorem TW.mono {u u' : Nat} {C : hq_M} (h : TW u C) (hu : u ≤ u') : TW u' C := by
  unfold TW at h ⊢
  omega
/-- the states belong together; u bounds the number of entries and orders so far -/
def JJ (u : Nat) (C M : hq_M) : Prop := TX C M ∧ DR C M ∧ ST C M ∧ LT C M ∧ (∃ lo n, TB C M 371 0 lo n ∧ HO C M 371 lo n 40 ∧ lo + n ≤ 8 * u) ∧ (∃ lo n, TB C M 385 1 lo n) ∧ (∃ D m, SQ C M 375 D m ∧ D + m ≤ 8 * u ∧ TW u C) ∧ DE M ∧ RP C M ∧ KN C M
/-! what they reach -/
theorem TX.cg {C M C' M' : hq_M} (h : TX C M) (hC : ∀ o j, o = 1 ∨ o = 2 → C' o j = C o j) (hM : ∀ o j, o = 5 ∨ (o = 0 ∧ j = 9) → M' o j = M o j) : TX C' M' := by
  obtain ⟨h1, h2, h3, h4⟩ := h
  have e : M' 0 9 = M 0 9 := hM _ _ (by simp)
  unfold TX
  rw [e]
  refine ⟨h1, h2, ?_, fun i hi => by rw [hM 5 i (.inl rfl)]; exact h4 i hi⟩
  rw [show sg M' 5 0 (M 0 9).toNat = sg M 5 0 (M 0 9).toNat from sg_eq (fun i _ => hM _ _ (.inl rfl))]
  exact h3.cg (hC _ _ (.inl rfl)) (fun i => hC _ _ (.inr rfl))
theorem DR.cg {C M C' M' : hq_M} (h : DR C M) (hC : ∀ o j, o = 3 ∨ o = 4 → C' o j = C o j) (hM : ∀ o j, o = 21 ∨ (o = 0 ∧ (j = 37 ∨ j = 0)) → M' o j = M o j) : DR C' M' := by
  obtain ⟨h1, h2, h3, h4⟩ := h
  have e : M' 0 37 = M 0 37 := hM _ _ (by simp)
  have e0 : M' 0 0 = M 0 0 := hM _ _ (by simp)
  unfold DR
  rw [e, e0]
  refine ⟨h1, h2, ?_, fun i hi => by rw [hM 21 i (.inl rfl)]; exact h4 i hi⟩
  rw [show sg M' 21 0 (M 0 37).toNat = sg M 21 0 (M 0 37).toNat from sg_eq (fun i _ => hM _ _ (.inl rfl))]
  exact h3.cg (hC _ _ (.inl rfl)) (fun i => hC _ _ (.inr rfl))
theorem Pr.cg {C C' : hq_M} {P : Nat} {n n' : Int} {a b a' b' : Nat → List Int} (h : Pr C P n a b) (hP : n ≤ 8) (hC : ∀ o j, P ≤ o ∧ o < P + 42 → C' o j = C o j) (hn : n' = n) (ha : ∀ i : Nat, (i : Int) < n → a' i = a i) (hb : ∀ i : Nat, (i : Int) < n → b' i = b i) : Pr C' P n' a' b' := by
  subst hn
  refine ⟨(hC _ _ (by omega)).trans h.1, fun i hi => ?_⟩
  obtain ⟨h1, h2, h3, h4⟩ := h.2 i hi
  rw [ha i hi, hb i hi]
  exact ⟨h1.cg (hC _ _ (by omega)) (fun j => hC _ _ (by omega)), h2.cg (hC _ _ (by omega)) (fun j => hC _ _ (by omega)), h3, h4⟩
theorem SS.cg8 {C M C' M' : hq_M} {o : Nat} (h : SS C o M) (hC : ∀ q j, o ≤ q ∧ q < o + 80 → C' q j = C q j) (hM : ∀ q j, (q = 0 ∧ j < 4) ∨ q = 1 ∨ q = 2 ∨ q = 3 ∨ q = 4 → M' q j = M q j) (hm8 : M' 8 0 ≤ M 0 2) : SS C' o M' := by
  obtain ⟨h1, h2, h3, h4, h5, h6, h7, h8, h9⟩ := h
  have e0 : M' 0 0 = M 0 0 := hM _ _ (by simp)
  have e1 : M' 0 1 = M 0 1 := hM _ _ (by simp)
  have e2 : M' 0 2 = M 0 2 := hM _ _ (by simp)
  have e3 : M' 0 3 = M 0 3 := hM _ _ (by simp)
  have en : ∀ f, nm M' f = nm M f := fun f => nm_cg (hM _ _ (by simp)) (fun j => hM _ _ (by simp))
  have ev : ∀ f, vl M' f = vl M f := fun f => vl_cg (hM _ _ (by simp)) (fun j => hM _ _ (by simp))
  unfold SS
  rw [e0, e1, e2, e3]
  refine ⟨h1, h2, fun f hf => ?_, h4.cg (by omega) (fun q j hq => hC _ _ (by omega)) rfl (fun i _ => en i) (fun i _ => ev i), h5.cg (by omega) (fun q j hq => hC _ _ (by omega)) rfl (fun i _ => en _) (fun i _ => ev _), (hC _ _ (by omega)).trans h6, (hC _ _ (by omega)).trans h7, ⟨h8.1, hm8⟩, h9⟩
  rw [hM 1 f (by simp), hM 2 f (by simp)]
  exact h3 f hf
theorem SS.cg {C M C' M' : hq_M} {o : Nat} (h : SS C o M) (hC : ∀ q j, o ≤ q ∧ q < o + 80 → C' q j = C q j) (hM : ∀ q j, (q = 0 ∧ j < 4) ∨ q = 1 ∨ q = 2 ∨ q = 3 ∨ q = 4 ∨ (q = 8 ∧ j = 0) → M' q j = M q j) : SS C' o M' :=
  h.cg8 hC (fun q j hq => hM q j (by omega)) (by rw [hM 8 0 (by simp)]; exact h.2.2.2.2.2.2.2.1.2)
theorem ST.cg {C M C' M' : hq_M} (h : ST C M) (hC : ∀ o j, (8 ≤ o ∧ o < 168) ∨ (o = 0 ∧ (j = 9 ∨ j = 10)) ∨ (o = 370 ∧ j = 4) → C' o j = C o j) (hM : ∀ q j, (q = 0 ∧ j < 4) ∨ q = 1 ∨ q = 2 ∨ q = 3 ∨ q = 4 ∨ (q = 8 ∧ j = 0) → M' q j = M q j) : ST C' M' := by
  obtain ⟨o, ho, h1, h2, h3, h4⟩ := h
  exact ⟨o, ho, (hC _ _ (by simp)).trans h1, (hC _ _ (by simp)).trans h2, (hC _ _ (by simp)).trans h3, h4.cg (fun q j hq => hC _ _ (by omega)) hM⟩
theorem SE.cg {C M C' M' : hq_M} {k : Nat} (h : SE C M k) (hC : ∀ o j, 170 + 5 * k ≤ o ∧ o < 175 + 5 * k → C' o j = C o j) (hM : ∀ o j, (11 ≤ o ∧ o ≤ 17 ∧ j = k) ∨ (o = 18 ∧ 6 * k ≤ j ∧ j < 6 * k + 6) ∨ (o = 19 ∧ 6 * k ≤ j ∧ j < 6 * k + 6) ∨ (o = 20 ∧ 112 * k ≤ j ∧ j < 112 * k + 112) ∨ (o = 6 ∧ j = 1) → M' o j = M o j) (h6 : M 6 0 ≤ M' 6 0) : SE C' M' k := by
  obtain ⟨h1, h2, h3, hb1, hb2, hb3, hb4, hb5, hb6, hb7, hb8, hb9⟩ := h
  unfold SE
  rw [hM 11 k (by omega), hM 12 k (by omega), hM 13 k (by omega), hM 14 k (by omega), hM 15 k (by omega), hM 16 k (by omega), hM 17 k (by omega), hC (170 + 5 * k) 3 (by omega), hC (170 + 5 * k) 4 (by omega), hC (170 + 5 * k) 5 (by omega), hC (170 + 5 * k) 6 (by omega), hC (170 + 5 * k) 7 (by omega)]
  rw [show sg M' 18 (6 * k) (M 17 k).toNat = sg M 18 (6 * k) (M 17 k).toNat from sg_eq (fun i _ => hM _ _ (by omega)), show sg M' 20 (112 * k) (M 13 k).toNat = sg M 20 (112 * k) (M 13 k).toNat from sg_eq (fun i _ => hM _ _ (by omega))]
  refine ⟨h1.cg (hC _ _ (by omega)) (fun i => hC _ _ (by omega)), h2.cg (hC _ _ (by omega)) (fun i => hC _ _ (by omega)), h3, hb1, hb2, hb3, hb4, hb5, ⟨hb6.1, by omega⟩, ⟨hb7.1, by omega⟩, fun j hj => ?_, by rw [hM 6 1 (by omega)]; exact hb9⟩
  rw [hM 19 _ (by omega)]
  have := hb8 j hj
  omega
theorem LT.cg {C M C' M' : hq_M} (h : LT C M) (hC : ∀ o j, (168 ≤ o ∧ o < 370) ∨ (o = 405 ∧ j = 0) → C' o j = C o j) (hM : ∀ o j, (11 ≤ o ∧ o ≤ 20) ∨ (o = 0 ∧ j = 25) ∨ (o = 6 ∧ j = 1) → M' o j = M o j) (h6 : M 6 0 ≤ M' 6 0) : LT C' M' := by
  obtain ⟨h1, h2, h3, h4, h5⟩ := h
  unfold LT
  rw [hM 0 25 (by simp), hC 168 1 (by simp), hC 405 0 (by simp)]
  refine ⟨h1, h2, fun k hk => (hC _ _ (by omega)).trans (h3 k hk), h4, fun k hk => (h5 k hk).cg (fun o j ho => hC _ _ (by omega)) (fun o j ho => hM _ _ (by omega)) h6⟩
theorem TB.cg {C M C' M' : hq_M} {A t lo n : Nat} (h : TB C M A t lo n) (hC : ∀ o j, o = A ∨ o = A + 1 ∨ o = A + 2 → C' o j = C o j) (hM : ∀ o j, (6 ≤ o ∧ o ≤ 9 ∧ j = t) ∨ (o = 10 ∧ 64 * t ≤ j ∧ j < 64 * t + 64) ∨ o = 1 ∨ o = 2 ∨ (o = 0 ∧ j = 0) → M' o j = M o j) : TB C' M' A t lo n := by
  obtain ⟨h1, h2, h3, h4, h5, h6⟩ := h
  unfold TB TC at *
  rw [hM 6 t (by omega), hM 7 t (by omega), hM 8 t (by omega), hM 9 t (by omega), hM 0 0 (by simp), hC A 3 (by simp), hC A 4 (by simp), hC A 5 (by simp), hC A 6 (by simp)]
  refine ⟨h1, h2, ?_, h4, h5, fun i a b => ?_⟩
  · rw [h3]
    exact sm_cg (fun i _ _ => (hC _ _ (by simp)).symm)
  · rw [hC (A + 1) _ (by simp), hC (A + 2) _ (by simp), hM 10 _ (by omega)]
    unfold sz
    rw [hM 1 _ (by simp), hM 2 _ (by simp)]
    exact h6 i a b
theorem hb_cg {M M' : hq_M} {k i : Nat} (h1 : M' 16 k = M 16 k) (h2 : M' 17 k = M 17 k) (h3 : ∀ j, j < (M 17 k).toNat → M' 19 (6 * k + j) = M 19 (6 * k + j)) : hb M' k i = hb M k i := by
  unfold hb
  rw [h1, h2]
  congr 1
  rw [Bool.eq_iff_iff]
  simp only [List.any_eq_true, List.mem_range, decide_eq_true_eq]
  constructor
  · rintro ⟨j, hj, e⟩
    exact ⟨j, hj, by rw [← h3 j hj]; exact e⟩
  · rintro ⟨j, hj, e⟩
    exact ⟨j, hj, by rw [h3 j hj]; exact e⟩
theorem mr_cg {M M' : hq_M} {i : Nat} (h1 : M' 0 39 = M 0 39) (h2 : ∀ j, j < (M 0 39).toNat → M' 22 j = M 22 j) : mr M' i = mr M i := by
  unfold mr
  rw [h1, Bool.eq_iff_iff]
  simp only [List.any_eq_true, List.mem_range, decide_eq_true_eq]
  constructor
  · rintro ⟨j, hj, e⟩
    exact ⟨j, hj, by rw [← h2 j hj]; exact e⟩
  · rintro ⟨j, hj, e⟩
    exact ⟨j, hj, by rw [h2 j hj]; exact e⟩
theorem HO.cg {C M C' M' : hq_M} {A lo n c : Nat} (h : HO C M A lo n c) (hC : ∀ j, C' (A + 3) j = C (A + 3) j) (hM : ∀ o j, (16 ≤ o ∧ o ≤ 19) ∨ (o = 0 ∧ (j = 25 ∨ j = 39)) ∨ o = 22 → M' o j = M o j) : HO C' M' A lo n c := by
  intro i a b
  obtain ⟨h1, h2⟩ := h i a b
  rw [hC]
  refine ⟨h1, fun k hk => ?_⟩
  rw [h2 k hk]
  unfold hd
  rw [hM 0 25 (by simp), hb_cg (M' := M') (M := M) (hM _ _ (by omega)) (hM _ _ (by omega)) (fun j _ => hM _ _ (by omega)), mr_cg (M' := M') (M := M) (hM _ _ (by simp)) (fun j _ => hM _ _ (by simp))]
theorem cpf_cg {M M' : hq_M} {c : Int} {n : Nat} (h : ∀ o j, (o = 25 ∨ o = 27) ∧ j < n → M' o j = M o j) : cpf M' c n = cpf M c n := by
  induction n with
  | zero => rfl
  | succ n ih => rw [cpf, cpf, h 25 n (by omega), h 27 n (by omega), ih (fun o j ho => h o j (by omega))]
theorem SQ.cg {C M C' M' : hq_M} {s D m : Nat} (h : SQ C M s D m) (hC : ∀ o j, s ≤ o ∧ o < s + 5 → C' o j = C o j) (hM : ∀ o j, (24 ≤ o ∧ o ≤ 27) ∨ (o = 0 ∧ (j = 43 ∨ j = 47 ∨ j = 0)) → M' o j = M o j) : SQ C' M' s D m := by
  obtain ⟨h1, h2, h3, h4, h5, h6⟩ := h
  unfold SQ
  rw [hM 0 47 (by simp), hM 0 43 (by simp), hM 0 0 (by simp), hC s 3 (by omega), hC s 4 (by omega)]
  refine ⟨h1, ⟨h2.1, h2.2.1, ?_⟩, ?_, fun i hi => by rw [hM 26 i (by omega)]; exact h4 i hi, fun i hi => ?_, h6⟩
  · rw [show sg M' 24 0 (M 0 43).toNat = sg M 24 0 (M 0 43).toNat from sg_eq (fun i _ => hM _ _ (by omega))]
    exact h2.2.2.cg (hC _ _ (by omega)) (fun i => hC _ _ (by omega))
  · rw [h3]
    exact sm_cg (fun i _ _ => (hM _ _ (by omega)).symm)
  · rw [hC (s + 3) _ (by omega), hC (s + 4) _ (by omega), hM 25 i (by omega), hM 26 i (by omega), hM 27 i (by omega)]
    exact h5 i hi
theorem DE.cg {M M' : hq_M} (h : DE M) (hM : ∀ o j, o = 25 ∨ o = 27 ∨ o = 1 ∨ o = 2 ∨ (o = 0 ∧ j = 47) ∨ (o = 6 ∧ j < 2) ∨ (o = 8 ∧ j < 2) → M' o j = M o j) : DE M' := by
  obtain ⟨h1, h2, h3⟩ := h
  have e : ∀ c n, cpf M' c n = cpf M c n := fun c n => cpf_cg (fun o j ho => hM _ _ (by omega))
  unfold DE
  rw [hM 0 47 (by simp), hM 8 1 (by simp), hM 8 0 (by simp), hM 6 1 (by simp), hM 6 0 (by simp), e]
  refine ⟨h1, fun i hi h25 => ?_, ?_⟩
  · rw [hM 25 i (by simp)] at h25
    rw [hM 27 i (by simp), e]
    unfold sz
    rw [hM 1 _ (by simp), hM 2 _ (by simp)]
    exact h2 i hi h25
  · rw [cn_cg (Q := fun i => decide (M 25 i = 1)) (fun i hi => by rw [hM 25 i (by simp)])]
    exact h3
theorem kf_cg {M M' : hq_M} {c : Int} {n : Nat} (h : ∀ o j, (o = 31 ∨ o = 32) ∧ j < n → M' o j = M o j) (h11 : ∀ i, i < n → M 31 i = 0 → M' 11 (M 32 i).toNat = M 11 (M 32 i).toNat) : kf M' c n = kf M c n := by
  induction n with
  | zero => rfl
  | succ n ih =>
    rw [kf, kf, h 31 n (by omega), h 32 n (by omega), ih (fun o j ho => h o j (by omega)) (fun i hi => h11 i (by omega))]
    by_cases q : M 31 n = 0
    · rw [if_pos q, if_pos q, h11 n (by omega) q]
    · rw [if_neg q, if_neg q]
theorem RP.cg {C M C' M' : hq_M} (h : RP C M) (hC : ∀ o j, o = 389 ∨ o = 390 → C' o j = C o j) (hM : ∀ o j, (30 ≤ o ∧ o ≤ 33) ∨ o = 15 ∨ o = 11 ∨ (o = 0 ∧ (j = 52 ∨ j = 56 ∨ j = 25 ∨ j = 23 ∨ j = 24)) → M' o j = M o j) : RP C' M' := by
  obtain ⟨h1, h2, h3, h4, h5⟩ := h
  unfold RP
  rw [hM 0 52 (by simp), hM 0 56 (by simp), hM 0 25 (by simp), hM 0 23 (by simp), hM 0 24 (by simp)]
  refine ⟨?_, h2, ?_, fun i hi => ?_, ?_⟩
  · rw [cn_cg (Q := fun k => decide (2 ≤ M 15 k)) (fun i hi => by rw [hM 15 i (by simp)])]
    exact h1
  · rw [show sg M' 30 0 (M 0 52).toNat = sg M 30 0 (M 0 52).toNat from sg_eq (fun i _ => hM _ _ (by omega))]
    exact h3.cg (hC _ _ (by omega)) (fun i => hC _ _ (by omega))
  · rw [hM 33 i (by omega), hM 32 i (by omega), hM 31 i (by omega), hM 30 i (by omega)]
    exact h4 i hi
  · rw [kf_cg (M := M) (fun o j ho => hM _ _ (by omega)) (fun i hi _ => hM _ _ (by omega))]
    exact h5
theorem KN.cg {C M C' M' : hq_M} (h : KN C M) (hC : ∀ o j, (o = 370 ∧ j = 5) ∨ (o = 384 ∧ j = 2) → C' o j = C o j) (hM : ∀ o j, (o = 0 ∧ (j = 23 ∨ j = 24 ∨ j = 39)) ∨ (o = 7 ∧ j = 0) ∨ (o = 6 ∧ j = 1) → M' o j = M o j) : KN C' M' := by
  unfold KN at *
  rw [hM 0 23 (by simp), hM 0 24 (by simp), hM 0 39 (by simp), hM 7 0 (by simp), hM 6 1 (by simp), hC 370 5 (by simp), hC 384 2 (by simp)]
  exact h
