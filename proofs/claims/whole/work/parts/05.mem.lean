/-! ===== memory of whole numbers over a fixed layout of cells: the base rows of this claim ===== -/
theorem rb_rg {z : Int} (h : rb z) : rg z := by rcases h with h | h <;> subst h <;> decide
theorem rg_rl {z : Int} (h : rg z) : rl z := ⟨by have := h.1; omega, by have := h.2; omega⟩
def w3 (z : Int) : Int32 := Int32.ofInt z
def w6 (z : Int) : Int64 := Int64.ofInt z
theorem w3_to {z : Int} (h : rg z) : (w3 z).toInt = z := Int32.toInt_ofInt_of_le (by have := h.1; omega) (by have := h.2; omega)
theorem w6_to {z : Int} (h : rl z) : (w6 z).toInt = z := Int64.toInt_ofInt_of_le (by have := h.1; omega) (by have := h.2; omega)
theorem w3_of (x : Int32) : w3 x.toInt = x := Int32.ofInt_toInt x
theorem w6_of (x : Int64) : w6 x.toInt = x := Int64.ofInt_toInt x
theorem w3_rg (x : Int32) : rg x.toInt := ⟨by have := Int32.le_toInt x; omega, by have := Int32.toInt_lt x; omega⟩
theorem w6_rl (x : Int64) : rl x.toInt := ⟨by have := Int64.le_toInt x; omega, by have := Int64.toInt_lt x; omega⟩
theorem w3_add (x y : Int) : w3 x + w3 y = w3 (x + y) := (Int32.ofInt_add x y).symm
theorem w3_sub (x y : Int) : w3 x - w3 y = w3 (x - y) := (Int32.ofInt_sub x y).symm
theorem w3_mul (x y : Int) : w3 x * w3 y = w3 (x * y) := (Int32.ofInt_mul x y).symm
theorem w6_add (x y : Int) : w6 x + w6 y = w6 (x + y) := (Int64.ofInt_add x y).symm
theorem w6_mul (x y : Int) : w6 x * w6 y = w6 (x * y) := (Int64.ofInt_mul x y).symm
theorem w3_lt {x y : Int} (hx : rg x) (hy : rg y) : w3 x < w3 y ↔ x < y := by rw [Int32.lt_iff_toInt_lt, w3_to hx, w3_to hy]
theorem w3_le {x y : Int} (hx : rg x) (hy : rg y) : w3 x ≤ w3 y ↔ x ≤ y := by rw [Int32.le_iff_toInt_le, w3_to hx, w3_to hy]
theorem w3_eq {x y : Int} (hx : rg x) (hy : rg y) : w3 x = w3 y ↔ x = y := ⟨fun h => by rw [← w3_to hx, ← w3_to hy, h], fun h => by rw [h]⟩
theorem w6_lt {x y : Int} (hx : rl x) (hy : rl y) : w6 x < w6 y ↔ x < y := by rw [Int64.lt_iff_toInt_lt, w6_to hx, w6_to hy]
theorem w6_eq {x y : Int} (hx : rl x) (hy : rl y) : w6 x = w6 y ↔ x = y := ⟨fun h => by rw [← w6_to hx, ← w6_to hy, h], fun h => by rw [h]⟩
theorem w3_i2l {x : Int} (hx : rg x) : (w3 x).toInt64 = w6 x := by
  rw [← w6_of (w3 x).toInt64, Int32.toInt_toInt64, w3_to hx]
theorem w6_l2i {x : Int} (hx : rg x) : (w6 x).toInt32 = w3 x := by
  rw [← w3_of (w6 x).toInt32, Int64.toInt_toInt32, w6_to (rg_rl hx), Int.bmod_eq_of_le (by have := hx.1; omega) (by have := hx.2; omega)]
theorem w3_clamp {x : Int} (hx : rg x) : (w3 x).toNatClampNeg = x.toNat := by
  show (w3 x).toInt.toNat = _
  rw [w3_to hx]
theorem w3_in {x : Int} {n : Nat} (hx : rg x) (h0 : 0 ≤ x) (h1 : x < (n : Int)) : vp_in (w3 x) n := by
  refine vp_in_iff.mpr ?_
  rw [w3_to hx]
  exact ⟨h0, h1⟩
theorem w3_div {x y : Int} (hx : rg x) (hy : rg y) (h0 : 0 ≤ x) (h1 : 0 < y) : w3 x / w3 y = w3 (x / y) := by
  rw [← w3_of (w3 x / w3 y), Int32.toInt_div_of_ne_right _ _ (fun h => by
    have h2 : (w3 y).toInt = (-1 : Int32).toInt := by rw [h]
    rw [w3_to hy] at h2
    have : ((-1 : Int32)).toInt = -1 := by decide
    omega), w3_to hx, w3_to hy, Int.tdiv_eq_ediv_of_nonneg h0]
theorem w3_rem {x y : Int} (hx : rg x) (hy : rg y) (h0 : 0 ≤ x) (h1 : 0 < y) : w3 x - w3 x / w3 y * w3 y = w3 (x % y) := by
  rw [w3_div hx hy h0 h1, w3_mul, w3_sub, Int.emod_def, Int.mul_comm]
theorem w3_ne0 {y : Int} (hy : rg y) (h : ¬ y = 0) : ¬ w3 y = 0 := fun h2 => h ((w3_eq hy (by decide)).mp (h2.trans (show (0 : Int32) = w3 0 from rfl)))
theorem w3_mask {x : Int} (k : Nat) (hk : k ≤ 30) (hx : rg x) : w3 x &&& w3 ((2 ^ k - 1 : Nat) : Int) = w3 (x % ((2 ^ k : Nat) : Int)) := by
  have hp : 2 ^ k ≤ 2 ^ 30 := Nat.pow_le_pow_right (by decide) hk
  have hp1 : 0 < 2 ^ k := Nat.pow_pos (by decide)
  have hm : (w3 ((2 ^ k - 1 : Nat) : Int)).toBitVec.toNat = 2 ^ k - 1 := by
    show ((Int32.ofInt ((2 ^ k - 1 : Nat) : Int)).toBitVec).toNat = _
    rw [Int32.toBitVec_ofInt, BitVec.toNat_ofInt]
    omega
  rw [pk_and (w3 x) k hm]
  show Int32.ofNat _ = Int32.ofInt _
  have e : (w3 x).toBitVec.toNat % 2 ^ k = (x % ((2 ^ k : Nat) : Int)).toNat := by
    show ((Int32.ofInt x).toBitVec).toNat % 2 ^ k = _
    rw [Int32.toBitVec_ofInt, BitVec.toNat_ofInt]
    have h1 : (x % (2 ^ 32 : Nat)) % ((2 ^ k : Nat) : Int) = x % ((2 ^ k : Nat) : Int) := Int.emod_emod_of_dvd x (by
      exact_mod_cast Nat.pow_dvd_pow 2 (by omega : k ≤ 32))
    have h0 : 0 ≤ x % ((2 ^ 32 : Nat) : Int) := Int.emod_nonneg _ (by decide)
    have h2 : (((x % ((2 ^ 32 : Nat) : Int)).toNat % 2 ^ k : Nat) : Int) = x % ((2 ^ k : Nat) : Int) := by
      rw [Int.natCast_emod, Int.toNat_of_nonneg h0]
      exact h1
    omega
  rw [e]
  have h3 : 0 ≤ x % ((2 ^ k : Nat) : Int) := Int.emod_nonneg _ (by omega)
  have h4 : ((x % ((2 ^ k : Nat) : Int)).toNat : Int) = x % ((2 ^ k : Nat) : Int) := Int.toNat_of_nonneg h3
  conv => rhs; rw [← h4]
  rfl
def hq_or (x y : Int) : Int := (w6 x ||| w6 y).toInt
def hq_and (x y : Int) : Int := (w6 x &&& w6 y).toInt
def hq_xor (x y : Int) : Int := (w6 x ^^^ w6 y).toInt
def hq_ian (x y : Int) : Int := (w3 x &&& w3 y).toInt
def hq_wr (x : Int) : Int := (w6 x).toInt
def hq_lsh (x y : Int) : Int := (w6 x <<< ((w3 y).toInt64 &&& 63)).toInt
theorem w3_shl {x y : Int} (h0 : 0 ≤ y) (h1 : y ≤ 30) : w3 x <<< (w3 y &&& 31) = w3 (x * ((2 ^ y.toNat : Nat) : Int)) := by
  have hy : rg y := ⟨by omega, by omega⟩
  have e1 : w3 y &&& 31 = w3 y := by
    have := w3_mask (x := y) 5 (by decide) hy
    rw [show w3 ((2 ^ 5 - 1 : Nat) : Int) = (31 : Int32) from rfl] at this
    rw [this, show ((2 ^ 5 : Nat) : Int) = 32 from rfl, Int.emod_eq_of_lt h0 (by omega)]
  rw [e1]
  have hs : ((w3 y).toBitVec.smod 32).toNat = y.toNat := by
    obtain ⟨n, rfl⟩ : ∃ n : Nat, y = n := ⟨y.toNat, by omega⟩
    have hn : n ≤ 30 := by omega
    have key : ∀ n : Nat, n < 31 → ((w3 (n : Int)).toBitVec.smod 32).toNat = n := by decide +kernel
    simpa using key n (by omega)
  have h := pk_shl (w3 x) (w3 y) y.toNat hs
  apply Int32.toBitVec_inj.mp
  apply BitVec.eq_of_toNat_eq
  rw [h]
  show (Int32.ofInt x).toBitVec.toNat * _ % _ = (Int32.ofInt _).toBitVec.toNat
  rw [Int32.toBitVec_ofInt, Int32.toBitVec_ofInt, BitVec.toNat_ofInt, BitVec.toNat_ofInt]
  have hp : 0 ≤ x % ((2 ^ 32 : Nat) : Int) := Int.emod_nonneg _ (by decide)
  have e : ((((x % ((2 ^ 32 : Nat) : Int)).toNat * 2 ^ y.toNat % 2 ^ 32 : Nat)) : Int) = x * ((2 ^ y.toNat : Nat) : Int) % ((2 ^ 32 : Nat) : Int) := by
    rw [Int.natCast_emod, Int.natCast_mul, Int.toNat_of_nonneg hp, Int.mul_emod, Int.emod_emod, ← Int.mul_emod]
  have hq : 0 ≤ x * ((2 ^ y.toNat : Nat) : Int) % ((2 ^ 32 : Nat) : Int) := Int.emod_nonneg _ (by decide)
  omega
theorem w3_shr {x : Int} (k : Nat) (hk : k ≤ 30) (hx : rg x) (h0 : 0 ≤ x) : w3 x >>> (w3 (k : Int) &&& 31) = w3 (x / ((2 ^ k : Nat) : Int)) := by
  have e1 : w3 (k : Int) &&& 31 = w3 (k : Int) := by
    have key : ∀ k : Nat, k < 31 → w3 (k : Int) &&& 31 = w3 (k : Int) := by decide +kernel
    exact key k (by omega)
  rw [e1]
  have hs : ((w3 (k : Int)).toBitVec.smod 32).toNat = k := by
    have key : ∀ n : Nat, n < 31 → ((w3 (n : Int)).toBitVec.smod 32).toNat = n := by decide +kernel
    exact key k (by omega)
  obtain ⟨n, rfl⟩ : ∃ n : Nat, x = n := ⟨x.toNat, by omega⟩
  have h := pk_shrN (n := n) (by have := hx.2; omega) (w3 (k : Int)) k hs
  rw [show w3 (n : Int) = nI n from rfl, h]
  show Int32.ofNat _ = Int32.ofInt _
  rw [← Int.natCast_ediv]
  rfl
/-! values, cells, worlds -/
def hq_up (M : hq_M) (o j : Nat) (v : Int) : hq_M := fun o' j' => if o' = o ∧ j' = j then v else M o' j'
theorem hq_up_s (M : hq_M) (o j : Nat) (v : Int) : hq_up M o j v o j = v := by simp [hq_up]
theorem hq_up_n (M : hq_M) {o j o' j' : Nat} (v : Int) (h : o' ≠ o ∨ j' ≠ j) : hq_up M o j v o' j' = M o' j' := by
  unfold hq_up; rw [if_neg]; rintro ⟨h1, h2⟩; rcases h with h | h <;> contradiction
def hq_rf (B : Nat) (r : Option Nat) : Value := match r with
  | none => .null
  | some x => .ref (B + x)
/-- the slots of a class, kind by kind: 0 a number, 1 a truth, 2 a fixed cell at a distance, 3 a fixed cell, 4 a cell that changes (a Settings) -/
def hq_val (B : Nat) (M : hq_M) (o j : Nat) (q : Nat × Nat) : Value := match q.1 with
  | 2 => .ref (B + (o + q.2))
  | 3 => .ref (B + q.2)
  | 4 => .ref (B + (M o j).toNat)
  | _ => .int (w3 (M o j))
def hq_cel (SL : Nat → List (Nat × Nat)) (cA : Nat → ClassId) (B : Nat) (M : hq_M) (o : Nat) (q : Nat × Nat) : va_E :=
  if q.1 < 13 then .inr (q.1, (SL q.1).zipIdx.map (fun t => hq_val B M o t.2 t.1))
  else if q.1 = 13 then .inl (cA 0, q.2, .inl (fun j => w3 (M o j)))
  else if q.1 = 14 then .inl (cA 1, q.2, .inr (.inl (fun j => w6 (M o j))))
  else if q.1 = 15 then .inl (cA 2, q.2, .inl (fun j => w3 (M o j)))
  else .inl (cA (q.1 - 13), q.2, .inr (.inr (.inr (.inr (fun j => some (B + (o + 1 + 5 * j)))))))
def hq_ws (SL : Nat → List (Nat × Nat)) (cA : Nat → ClassId) (Y : hq_Y) (B : Nat) (M : hq_M) : va_W := Y.zipIdx.map (fun t => (B + t.2, hq_cel SL cA B M t.2 t.1))
theorem hq_ws_at (SL : Nat → List (Nat × Nat)) (cA : Nat → ClassId) {Y : hq_Y} (B : Nat) (M : hq_M) {o : Nat} {q : Nat × Nat} (h : Y[o]? = some q) : (hq_ws SL cA Y B M)[o]? = some (B + o, hq_cel SL cA B M o q) := by
  simp [hq_ws, List.getElem?_zipIdx, h]
theorem hq_ws_of {SL : Nat → List (Nat × Nat)} {cA : Nat → ClassId} {Y : hq_Y} {B : Nat} {M : hq_M} {o : Nat} {x : Nat × va_E} (h : (hq_ws SL cA Y B M)[o]? = some x) : ∃ q, Y[o]? = some q ∧ x = (B + o, hq_cel SL cA B M o q) := by
  simp only [hq_ws, List.getElem?_map, List.getElem?_zipIdx] at h
  cases hq : Y[o]? with
  | none => simp [hq] at h
  | some q =>
    simp [hq] at h
    exact ⟨q, rfl, h.symm⟩
theorem hq_ws_set {SL : Nat → List (Nat × Nat)} {cA : Nat → ClassId} {Y : hq_Y} {B : Nat} {M M' : hq_M} {o : Nat} {q : Nat × Nat} {e : va_E} (h : Y[o]? = some q) (he : e = hq_cel SL cA B M' o q) (hM : ∀ o', o' ≠ o → ∀ q', hq_cel SL cA B M' o' q' = hq_cel SL cA B M o' q') : (hq_ws SL cA Y B M).set o (B + o, e) = hq_ws SL cA Y B M' := by
  apply List.ext_getElem?
  intro i
  have hl : (hq_ws SL cA Y B M).length = Y.length := by simp [hq_ws]
  have ho : o < Y.length := (List.getElem?_eq_some_iff.mp h).1
  by_cases hi : i = o
  · subst hi
    rw [List.getElem?_set_self (by omega), hq_ws_at SL cA B M' h, he]
  · rw [List.getElem?_set_ne (Ne.symm hi)]
    simp only [hq_ws, List.getElem?_map, List.getElem?_zipIdx]
    cases hY : Y[i]? with
    | none => simp
    | some q' => simp [hM i hi q']
def hq_in (B n : Nat) : Nat → Prop := fun q => B ≤ q ∧ q < B + n
theorem hq_D {SL : Nat → List (Nat × Nat)} {cA : Nat → ClassId} {Y : hq_Y} {B : Nat} {M : hq_M} : va_D (hq_in B Y.length) (hq_ws SL cA Y B M) := by
  refine ⟨fun i j x y hi hj hxy => ?_, fun k q hk => ?_⟩
  · obtain ⟨q1, -, rfl⟩ := hq_ws_of hi
    obtain ⟨q2, -, rfl⟩ := hq_ws_of hj
    simp only at hxy
    omega
  · obtain ⟨q1, h1, rfl⟩ := hq_ws_of hk
    have := (List.getElem?_eq_some_iff.mp h1).1
    exact ⟨by simp, by simp; omega⟩
/-- every number lies where its slot's type says -/
def hq_ok (SL : Nat → List (Nat × Nat)) (Y : hq_Y) (M : hq_M) (o k : Nat) (t : Nat) : Prop :=
  (t = 0 → rg (M o k)) ∧ (t = 1 → rb (M o k)) ∧ (t = 4 → Y[(M o k).toNat]? = some (7, 0))
def hq_vd (SL : Nat → List (Nat × Nat)) (Y : hq_Y) (M : hq_M) : Prop := ∀ (o : Nat) (q : Nat × Nat), Y[o]? = some q →
  (∀ (k : Nat) (t : Nat × Nat), q.1 < 13 → (SL q.1)[k]? = some t → hq_ok SL Y M o k t.1) ∧ (q.1 = 13 → ∀ j, rg (M o j)) ∧ (q.1 = 14 → ∀ j, rl (M o j)) ∧ (q.1 = 15 → ∀ j, rb (M o j))
theorem hq_cel_ne {SL : Nat → List (Nat × Nat)} {cA : Nat → ClassId} {B : Nat} {M : hq_M} {o j : Nat} {v : Int} (o' : Nat) (h : o' ≠ o) (q : Nat × Nat) : hq_cel SL cA B (hq_up M o j v) o' q = hq_cel SL cA B M o' q := by
  have e : ∀ k, hq_up M o j v o' k = M o' k := fun k => hq_up_n M v (Or.inl h)
  unfold hq_cel
  simp only [e]
  have e2 : ∀ k t, hq_val B (hq_up M o j v) o' k t = hq_val B M o' k t := fun k t => by unfold hq_val; simp only [e]
  simp only [e2]
/-! a method's fixed facts, its state, its contract -/
def hq_ty (cA : Nat → ClassId) : List (ClassId × FieldType) := [(cA 0, .int), (cA 1, .long), (cA 2, .boolean), (cA 3, .object "HeadTables$Letter"), (cA 4, .object "HeadTables$Pair")]
/-- what a method needs beside its world, of the tables and the old cells: it holds in a callee too -/
def hq_Zo (Z : State → Prop) (A : Nat → Prop) : Prop := (∀ u U : State, U.vm = u.vm → U.heap = u.heap → Z u → Z U) ∧ ∀ s U : State, s.WarmedH U.vm → (∀ q : Nat, q < s.heap.size → ¬ A q → U.heap[q]? = s.heap[q]?) → Z s → Z U
def hq_C (cl : List vw_C) (p : Program) (m : MethodId) (c : Code) (cc : ByteArray) (nL : Nat) (s : State) (args : Array Value) (Ts : List Cond) (own : String) (meth : Method) (ret : Option FieldType) (D : va_G) (cA : Nat → ClassId) (A : Nat → Prop) (Z : State → Prop) : Prop :=
  CallFix p m c cc nL s args Ts own ∧ meth.sig.returnType = ret ∧ meth.locks = false ∧ va_K D cl (hq_ty cA) s ∧ hq_Zo Z A ∧ Z s
def hq_S (cl : List vw_C) (SL : Nat → List (Nat × Nat)) (D : va_G) (cA : Nat → ClassId) (Y : hq_Y) (B : Nat) (H0 : Heap) (M : hq_M) (H : Heap) (locs : List Loc) : Prop := va_P D cl (hq_ws SL cA Y B M) H ∧ va_S (hq_in B Y.length) H0 H locs ∧ hq_vd SL Y M
def hq_Pc (cl : List vw_C) (SL : Nat → List (Nat × Nat)) (D : va_G) (cA : Nat → ClassId) (Y : hq_Y) (B : Nat) (Z : State → Prop) (av : List Value) (M : hq_M) : Array Value → State → Prop := va_Pc av (fun U => va_P D cl (hq_ws SL cA Y B M) U.heap ∧ va_K D cl (hq_ty cA) U ∧ hq_vd SL Y M ∧ Z U)
def hq_Q (cl : List vw_C) (SL : Nat → List (Nat × Nat)) (D : va_G) (cA : Nat → ClassId) (Y : hq_Y) (B : Nat) (Q : Option Value → hq_M → Prop) : Array Value → State → Outcome → State → Prop := fun _ st oc t => (∃ (v : Option Value) (M' : hq_M), oc = .returned v ∧ Q v M' ∧ va_P D cl (hq_ws SL cA Y B M') t.heap ∧ hq_vd SL Y M') ∧ va_F (hq_in B Y.length) st t
def hq_T (cl : List vw_C) (SL : Nat → List (Nat × Nat)) (l : Launch) (y : MethodName) (ws : List Cond) (rm : Room) (D : va_G) (cA : Nat → ClassId) (Y : hq_Y) (B : Nat) (Z : State → Prop) (av : List Value) (M : hq_M) (Q : Option Value → hq_M → Prop) : Prop :=
  Met l y ws rm (hq_Pc cl SL D cA Y B Z av M) (hq_Q cl SL D cA Y B Q) 0 0 (hq_in B Y.length)
def hq_qi (k : Int → hq_M → Prop) : Option Value → hq_M → Prop := fun v M' => ∃ z, v = some (.int (w3 z)) ∧ rg z ∧ k z M'
def hq_qz (k : Int → hq_M → Prop) : Option Value → hq_M → Prop := fun v M' => ∃ z, v = some (.int (w3 z)) ∧ rb z ∧ k z M'
def hq_ql (k : Int → hq_M → Prop) : Option Value → hq_M → Prop := fun v M' => ∃ z, v = some (.long (w6 z)) ∧ rl z ∧ k z M'
def hq_qv (k : hq_M → Prop) : Option Value → hq_M → Prop := fun v M' => v = none ∧ k M'
def hq_qr (Y : hq_Y) (B ci : Nat) (k : Option Nat → hq_M → Prop) : Option Value → hq_M → Prop := fun v M' => ∃ r, v = some (hq_rf B r) ∧ (∀ x, r = some x → Y[x]? = some (ci, 0)) ∧ k r M'
theorem hq_blind {cl : List vw_C} {SL : Nat → List (Nat × Nat)} {D : va_G} {cA : Nat → ClassId} {Y : hq_Y} {B : Nat} {Z : State → Prop} {A : Nat → Prop} {av : List Value} {M : hq_M} (hZ : hq_Zo Z A) : FrameBlind (hq_Pc cl SL D cA Y B Z av M) := fun a U g mk q => by
  obtain ⟨q0, qP, qK, qV, qZ⟩ := q
  exact ⟨q0, qP, va_K.moved (u := U) (U := U.calling g mk a) (Vm.Alike.refl U.vm) qK, qV, hZ.1 U _ rfl rfl qZ⟩
section HQE
variable {cl : List vw_C} {SL : Nat → List (Nat × Nat)} {l : Launch} {y : MethodName} {ws ws' : List Cond} {rm : Room} {D : va_G} {cA : Nat → ClassId} {Y : hq_Y} {B : Nat} {Z : State → Prop} {M : hq_M} {Q : Option Value → hq_M → Prop}
theorem hq_meth {cc : ByteArray} {maxL : Nat} {ret : Option FieldType} {av : List Value} (hZ : hq_Zo Z (hq_in B Y.length)) {own : String} (ho : y.cls = own) (hy : plainName y.cls = true) (hw : ws = Cond.code y cc maxL ret :: ws') (hlen : (lg_sl av).length ≤ maxL)
    (body : ∀ (p : Program) (e : Env) (s : State) (m : MethodId) (below : List Frame) (meth : Method) (c : Code) (ls : Array Slot), hq_C cl p m c cc maxL s av.toArray ws own meth ret D cA (hq_in B Y.length) Z → hq_S cl SL D cA Y B s.heap M s.heap [] → lv_has ls maxL (lv_args 0 av) →
      W p l e rm s m av.toArray below meth c s.heap [] 0 0 (MQ below (hq_Q cl SL D cA Y B Q) av.toArray s 0 0 (hq_in B Y.length)) (F0 m 0 ls [])) : hq_T cl SL l y ws rm D cA Y B Z av M Q := by
  refine Met.ofW (cc := cc) (maxL := maxL) (ret := ret) hy hw ?_
  subst ho
  intro p e s m args below meth c s₁ Bd hml hv
  obtain ⟨rfl, hP, hK, hV, hZs⟩ := hv
  have hts := atoms_spec (ws := ws) Bd.pre
  have hown : s.vm.findClass y.cls = some m.cls := findClass_of_methodNamed Bd.named
  rw [lg_entry_eq]
  exact body p e s m below meth c _ ⟨⟨Bd.exec, Bd.bytes, hml, hown, hts⟩, Bd.returns, Bd.notSynchronized, hK, hZ, hZs⟩ ⟨hP, va_S.rf, hV⟩ (lv_entry av hlen)
end HQE
section HQR
variable {cl : List vw_C} {SL : Nat → List (Nat × Nat)} {p : Program} {l : Launch} {e : Env} {R : Room} {s : State} {m : MethodId} {args : Array Value} {below : List Frame} {meth : Method} {c : Code} {H : Heap} {locs : List Loc} {cells slots : Nat} {Q : State → Prop}
variable {cc : ByteArray} {pc nL : Nat} {ls : Array Slot} {rest : List Value} {Ts : List Cond} {own : String} {ret : Option FieldType} {D : va_G} {cA : Nat → ClassId} {Y : hq_Y} {B : Nat} {Z : State → Prop} {M : hq_M} {A : Nat → Prop}
/-- ends -/
theorem hq_iret {k : Int → hq_M → Prop} {z : Int} (C : hq_C cl p m c cc nL s args Ts own meth (some .int) D cA A Z) (hs : hq_S cl SL D cA Y B s.heap M H locs) (rz : rg z) (hk : k z M) (hdg : decode cc pc = .ok (.ireturn, 1)) : W p l e R s m args below meth c H locs cells slots (MQ below (hq_Q cl SL D cA Y B (hq_qi k)) args s cells slots (hq_in B Y.length)) (F0 m pc ls [.int (w3 z)]) := by
  obtain ⟨⟨hx, hb, -, -, -⟩, hr, hlocks, -, -, -⟩ := C
  exact W.iret hx hb hr (fun t ht hW => ⟨⟨some (.int (w3 z)), M, rfl, ⟨z, rfl, rz, hk⟩, by rw [ht]; exact hs.1, hs.2.2⟩, hs.2.1.F ht⟩) hs.2.1.2.2 hdg
theorem hq_zret {k : Int → hq_M → Prop} {z : Int} (C : hq_C cl p m c cc nL s args Ts own meth (some .boolean) D cA A Z) (hs : hq_S cl SL D cA Y B s.heap M H locs) (rz : rb z) (hk : k z M) (hdg : decode cc pc = .ok (.ireturn, 1)) : W p l e R s m args below meth c H locs cells slots (MQ below (hq_Q cl SL D cA Y B (hq_qz k)) args s cells slots (hq_in B Y.length)) (F0 m pc ls [.int (w3 z)]) := by
  obtain ⟨⟨hx, hb, -, -, -⟩, hr, hlocks, -, -, -⟩ := C
  have hn : narrow .boolean (.int (w3 z)) = .int (w3 z) := by rcases rz with h | h <;> subst h <;> decide
  exact W.zret hx hb hr hn (fun t ht hW => ⟨⟨some (.int (w3 z)), M, rfl, ⟨z, rfl, rz, hk⟩, by rw [ht]; exact hs.1, hs.2.2⟩, hs.2.1.F ht⟩) hs.2.1.2.2 hdg
theorem hq_lret {k : Int → hq_M → Prop} {z : Int} (C : hq_C cl p m c cc nL s args Ts own meth (some .long) D cA A Z) (hs : hq_S cl SL D cA Y B s.heap M H locs) (rz : rl z) (hk : k z M) (hdg : decode cc pc = .ok (.lreturn, 1)) : W p l e R s m args below meth c H locs cells slots (MQ below (hq_Q cl SL D cA Y B (hq_ql k)) args s cells slots (hq_in B Y.length)) (F0 m pc ls [.long (w6 z)]) := by
  obtain ⟨⟨hx, hb, -, -, -⟩, hr, hlocks, -, -, -⟩ := C
  exact W.lret hx hb hr (fun t ht hW => ⟨⟨some (.long (w6 z)), M, rfl, ⟨z, rfl, rz, hk⟩, by rw [ht]; exact hs.1, hs.2.2⟩, hs.2.1.F ht⟩) hs.2.1.2.2 hdg
theorem hq_vret {k : hq_M → Prop} (C : hq_C cl p m c cc nL s args Ts own meth none D cA A Z) (hs : hq_S cl SL D cA Y B s.heap M H locs) (hk : k M) (hdg : decode cc pc = .ok (.return_, 1)) : W p l e R s m args below meth c H locs cells slots (MQ below (hq_Q cl SL D cA Y B (hq_qv k)) args s cells slots (hq_in B Y.length)) (F0 m pc ls []) := by
  obtain ⟨⟨hx, hb, -, -, -⟩, hr, hlocks, -, -, -⟩ := C
  exact W.vret hx hb hr (fun t ht hW => ⟨⟨none, M, rfl, ⟨rfl, hk⟩, by rw [ht]; exact hs.1, hs.2.2⟩, hs.2.1.F ht⟩) hs.2.1.2.2 hdg
theorem hq_aret {k : Option Nat → hq_M → Prop} {ci : Nat} {r : Nat} {rn : String} (C : hq_C cl p m c cc nL s args Ts own meth (some (.object rn)) D cA A Z) (hs : hq_S cl SL D cA Y B s.heap M H locs) (hr0 : Y[r]? = some (ci, 0)) (hk : k (some r) M) (hdg : decode cc pc = .ok (.areturn, 1)) : W p l e R s m args below meth c H locs cells slots (MQ below (hq_Q cl SL D cA Y B (hq_qr Y B ci k)) args s cells slots (hq_in B Y.length)) (F0 m pc ls [.ref (B + r)]) := by
  obtain ⟨⟨hx, hb, -, -, -⟩, hr, hlocks, -, -, -⟩ := C
  exact W.aret hx hb hr (Or.inl ⟨rn, rfl⟩) (Or.inr ⟨_, rfl⟩) (fun t ht hW => ⟨⟨some (.ref (B + r)), M, rfl, ⟨some r, rfl, fun x hx => by cases hx; exact hr0, hk⟩, by rw [ht]; exact hs.1, hs.2.2⟩, hs.2.1.F ht⟩) hs.2.1.2.2 hdg
theorem hq_aretN {k : Option Nat → hq_M → Prop} {ci : Nat} {rn : String} (C : hq_C cl p m c cc nL s args Ts own meth (some (.object rn)) D cA A Z) (hs : hq_S cl SL D cA Y B s.heap M H locs) (hk : k none M) (hdg : decode cc pc = .ok (.areturn, 1)) : W p l e R s m args below meth c H locs cells slots (MQ below (hq_Q cl SL D cA Y B (hq_qr Y B ci k)) args s cells slots (hq_in B Y.length)) (F0 m pc ls [.null]) := by
  obtain ⟨⟨hx, hb, -, -, -⟩, hr, hlocks, -, -, -⟩ := C
  exact W.aret hx hb hr (Or.inl ⟨rn, rfl⟩) (Or.inl rfl) (fun t ht hW => ⟨⟨some .null, M, rfl, ⟨none, rfl, (fun x hx => by cases hx), hk⟩, by rw [ht]; exact hs.1, hs.2.2⟩, hs.2.1.F ht⟩) hs.2.1.2.2 hdg
/-- a field of a class, as a method's tables name it -/
def hq_fl (cl : List vw_C) (Ts : List Cond) (own : String) (index ci k : Nat) (fin : Bool) (ty : FieldType) : Prop := ∃ (Cn : String) (T : u_T) (N : Nat) (ty0 : Nat → FieldType), cl[ci]? = some (Cn, T, N) ∧ k < N ∧ (∀ w ∈ u_ws Cn T N, w ∈ Ts) ∧ Cond.fieldLink own index (T k).1 (T k).2.1 (T k).2.2.1 ∈ Ts ∧ (T k).2.2.2 = fin ∧ parseFieldDescriptor (T k).2.2.1 = some ty ∧ (∀ k, k < N → parseFieldDescriptor (T k).2.2.1 = some (ty0 k)) ∧ ∀ a, a < N → ∀ b, b < N → a ≠ b → (T a).2.1 ≠ (T b).2.1
theorem hq_cel_o {M : hq_M} {o ci : Nat} (h : ci < 13) : hq_cel SL cA B M o (ci, 0) = .inr (ci, (SL ci).zipIdx.map (fun t => hq_val B M o t.2 t.1)) := by unfold hq_cel; rw [if_pos h]
theorem hq_slot {M : hq_M} {o ci k : Nat} {t : Nat × Nat} (h : (SL ci)[k]? = some t) : ((SL ci).zipIdx.map (fun t => hq_val B M o t.2 t.1))[k]? = some (hq_val B M o k t) := by
  simp [List.getElem?_zipIdx, h]
theorem hq_getf {o ci k index : Nat} {fin : Bool} {ty : FieldType} {t : Nat × Nat} (C : hq_C cl p m c cc nL s args Ts own meth ret D cA A Z) (hs : hq_S cl SL D cA Y B s.heap M H locs) (hf : hq_fl cl Ts own index ci k fin ty) (ho : Y[o]? = some (ci, 0)) (hci : ci < 13) (hsl : (SL ci)[k]? = some t) (hdg : decode cc pc = .ok (.getfield index, 3))
    (kk : W p l e R s m args below meth c H locs cells slots Q (F0 m (pc + 3) ls (hq_val B M o k t :: rest))) : W p l e R s m args below meth c H locs cells slots Q (F0 m pc ls (.ref (B + o) :: rest)) := by
  obtain ⟨⟨hx, hb, -, hown, hts⟩, -, -, hK, -, -⟩ := C
  obtain ⟨Cn, T, N, ty0, f1, f2, f3, f4, -, -, -, -⟩ := hf
  refine va_get hx hb hts f3 hown hK hs.1 o (fs := (SL ci).zipIdx.map (fun t => hq_val B M o t.2 t.1)) ?_ f1 k f2 (hts _ f4) (fun _ h => h) (hq_slot hsl) hdg kk
  rw [hq_ws_at SL cA B M ho, hq_cel_o hci]
theorem hq_getI {o ci k index : Nat} {fin : Bool} {ty : FieldType} (C : hq_C cl p m c cc nL s args Ts own meth ret D cA A Z) (hs : hq_S cl SL D cA Y B s.heap M H locs) (hf : hq_fl cl Ts own index ci k fin ty) (ho : Y[o]? = some (ci, 0)) (hci : ci < 13) (hsl : (SL ci)[k]? = some (0, 0)) (hdg : decode cc pc = .ok (.getfield index, 3))
    (kk : rg (M o k) → W p l e R s m args below meth c H locs cells slots Q (F0 m (pc + 3) ls (.int (w3 (M o k)) :: rest))) : W p l e R s m args below meth c H locs cells slots Q (F0 m pc ls (.ref (B + o) :: rest)) :=
  hq_getf C hs hf ho hci hsl hdg (kk (((hs.2.2 o _ ho).1 k _ hci hsl).1 rfl))
theorem hq_getZ {o ci k index : Nat} {fin : Bool} {ty : FieldType} (C : hq_C cl p m c cc nL s args Ts own meth ret D cA A Z) (hs : hq_S cl SL D cA Y B s.heap M H locs) (hf : hq_fl cl Ts own index ci k fin ty) (ho : Y[o]? = some (ci, 0)) (hci : ci < 13) (hsl : (SL ci)[k]? = some (1, 0)) (hdg : decode cc pc = .ok (.getfield index, 3))
    (kk : rb (M o k) → W p l e R s m args below meth c H locs cells slots Q (F0 m (pc + 3) ls (.int (w3 (M o k)) :: rest))) : W p l e R s m args below meth c H locs cells slots Q (F0 m pc ls (.ref (B + o) :: rest)) :=
  hq_getf C hs hf ho hci hsl hdg (kk (((hs.2.2 o _ ho).1 k _ hci hsl).2.1 rfl))
theorem hq_getR {o ci k index d : Nat} {fin : Bool} {ty : FieldType} (C : hq_C cl p m c cc nL s args Ts own meth ret D cA A Z) (hs : hq_S cl SL D cA Y B s.heap M H locs) (hf : hq_fl cl Ts own index ci k fin ty) (ho : Y[o]? = some (ci, 0)) (hci : ci < 13) (hsl : (SL ci)[k]? = some (2, d)) (hdg : decode cc pc = .ok (.getfield index, 3))
    (kk : W p l e R s m args below meth c H locs cells slots Q (F0 m (pc + 3) ls (.ref (B + (o + d)) :: rest))) : W p l e R s m args below meth c H locs cells slots Q (F0 m pc ls (.ref (B + o) :: rest)) :=
  hq_getf C hs hf ho hci hsl hdg kk
theorem hq_getA {o ci k index d : Nat} {fin : Bool} {ty : FieldType} (C : hq_C cl p m c cc nL s args Ts own meth ret D cA A Z) (hs : hq_S cl SL D cA Y B s.heap M H locs) (hf : hq_fl cl Ts own index ci k fin ty) (ho : Y[o]? = some (ci, 0)) (hci : ci < 13) (hsl : (SL ci)[k]? = some (3, d)) (hdg : decode cc pc = .ok (.getfield index, 3))
    (kk : W p l e R s m args below meth c H locs cells slots Q (F0 m (pc + 3) ls (.ref (B + d) :: rest))) : W p l e R s m args below meth c H locs cells slots Q (F0 m pc ls (.ref (B + o) :: rest)) :=
  hq_getf C hs hf ho hci hsl hdg kk
theorem hq_getS {o ci k index : Nat} {fin : Bool} {ty : FieldType} (C : hq_C cl p m c cc nL s args Ts own meth ret D cA A Z) (hs : hq_S cl SL D cA Y B s.heap M H locs) (hf : hq_fl cl Ts own index ci k fin ty) (ho : Y[o]? = some (ci, 0)) (hci : ci < 13) (hsl : (SL ci)[k]? = some (4, 0)) (hdg : decode cc pc = .ok (.getfield index, 3))
    (kk : Y[(M o k).toNat]? = some (7, 0) → W p l e R s m args below meth c H locs cells slots Q (F0 m (pc + 3) ls (.ref (B + (M o k).toNat) :: rest))) : W p l e R s m args below meth c H locs cells slots Q (F0 m pc ls (.ref (B + o) :: rest)) :=
  hq_getf C hs hf ho hci hsl hdg (kk (((hs.2.2 o _ ho).1 k _ hci hsl).2.2 rfl))
theorem hq_vd_up {o k : Nat} {v : Int} {q : Nat × Nat} (hv : hq_vd SL Y M) (ho : Y[o]? = some q) (h1 : ∀ t, q.1 < 13 → (SL q.1)[k]? = some t → (t.1 = 0 → rg v) ∧ (t.1 = 1 → rb v) ∧ (t.1 = 4 → Y[v.toNat]? = some (7, 0))) (h2 : q.1 = 13 → rg v) (h3 : q.1 = 14 → rl v) (h4 : q.1 = 15 → rb v) : hq_vd SL Y (hq_up M o k v) := by
  intro o' q' h'
  have hv' := hv o' q' h'
  by_cases e : o' = o
  · subst e
    have eq : q' = q := Option.some.inj (h'.symm.trans ho)
    subst eq
    refine ⟨fun j t hq ht => ?_, fun hq j => ?_, fun hq j => ?_, fun hq j => ?_⟩
    · by_cases ej : j = k
      · subst ej
        unfold hq_ok
        rw [hq_up_s]
        exact h1 t hq ht
      · unfold hq_ok
        rw [hq_up_n M v (Or.inr ej)]
        exact hv'.1 j t hq ht
    · by_cases ej : j = k
      · subst ej; rw [hq_up_s]; exact h2 hq
      · rw [hq_up_n M v (Or.inr ej)]; exact hv'.2.1 hq j
    · by_cases ej : j = k
      · subst ej; rw [hq_up_s]; exact h3 hq
      · rw [hq_up_n M v (Or.inr ej)]; exact hv'.2.2.1 hq j
    · by_cases ej : j = k
      · subst ej; rw [hq_up_s]; exact h4 hq
      · rw [hq_up_n M v (Or.inr ej)]; exact hv'.2.2.2 hq j
  · refine ⟨fun j t hq ht => ?_, fun hq j => ?_, fun hq j => ?_, fun hq j => ?_⟩
    · unfold hq_ok
      rw [hq_up_n M v (Or.inl e)]
      exact hv'.1 j t hq ht
    · rw [hq_up_n M v (Or.inl e)]; exact hv'.2.1 hq j
    · rw [hq_up_n M v (Or.inl e)]; exact hv'.2.2.1 hq j
    · rw [hq_up_n M v (Or.inl e)]; exact hv'.2.2.2 hq j
theorem hq_slots_set {o ci k : Nat} {v : Int} {w : Value} {t : Nat × Nat} (hsl : (SL ci)[k]? = some t) (hw : w = hq_val B (hq_up M o k v) o k t) : ((SL ci).zipIdx.map (fun t => hq_val B M o t.2 t.1)).set k w = (SL ci).zipIdx.map (fun t => hq_val B (hq_up M o k v) o t.2 t.1) := by
  apply List.ext_getElem?
  intro i
  have hk : k < (SL ci).length := (List.getElem?_eq_some_iff.mp hsl).1
  by_cases hi : i = k
  · subst hi
    rw [List.getElem?_set_self (by simpa using hk), hq_slot hsl, hw]
  · rw [List.getElem?_set_ne (Ne.symm hi)]
    simp only [List.getElem?_map, List.getElem?_zipIdx]
    cases hS : (SL ci)[i]? with
    | none => simp
    | some t' =>
      simp only [Option.map_some, Nat.zero_add]
      have e : hq_up M o k v o i = M o i := hq_up_n M v (Or.inr hi)
      unfold hq_val
      simp only [e]
theorem hq_putf {o ci k index : Nat} {ty : FieldType} {t : Nat × Nat} {v : Int} {w : Value} (C : hq_C cl p m c cc nL s args Ts own meth ret D cA A Z) (hs : hq_S cl SL D cA Y B s.heap M H locs) (hf : hq_fl cl Ts own index ci k false ty) (ho : Y[o]? = some (ci, 0)) (hci : ci < 13) (hsl : (SL ci)[k]? = some t) (hw : w = hq_val B (hq_up M o k v) o k t) (hn : narrow ty w = w) (hfit : fits ty w = true) (hok : (t.1 = 0 → rg v) ∧ (t.1 = 1 → rb v) ∧ (t.1 = 4 → Y[v.toNat]? = some (7, 0))) (hdg : decode cc pc = .ok (.putfield index, 3))
    (kk : ∀ (M1 : hq_M), M1 = hq_up M o k v → ∀ (H1 : Heap) (locs1 : List Loc), hq_S cl SL D cA Y B s.heap M1 H1 locs1 → W p l e R s m args below meth c H1 locs1 cells slots Q (F0 m (pc + 3) ls rest)) : W p l e R s m args below meth c H locs cells slots Q (F0 m pc ls (w :: .ref (B + o) :: rest)) := by
  obtain ⟨⟨hx, hb, -, hown, hts⟩, -, -, hK, -, -⟩ := C
  obtain ⟨Cn, T, N, ty0, f1, f2, f3, f4, f5, f6, f7, f8⟩ := hf
  have hat : (hq_ws SL cA Y B M)[o]? = some (B + o, .inr (ci, (SL ci).zipIdx.map (fun t => hq_val B M o t.2 t.1))) := by rw [hq_ws_at SL cA B M ho, hq_cel_o hci]
  have hk : k < (SL ci).length := (List.getElem?_eq_some_iff.mp hsl).1
  refine va_put hx hb hts f3 ty0 f7 f8 hown hK hs.1 hq_D hs.2.1 o hat f1 k f2 (hts _ f4) (fun _ h => h) f5 f6 hn hfit (by simpa using hk) hdg (fun H1 locs1 hP _ hS => ?_)
  rw [hq_slots_set hsl hw, hq_ws_set ho (hq_cel_o hci).symm (fun o' h' q' => hq_cel_ne o' h' q')] at hP
  exact kk _ rfl H1 locs1 ⟨hP, hS, hq_vd_up hs.2.2 ho (fun t' _ ht' => by rw [show t' = t from Option.some.inj (ht'.symm.trans hsl)]; exact hok) (fun h => by simp only at h; omega) (fun h => by simp only at h; omega) (fun h => by simp only at h; omega)⟩
theorem hq_putI {o ci k index : Nat} {v : Int} (C : hq_C cl p m c cc nL s args Ts own meth ret D cA A Z) (hs : hq_S cl SL D cA Y B s.heap M H locs) (hf : hq_fl cl Ts own index ci k false .int) (ho : Y[o]? = some (ci, 0)) (hci : ci < 13) (hsl : (SL ci)[k]? = some (0, 0)) (rv : rg v) (hdg : decode cc pc = .ok (.putfield index, 3))
    (kk : ∀ (M1 : hq_M), M1 = hq_up M o k v → ∀ (H1 : Heap) (locs1 : List Loc), hq_S cl SL D cA Y B s.heap M1 H1 locs1 → W p l e R s m args below meth c H1 locs1 cells slots Q (F0 m (pc + 3) ls rest)) : W p l e R s m args below meth c H locs cells slots Q (F0 m pc ls (.int (w3 v) :: .ref (B + o) :: rest)) :=
  hq_putf (v := v) C hs hf ho hci hsl (by unfold hq_val; rw [hq_up_s]; rfl) rfl rfl ⟨fun _ => rv, (fun h => absurd h (by decide)), (fun h => absurd h (by decide))⟩ hdg kk
theorem hq_putZ {o ci k index : Nat} {v : Int} (C : hq_C cl p m c cc nL s args Ts own meth ret D cA A Z) (hs : hq_S cl SL D cA Y B s.heap M H locs) (hf : hq_fl cl Ts own index ci k false .boolean) (ho : Y[o]? = some (ci, 0)) (hci : ci < 13) (hsl : (SL ci)[k]? = some (1, 0)) (rv : rb v) (hdg : decode cc pc = .ok (.putfield index, 3))
    (kk : ∀ (M1 : hq_M), M1 = hq_up M o k v → ∀ (H1 : Heap) (locs1 : List Loc), hq_S cl SL D cA Y B s.heap M1 H1 locs1 → W p l e R s m args below meth c H1 locs1 cells slots Q (F0 m (pc + 3) ls rest)) : W p l e R s m args below meth c H locs cells slots Q (F0 m pc ls (.int (w3 v) :: .ref (B + o) :: rest)) :=
  hq_putf (v := v) C hs hf ho hci hsl (by unfold hq_val; rw [hq_up_s]; rfl) (by rcases rv with h | h <;> subst h <;> decide) (by rcases rv with h | h <;> subst h <;> decide) ⟨(fun h => absurd h (by decide)), fun _ => rv, (fun h => absurd h (by decide))⟩ hdg kk
theorem hq_putS {o ci k index x : Nat} {rn : String} (C : hq_C cl p m c cc nL s args Ts own meth ret D cA A Z) (hs : hq_S cl SL D cA Y B s.heap M H locs) (hf : hq_fl cl Ts own index ci k false (.object rn)) (ho : Y[o]? = some (ci, 0)) (hci : ci < 13) (hsl : (SL ci)[k]? = some (4, 0)) (rv : Y[x]? = some (7, 0)) (hdg : decode cc pc = .ok (.putfield index, 3))
    (kk : ∀ (M1 : hq_M), M1 = hq_up M o k (x : Int) → ∀ (H1 : Heap) (locs1 : List Loc), hq_S cl SL D cA Y B s.heap M1 H1 locs1 → W p l e R s m args below meth c H1 locs1 cells slots Q (F0 m (pc + 3) ls rest)) : W p l e R s m args below meth c H locs cells slots Q (F0 m pc ls (.ref (B + x) :: .ref (B + o) :: rest)) :=
  hq_putf (v := (x : Int)) C hs hf ho hci hsl (by unfold hq_val; rw [hq_up_s]; rfl) rfl rfl ⟨(fun h => absurd h (by decide)), (fun h => absurd h (by decide)), fun _ => by simpa using rv⟩ hdg kk
/-! arrays -/
theorem hq_iald {o n : Nat} {z : Int} (C : hq_C cl p m c cc nL s args Ts own meth ret D cA A Z) (hs : hq_S cl SL D cA Y B s.heap M H locs) (ho : Y[o]? = some (13, n)) (rz : rg z) (hg : 0 ≤ z ∧ z < (n : Int)) (hdg : decode cc pc = .ok (.iaload, 1))
    (kk : rg (M o z.toNat) → W p l e R s m args below meth c H locs cells slots Q (F0 m (pc + 1) ls (.int (w3 (M o z.toNat)) :: rest))) : W p l e R s m args below meth c H locs cells slots Q (F0 m pc ls (.int (w3 z) :: .ref (B + o) :: rest)) := by
  obtain ⟨⟨hx, hb, -, hown, hts⟩, -, -, hK, -, -⟩ := C
  refine va_iald hx hb hK hs.1 o 0 (f := fun j => w3 (M o j)) (n := n) (cA := cA 0) ?_ rfl (w3_in rz hg.1 hg.2) hdg ?_
  · rw [hq_ws_at SL cA B M ho]; rfl
  · rw [w3_clamp rz]; exact kk ((hs.2.2 o _ ho).2.1 rfl _)
theorem hq_lald {o n : Nat} {z : Int} (C : hq_C cl p m c cc nL s args Ts own meth ret D cA A Z) (hs : hq_S cl SL D cA Y B s.heap M H locs) (ho : Y[o]? = some (14, n)) (rz : rg z) (hg : 0 ≤ z ∧ z < (n : Int)) (hdg : decode cc pc = .ok (.laload, 1))
    (kk : rl (M o z.toNat) → W p l e R s m args below meth c H locs cells slots Q (F0 m (pc + 1) ls (.long (w6 (M o z.toNat)) :: rest))) : W p l e R s m args below meth c H locs cells slots Q (F0 m pc ls (.int (w3 z) :: .ref (B + o) :: rest)) := by
  obtain ⟨⟨hx, hb, -, hown, hts⟩, -, -, hK, -, -⟩ := C
  refine va_lald hx hb hK hs.1 o 1 (f := fun j => w6 (M o j)) (n := n) (cA := cA 1) ?_ rfl (w3_in rz hg.1 hg.2) hdg ?_
  · rw [hq_ws_at SL cA B M ho]; rfl
  · rw [w3_clamp rz]; exact kk ((hs.2.2 o _ ho).2.2.1 rfl _)
theorem hq_zald {o n : Nat} {z : Int} (C : hq_C cl p m c cc nL s args Ts own meth ret D cA A Z) (hs : hq_S cl SL D cA Y B s.heap M H locs) (ho : Y[o]? = some (15, n)) (rz : rg z) (hg : 0 ≤ z ∧ z < (n : Int)) (hdg : decode cc pc = .ok (.baload, 1))
    (kk : rb (M o z.toNat) → W p l e R s m args below meth c H locs cells slots Q (F0 m (pc + 1) ls (.int (w3 (M o z.toNat)) :: rest))) : W p l e R s m args below meth c H locs cells slots Q (F0 m pc ls (.int (w3 z) :: .ref (B + o) :: rest)) := by
  obtain ⟨⟨hx, hb, -, hown, hts⟩, -, -, hK, -, -⟩ := C
  refine va_zald hx hb hK hs.1 o 2 (f := fun j => w3 (M o j)) (n := n) (cA := cA 2) ?_ rfl (w3_in rz hg.1 hg.2) hdg ?_
  · rw [hq_ws_at SL cA B M ho]; rfl
  · rw [w3_clamp rz]; exact kk ((hs.2.2 o _ ho).2.2.2 rfl _)
theorem hq_updI {o j : Nat} {v : Int} : upd (fun j => w3 (M o j)) j (w3 v) = fun i => w3 (hq_up M o j v o i) := by
  funext i
  by_cases h : i = j
  · subst h; simp [upd, hq_up_s]
  · simp [upd, h, hq_up_n M v (Or.inr h)]
theorem hq_updL {o j : Nat} {v : Int} : vp_updL (fun j => w6 (M o j)) j (w6 v) = fun i => w6 (hq_up M o j v o i) := by
  funext i
  by_cases h : i = j
  · subst h; simp [vp_updL, hq_up_s]
  · simp [vp_updL, h, hq_up_n M v (Or.inr h)]
theorem hq_iast {o n : Nat} {z v : Int} (C : hq_C cl p m c cc nL s args Ts own meth ret D cA A Z) (hs : hq_S cl SL D cA Y B s.heap M H locs) (ho : Y[o]? = some (13, n)) (rz : rg z) (hg : 0 ≤ z ∧ z < (n : Int)) (rv : rg v) (hdg : decode cc pc = .ok (.iastore, 1))
    (kk : ∀ (M1 : hq_M), M1 = hq_up M o z.toNat v → ∀ (H1 : Heap) (locs1 : List Loc), hq_S cl SL D cA Y B s.heap M1 H1 locs1 → W p l e R s m args below meth c H1 locs1 cells slots Q (F0 m (pc + 1) ls rest)) : W p l e R s m args below meth c H locs cells slots Q (F0 m pc ls (.int (w3 v) :: .int (w3 z) :: .ref (B + o) :: rest)) := by
  obtain ⟨⟨hx, hb, -, hown, hts⟩, -, -, hK, -, -⟩ := C
  refine va_iast hx hb hK hs.1 hq_D hs.2.1 o 0 (f := fun j => w3 (M o j)) (n := n) (cA := cA 0) ?_ rfl (w3_in rz hg.1 hg.2) hdg (fun H1 locs1 hP _ hS => ?_)
  · rw [hq_ws_at SL cA B M ho]; rfl
  · rw [w3_clamp rz, hq_updI, hq_ws_set (SL := SL) (cA := cA) (B := B) (M := M) (M' := hq_up M o z.toNat v) (e := .inl (cA 0, n, .inl fun i => w3 (hq_up M o z.toNat v o i))) ho rfl (fun o' h' q' => hq_cel_ne o' h' q')] at hP
    exact kk _ rfl H1 locs1 ⟨hP, hS, hq_vd_up hs.2.2 ho (fun t' h => by simp only at h; omega) (fun _ => rv) (fun h => by simp only at h; omega) (fun h => by simp only at h; omega)⟩
theorem hq_zast {o n : Nat} {z v : Int} (C : hq_C cl p m c cc nL s args Ts own meth ret D cA A Z) (hs : hq_S cl SL D cA Y B s.heap M H locs) (ho : Y[o]? = some (15, n)) (rz : rg z) (hg : 0 ≤ z ∧ z < (n : Int)) (rv : rb v) (hdg : decode cc pc = .ok (.bastore, 1))
    (kk : ∀ (M1 : hq_M), M1 = hq_up M o z.toNat v → ∀ (H1 : Heap) (locs1 : List Loc), hq_S cl SL D cA Y B s.heap M1 H1 locs1 → W p l e R s m args below meth c H1 locs1 cells slots Q (F0 m (pc + 1) ls rest)) : W p l e R s m args below meth c H locs cells slots Q (F0 m pc ls (.int (w3 v) :: .int (w3 z) :: .ref (B + o) :: rest)) := by
  obtain ⟨⟨hx, hb, -, hown, hts⟩, -, -, hK, -, -⟩ := C
  refine va_zast hx hb hK hs.1 hq_D hs.2.1 o 2 (f := fun j => w3 (M o j)) (n := n) (cA := cA 2) ?_ rfl (w3_in rz hg.1 hg.2) hdg (fun H1 locs1 hP _ hS => ?_)
  · rw [hq_ws_at SL cA B M ho]; rfl
  · have hn : vp_nar .boolean (w3 v) = w3 v := by rcases rv with h | h <;> subst h <;> decide
    rw [hn, w3_clamp rz, hq_updI, hq_ws_set (SL := SL) (cA := cA) (B := B) (M := M) (M' := hq_up M o z.toNat v) (e := .inl (cA 2, n, .inl fun i => w3 (hq_up M o z.toNat v o i))) ho rfl (fun o' h' q' => hq_cel_ne o' h' q')] at hP
    exact kk _ rfl H1 locs1 ⟨hP, hS, hq_vd_up hs.2.2 ho (fun t' h => by simp only at h; omega) (fun h => by simp only at h; omega) (fun h => by simp only at h; omega) (fun _ => rv)⟩
theorem hq_last {o n : Nat} {z v : Int} (C : hq_C cl p m c cc nL s args Ts own meth ret D cA A Z) (hs : hq_S cl SL D cA Y B s.heap M H locs) (ho : Y[o]? = some (14, n)) (rz : rg z) (hg : 0 ≤ z ∧ z < (n : Int)) (rv : rl v) (hdg : decode cc pc = .ok (.lastore, 1))
    (kk : ∀ (M1 : hq_M), M1 = hq_up M o z.toNat v → ∀ (H1 : Heap) (locs1 : List Loc), hq_S cl SL D cA Y B s.heap M1 H1 locs1 → W p l e R s m args below meth c H1 locs1 cells slots Q (F0 m (pc + 1) ls rest)) : W p l e R s m args below meth c H locs cells slots Q (F0 m pc ls (.long (w6 v) :: .int (w3 z) :: .ref (B + o) :: rest)) := by
  obtain ⟨⟨hx, hb, -, hown, hts⟩, -, -, hK, -, -⟩ := C
  refine va_last hx hb hK hs.1 hq_D hs.2.1 o 1 (f := fun j => w6 (M o j)) (n := n) (cA := cA 1) ?_ rfl (w3_in rz hg.1 hg.2) hdg (fun H1 locs1 hP _ hS => ?_)
  · rw [hq_ws_at SL cA B M ho]; rfl
  · rw [w3_clamp rz, hq_updL, hq_ws_set (SL := SL) (cA := cA) (B := B) (M := M) (M' := hq_up M o z.toNat v) (e := .inl (cA 1, n, .inr (.inl fun i => w6 (hq_up M o z.toNat v o i)))) ho rfl (fun o' h' q' => hq_cel_ne o' h' q')] at hP
    exact kk _ rfl H1 locs1 ⟨hP, hS, hq_vd_up hs.2.2 ho (fun t' h => by simp only at h; omega) (fun h => by simp only at h; omega) (fun _ => rv) (fun h => by simp only at h; omega)⟩
theorem hq_alen {o n k : Nat} (C : hq_C cl p m c cc nL s args Ts own meth ret D cA A Z) (hs : hq_S cl SL D cA Y B s.heap M H locs) (ho : Y[o]? = some (k, n)) (hk : k = 13 ∨ k = 14 ∨ k = 15 ∨ k = 16 ∨ k = 17) (hdg : decode cc pc = .ok (.arraylength, 1))
    (kk : W p l e R s m args below meth c H locs cells slots Q (F0 m (pc + 1) ls (.int (w3 (n : Int)) :: rest))) : W p l e R s m args below meth c H locs cells slots Q (F0 m pc ls (.ref (B + o) :: rest)) := by
  obtain ⟨⟨hx, hb, -, hown, hts⟩, -, -, hK, -, -⟩ := C
  rcases hk with h | h | h | h | h <;> subst h
  · exact va_alen hx hb hK hs.1 o 0 (cA := cA 0) (x := (n, .inl (fun j => w3 (M o j)))) (by rw [hq_ws_at SL cA B M ho]; rfl) rfl rfl hdg kk
  · exact va_alen hx hb hK hs.1 o 1 (cA := cA 1) (x := (n, .inr (.inl (fun j => w6 (M o j))))) (by rw [hq_ws_at SL cA B M ho]; rfl) rfl rfl hdg kk
  · exact va_alen hx hb hK hs.1 o 2 (cA := cA 2) (x := (n, .inl (fun j => w3 (M o j)))) (by rw [hq_ws_at SL cA B M ho]; rfl) rfl rfl hdg kk
  · exact va_alen hx hb hK hs.1 o 3 (cA := cA 3) (x := (n, .inr (.inr (.inr (.inr (fun j => some (B + (o + 1 + 5 * j)))))))) (by rw [hq_ws_at SL cA B M ho]; rfl) rfl rfl hdg kk
  · exact va_alen hx hb hK hs.1 o 4 (cA := cA 4) (x := (n, .inr (.inr (.inr (.inr (fun j => some (B + (o + 1 + 5 * j)))))))) (by rw [hq_ws_at SL cA B M ho]; rfl) rfl rfl hdg kk
theorem hq_aald {o n k : Nat} {z : Int} (C : hq_C cl p m c cc nL s args Ts own meth ret D cA A Z) (hs : hq_S cl SL D cA Y B s.heap M H locs) (ho : Y[o]? = some (k, n)) (hk : k = 16 ∨ k = 17) (rz : rg z) (hg : 0 ≤ z ∧ z < (n : Int)) (hdg : decode cc pc = .ok (.aaload, 1))
    (kk : W p l e R s m args below meth c H locs cells slots Q (F0 m (pc + 1) ls (.ref (B + (o + 1 + 5 * z.toNat)) :: rest))) : W p l e R s m args below meth c H locs cells slots Q (F0 m pc ls (.int (w3 z) :: .ref (B + o) :: rest)) := by
  obtain ⟨⟨hx, hb, -, hown, hts⟩, -, -, hK, -, -⟩ := C
  rcases hk with h | h <;> subst h
  · refine va_aldq hx hb hK hs.1 o 3 (f := fun j => some (B + (o + 1 + 5 * j))) (n := n) (cA := cA 3) ?_ rfl (w3_in rz hg.1 hg.2) hdg ?_
    · rw [hq_ws_at SL cA B M ho]; rfl
    · rw [w3_clamp rz]; exact kk
  · refine va_aldq hx hb hK hs.1 o 4 (f := fun j => some (B + (o + 1 + 5 * j))) (n := n) (cA := cA 4) ?_ rfl (w3_in rz hg.1 hg.2) hdg ?_
    · rw [hq_ws_at SL cA B M ho]; rfl
    · rw [w3_clamp rz]; exact kk
/-! numbers -/
theorem hq_nm {x : Int} (kk : ∀ y : Int, y = x → W p l e R s m args below meth c H locs cells slots Q (F0 m pc ls (.int (w3 y) :: rest))) : W p l e R s m args below meth c H locs cells slots Q (F0 m pc ls (.int (w3 x) :: rest)) := kk x rfl
theorem hq_nmL {x : Int} (kk : ∀ y : Int, y = x → W p l e R s m args below meth c H locs cells slots Q (F0 m pc ls (.long (w6 y) :: rest))) : W p l e R s m args below meth c H locs cells slots Q (F0 m pc ls (.long (w6 x) :: rest)) := kk x rfl
theorem hq_iadd {x y : Int} (C : hq_C cl p m c cc nL s args Ts own meth ret D cA A Z) (hdg : decode cc pc = .ok (.iadd, 1)) (kk : W p l e R s m args below meth c H locs cells slots Q (F0 m (pc + 1) ls (.int (w3 (x + y)) :: rest))) : W p l e R s m args below meth c H locs cells slots Q (F0 m pc ls (.int (w3 y) :: .int (w3 x) :: rest)) := by
  obtain ⟨⟨hx, hb, -, hown, hts⟩, -, -, -, -, -⟩ := C
  refine lv_iadd hx hb hdg ?_
  rw [w3_add]
  exact kk
theorem hq_isub {x y : Int} (C : hq_C cl p m c cc nL s args Ts own meth ret D cA A Z) (hdg : decode cc pc = .ok (.isub, 1)) (kk : W p l e R s m args below meth c H locs cells slots Q (F0 m (pc + 1) ls (.int (w3 (x - y)) :: rest))) : W p l e R s m args below meth c H locs cells slots Q (F0 m pc ls (.int (w3 y) :: .int (w3 x) :: rest)) := by
  obtain ⟨⟨hx, hb, -, hown, hts⟩, -, -, -, -, -⟩ := C
  refine lv_isub hx hb hdg ?_
  rw [w3_sub]
  exact kk
theorem hq_imul {x y : Int} (C : hq_C cl p m c cc nL s args Ts own meth ret D cA A Z) (hdg : decode cc pc = .ok (.imul, 1)) (kk : W p l e R s m args below meth c H locs cells slots Q (F0 m (pc + 1) ls (.int (w3 (x * y)) :: rest))) : W p l e R s m args below meth c H locs cells slots Q (F0 m pc ls (.int (w3 y) :: .int (w3 x) :: rest)) := by
  obtain ⟨⟨hx, hb, -, hown, hts⟩, -, -, -, -, -⟩ := C
  refine lv_imul hx hb hdg ?_
  rw [w3_mul]
  exact kk
theorem hq_idiv {x y : Int} (C : hq_C cl p m c cc nL s args Ts own meth ret D cA A Z) (rx : rg x) (ry : rg y) (hg : 0 ≤ x ∧ 0 < y) (hdg : decode cc pc = .ok (.idiv, 1)) (kk : W p l e R s m args below meth c H locs cells slots Q (F0 m (pc + 1) ls (.int (w3 (x / y)) :: rest))) : W p l e R s m args below meth c H locs cells slots Q (F0 m pc ls (.int (w3 y) :: .int (w3 x) :: rest)) := by
  obtain ⟨⟨hx, hb, -, hown, hts⟩, -, -, -, -, -⟩ := C
  refine lv_idiv hx hb hdg (w3_ne0 ry (by omega)) ?_
  rw [w3_div rx ry hg.1 hg.2]
  exact kk
theorem hq_irem {x y : Int} (C : hq_C cl p m c cc nL s args Ts own meth ret D cA A Z) (rx : rg x) (ry : rg y) (hg : 0 ≤ x ∧ 0 < y) (hdg : decode cc pc = .ok (.irem, 1)) (kk : W p l e R s m args below meth c H locs cells slots Q (F0 m (pc + 1) ls (.int (w3 (x % y)) :: rest))) : W p l e R s m args below meth c H locs cells slots Q (F0 m pc ls (.int (w3 y) :: .int (w3 x) :: rest)) := by
  obtain ⟨⟨hx, hb, -, hown, hts⟩, -, -, -, -, -⟩ := C
  refine lv_irem hx hb hdg (w3_ne0 ry (by omega)) ?_
  rw [w3_rem rx ry hg.1 hg.2]
  exact kk
theorem hq_iand {x y n : Int} (k : Nat) (C : hq_C cl p m c cc nL s args Ts own meth ret D cA A Z) (hk : k ≤ 30 ∧ y = ((2 ^ k - 1 : Nat) : Int) ∧ n = ((2 ^ k : Nat) : Int)) (rx : rg x) (hdg : decode cc pc = .ok (.iand, 1)) (kk : W p l e R s m args below meth c H locs cells slots Q (F0 m (pc + 1) ls (.int (w3 (x % n)) :: rest))) : W p l e R s m args below meth c H locs cells slots Q (F0 m pc ls (.int (w3 y) :: .int (w3 x) :: rest)) := by
  obtain ⟨⟨hx, hb, -, hown, hts⟩, -, -, -, -, -⟩ := C
  obtain ⟨h1, rfl, rfl⟩ := hk
  refine lv_iand hx hb hdg ?_
  rw [w3_mask k h1 rx]
  exact kk
theorem hq_ishr {x y n : Int} (k : Nat) (C : hq_C cl p m c cc nL s args Ts own meth ret D cA A Z) (hk : k ≤ 30 ∧ y = (k : Int) ∧ n = ((2 ^ k : Nat) : Int)) (rx : rg x) (h0 : 0 ≤ x) (hdg : decode cc pc = .ok (.ishr, 1)) (kk : W p l e R s m args below meth c H locs cells slots Q (F0 m (pc + 1) ls (.int (w3 (x / n)) :: rest))) : W p l e R s m args below meth c H locs cells slots Q (F0 m pc ls (.int (w3 y) :: .int (w3 x) :: rest)) := by
  obtain ⟨⟨hx, hb, -, hown, hts⟩, -, -, -, -, -⟩ := C
  obtain ⟨h1, rfl, rfl⟩ := hk
  refine lv_ishr hx hb hdg ?_
  rw [w3_shr k h1 rx h0]
  exact kk
theorem hq_ishl {x y : Int} (C : hq_C cl p m c cc nL s args Ts own meth ret D cA A Z) (hg : 0 ≤ y ∧ y ≤ 30) (hdg : decode cc pc = .ok (.ishl, 1)) (kk : W p l e R s m args below meth c H locs cells slots Q (F0 m (pc + 1) ls (.int (w3 (x * ((2 ^ y.toNat : Nat) : Int))) :: rest))) : W p l e R s m args below meth c H locs cells slots Q (F0 m pc ls (.int (w3 y) :: .int (w3 x) :: rest)) := by
  obtain ⟨⟨hx, hb, -, hown, hts⟩, -, -, -, -, -⟩ := C
  refine lv_ishl hx hb hdg ?_
  rw [w3_shl hg.1 hg.2]
  exact kk
theorem hq_ladd {x y : Int} (C : hq_C cl p m c cc nL s args Ts own meth ret D cA A Z) (hdg : decode cc pc = .ok (.ladd, 1)) (kk : W p l e R s m args below meth c H locs cells slots Q (F0 m (pc + 1) ls (.long (w6 (x + y)) :: rest))) : W p l e R s m args below meth c H locs cells slots Q (F0 m pc ls (.long (w6 y) :: .long (w6 x) :: rest)) := by
  obtain ⟨⟨hx, hb, -, hown, hts⟩, -, -, -, -, -⟩ := C
  refine lv_ladd hx hb hdg ?_
  rw [w6_add]
  exact kk
theorem hq_lmul {x y : Int} (C : hq_C cl p m c cc nL s args Ts own meth ret D cA A Z) (hdg : decode cc pc = .ok (.lmul, 1)) (kk : W p l e R s m args below meth c H locs cells slots Q (F0 m (pc + 1) ls (.long (w6 (x * y)) :: rest))) : W p l e R s m args below meth c H locs cells slots Q (F0 m pc ls (.long (w6 y) :: .long (w6 x) :: rest)) := by
  obtain ⟨⟨hx, hb, -, hown, hts⟩, -, -, -, -, -⟩ := C
  refine lv_lmul hx hb hdg ?_
  rw [w6_mul]
  exact kk
theorem hq_laddW {x y : Int} (C : hq_C cl p m c cc nL s args Ts own meth ret D cA A Z) (hdg : decode cc pc = .ok (.ladd, 1)) (kk : W p l e R s m args below meth c H locs cells slots Q (F0 m (pc + 1) ls (.long (w6 (hq_wr (x + y))) :: rest))) : W p l e R s m args below meth c H locs cells slots Q (F0 m pc ls (.long (w6 y) :: .long (w6 x) :: rest)) := by
  obtain ⟨⟨hx, hb, -, hown, hts⟩, -, -, -, -, -⟩ := C
  refine lv_ladd hx hb hdg ?_
  rw [show hq_wr (x + y) = (w6 (x + y)).toInt from rfl, w6_of] at kk
  rw [w6_add]
  exact kk
theorem hq_lmulW {x y : Int} (C : hq_C cl p m c cc nL s args Ts own meth ret D cA A Z) (hdg : decode cc pc = .ok (.lmul, 1)) (kk : W p l e R s m args below meth c H locs cells slots Q (F0 m (pc + 1) ls (.long (w6 (hq_wr (x * y))) :: rest))) : W p l e R s m args below meth c H locs cells slots Q (F0 m pc ls (.long (w6 y) :: .long (w6 x) :: rest)) := by
  obtain ⟨⟨hx, hb, -, hown, hts⟩, -, -, -, -, -⟩ := C
  refine lv_lmul hx hb hdg ?_
  rw [show hq_wr (x * y) = (w6 (x * y)).toInt from rfl, w6_of] at kk
  rw [w6_mul]
  exact kk
theorem hq_lor {x y : Int} (C : hq_C cl p m c cc nL s args Ts own meth ret D cA A Z) (hdg : decode cc pc = .ok (.lor, 1)) (kk : W p l e R s m args below meth c H locs cells slots Q (F0 m (pc + 1) ls (.long (w6 (hq_or x y)) :: rest))) : W p l e R s m args below meth c H locs cells slots Q (F0 m pc ls (.long (w6 y) :: .long (w6 x) :: rest)) := by
  obtain ⟨⟨hx, hb, -, hown, hts⟩, -, -, -, -, -⟩ := C
  refine lv_lor hx hb hdg ?_
  rw [show hq_or x y = (w6 x ||| w6 y).toInt from rfl, w6_of] at kk
  exact kk
theorem hq_land {x y : Int} (C : hq_C cl p m c cc nL s args Ts own meth ret D cA A Z) (hdg : decode cc pc = .ok (.land, 1)) (kk : W p l e R s m args below meth c H locs cells slots Q (F0 m (pc + 1) ls (.long (w6 (hq_and x y)) :: rest))) : W p l e R s m args below meth c H locs cells slots Q (F0 m pc ls (.long (w6 y) :: .long (w6 x) :: rest)) := by
  obtain ⟨⟨hx, hb, -, hown, hts⟩, -, -, -, -, -⟩ := C
  refine lv_land hx hb hdg ?_
  rw [show hq_and x y = (w6 x &&& w6 y).toInt from rfl, w6_of] at kk
  exact kk
theorem hq_lxor {x y : Int} (C : hq_C cl p m c cc nL s args Ts own meth ret D cA A Z) (hdg : decode cc pc = .ok (.lxor, 1)) (kk : W p l e R s m args below meth c H locs cells slots Q (F0 m (pc + 1) ls (.long (w6 (hq_xor x y)) :: rest))) : W p l e R s m args below meth c H locs cells slots Q (F0 m pc ls (.long (w6 y) :: .long (w6 x) :: rest)) := by
  obtain ⟨⟨hx, hb, -, hown, hts⟩, -, -, -, -, -⟩ := C
  refine lv_lxor hx hb hdg ?_
  rw [show hq_xor x y = (w6 x ^^^ w6 y).toInt from rfl, w6_of] at kk
  exact kk
theorem hq_iandG {x y : Int} (C : hq_C cl p m c cc nL s args Ts own meth ret D cA A Z) (hdg : decode cc pc = .ok (.iand, 1)) (kk : W p l e R s m args below meth c H locs cells slots Q (F0 m (pc + 1) ls (.int (w3 (hq_ian x y)) :: rest))) : W p l e R s m args below meth c H locs cells slots Q (F0 m pc ls (.int (w3 y) :: .int (w3 x) :: rest)) := by
  obtain ⟨⟨hx, hb, -, hown, hts⟩, -, -, -, -, -⟩ := C
  refine lv_iand hx hb hdg ?_
  rw [show hq_ian x y = (w3 x &&& w3 y).toInt from rfl, w3_of] at kk
  exact kk
theorem hq_lshl {x y : Int} (C : hq_C cl p m c cc nL s args Ts own meth ret D cA A Z) (hdg : decode cc pc = .ok (.lshl, 1)) (kk : W p l e R s m args below meth c H locs cells slots Q (F0 m (pc + 1) ls (.long (w6 (hq_lsh x y)) :: rest))) : W p l e R s m args below meth c H locs cells slots Q (F0 m pc ls (.int (w3 y) :: .long (w6 x) :: rest)) := by
  obtain ⟨⟨hx, hb, -, hown, hts⟩, -, -, -, -, -⟩ := C
  refine lv_lshl hx hb hdg rfl ?_
  rw [show hq_lsh x y = (w6 x <<< ((w3 y).toInt64 &&& 63)).toInt from rfl, w6_of] at kk
  exact kk
theorem hq_i2l {x y : Int} (C : hq_C cl p m c cc nL s args Ts own meth ret D cA A Z) (rx : rg x) (hdg : decode cc pc = .ok (.i2l, 1)) (kk : W p l e R s m args below meth c H locs cells slots Q (F0 m (pc + 1) ls (.long (w6 x) :: rest))) : W p l e R s m args below meth c H locs cells slots Q (F0 m pc ls (.int (w3 x) :: rest)) := by
  obtain ⟨⟨hx, hb, -, hown, hts⟩, -, -, -, -, -⟩ := C
  exact lv_i2l hx hb hdg (w3_i2l rx) kk
theorem hq_l2i {x y : Int} (C : hq_C cl p m c cc nL s args Ts own meth ret D cA A Z) (rx : rg x) (hdg : decode cc pc = .ok (.l2i, 1)) (kk : W p l e R s m args below meth c H locs cells slots Q (F0 m (pc + 1) ls (.int (w3 x) :: rest))) : W p l e R s m args below meth c H locs cells slots Q (F0 m pc ls (.long (w6 x) :: rest)) := by
  obtain ⟨⟨hx, hb, -, hown, hts⟩, -, -, -, -, -⟩ := C
  exact lv_l2i hx hb hdg (w6_l2i rx) kk
theorem hq_iconst {n : Int} (C : hq_C cl p m c cc nL s args Ts own meth ret D cA A Z) (hdg : decode cc pc = .ok (.iconst n, 1)) (kk : W p l e R s m args below meth c H locs cells slots Q (F0 m (pc + 1) ls (.int (w3 n) :: rest))) : W p l e R s m args below meth c H locs cells slots Q (F0 m pc ls rest) := lv_iconst C.1.1 C.1.2.1 hdg rfl kk
theorem hq_bipush {n : Int} (C : hq_C cl p m c cc nL s args Ts own meth ret D cA A Z) (hdg : decode cc pc = .ok (.bipush n, 2)) (hv : (Int8.ofInt n).toInt32 = w3 n) (kk : W p l e R s m args below meth c H locs cells slots Q (F0 m (pc + 2) ls (.int (w3 n) :: rest))) : W p l e R s m args below meth c H locs cells slots Q (F0 m pc ls rest) := lv_bipush C.1.1 C.1.2.1 hdg hv kk
theorem hq_sipush {n : Int} (C : hq_C cl p m c cc nL s args Ts own meth ret D cA A Z) (hdg : decode cc pc = .ok (.sipush n, 3)) (hv : (Int16.ofInt n).toInt32 = w3 n) (kk : W p l e R s m args below meth c H locs cells slots Q (F0 m (pc + 3) ls (.int (w3 n) :: rest))) : W p l e R s m args below meth c H locs cells slots Q (F0 m pc ls rest) := lv_sipush C.1.1 C.1.2.1 hdg hv kk
theorem hq_lconst {n : Fin 2} {z : Int} (C : hq_C cl p m c cc nL s args Ts own meth ret D cA A Z) (hdg : decode cc pc = .ok (.lconst n, 1)) (hz : Int64.ofNat (n : Nat) = w6 z) (kk : W p l e R s m args below meth c H locs cells slots Q (F0 m (pc + 1) ls (.long (w6 z) :: rest))) : W p l e R s m args below meth c H locs cells slots Q (F0 m pc ls rest) := lv_lconst C.1.1 C.1.2.1 hdg hz kk
theorem hq_ldc2 {z : Int} {v : Int64} {index : Nat} (C : hq_C cl p m c cc nL s args Ts own meth ret D cA A Z) (hl : Cond.constantLong own index v ∈ Ts) (hz : v = w6 z) (hdg : decode cc pc = .ok (.ldc2_w index, 3)) (kk : W p l e R s m args below meth c H locs cells slots Q (F0 m (pc + 3) ls (.long (w6 z) :: rest))) : W p l e R s m args below meth c H locs cells slots Q (F0 m pc ls rest) := by
  subst hz
  exact lv_ldc2 C.1.1 C.1.2.1 C.1.2.2.2.1 (C.1.2.2.2.2 _ hl) hdg kk
theorem hq_ldc {z : Int} {v : Int32} {index : Nat} (C : hq_C cl p m c cc nL s args Ts own meth ret D cA A Z) (hl : Cond.constant own index v ∈ Ts) (hz : v = w3 z) (hdg : decode cc pc = .ok (.ldc index, 2)) (kk : W p l e R s m args below meth c H locs cells slots Q (F0 m (pc + 2) ls (.int (w3 z) :: rest))) : W p l e R s m args below meth c H locs cells slots Q (F0 m pc ls rest) := by
  subst hz
  exact lv_ldc C.1.1 C.1.2.1 C.1.2.2.2.1 (C.1.2.2.2.2 _ hl) hdg kk
theorem hq_icmp_eq {x y : Int} (C : hq_C cl p m c cc nL s args Ts own meth ret D cA A Z) (rx : rg x) (ry : rg y) {off : Int} {tgt : Nat} (hdg : decode cc pc = .ok (.if_icmp .eq off, 3)) (ht : (pc : Int) + off = (tgt : Int)) (kt : x = y → W p l e R s m args below meth c H locs cells slots Q (F0 m tgt ls rest)) (kf : ¬ x = y → W p l e R s m args below meth c H locs cells slots Q (F0 m (pc + 3) ls rest)) : W p l e R s m args below meth c H locs cells slots Q (F0 m pc ls (.int (w3 y) :: .int (w3 x) :: rest)) :=
  lv_icmp_eq C.1.1 C.1.2.1 hdg ht (fun h => kt ((w3_eq rx ry).mp h)) (fun h => kf (by first | exact fun q => h ((w3_eq rx ry).mpr q) | exact (w3_eq rx ry).mp h))
theorem hq_if_eq {x : Int} (C : hq_C cl p m c cc nL s args Ts own meth ret D cA A Z) (rx : rg x) {off : Int} {tgt : Nat} (hdg : decode cc pc = .ok (.ifCond .eq off, 3)) (ht : (pc : Int) + off = (tgt : Int)) (kt : x = 0 → W p l e R s m args below meth c H locs cells slots Q (F0 m tgt ls rest)) (kf : ¬ x = 0 → W p l e R s m args below meth c H locs cells slots Q (F0 m (pc + 3) ls rest)) : W p l e R s m args below meth c H locs cells slots Q (F0 m pc ls (.int (w3 x) :: rest)) :=
  lv_if_eq C.1.1 C.1.2.1 hdg ht (fun h => kt ((w3_eq rx (by decide : rg 0)).mp h)) (fun h => kf (fun q => h ((w3_eq rx (by decide : rg 0)).mpr q)))
theorem hq_icmp_ne {x y : Int} (C : hq_C cl p m c cc nL s args Ts own meth ret D cA A Z) (rx : rg x) (ry : rg y) {off : Int} {tgt : Nat} (hdg : decode cc pc = .ok (.if_icmp .ne off, 3)) (ht : (pc : Int) + off = (tgt : Int)) (kt : ¬ x = y → W p l e R s m args below meth c H locs cells slots Q (F0 m tgt ls rest)) (kf : x = y → W p l e R s m args below meth c H locs cells slots Q (F0 m (pc + 3) ls rest)) : W p l e R s m args below meth c H locs cells slots Q (F0 m pc ls (.int (w3 y) :: .int (w3 x) :: rest)) :=
  lv_icmp_ne C.1.1 C.1.2.1 hdg ht (fun h => kt ((not_congr (w3_eq rx ry)).mp h)) (fun h => kf ((w3_eq rx ry).mp h))
theorem hq_if_ne {x : Int} (C : hq_C cl p m c cc nL s args Ts own meth ret D cA A Z) (rx : rg x) {off : Int} {tgt : Nat} (hdg : decode cc pc = .ok (.ifCond .ne off, 3)) (ht : (pc : Int) + off = (tgt : Int)) (kt : ¬ x = 0 → W p l e R s m args below meth c H locs cells slots Q (F0 m tgt ls rest)) (kf : x = 0 → W p l e R s m args below meth c H locs cells slots Q (F0 m (pc + 3) ls rest)) : W p l e R s m args below meth c H locs cells slots Q (F0 m pc ls (.int (w3 x) :: rest)) :=
  lv_if_ne C.1.1 C.1.2.1 hdg ht (fun h => kt ((not_congr (w3_eq rx (by decide : rg 0))).mp h)) (fun h => kf ((w3_eq rx (by decide : rg 0)).mp h))
theorem hq_icmp_lt {x y : Int} (C : hq_C cl p m c cc nL s args Ts own meth ret D cA A Z) (rx : rg x) (ry : rg y) {off : Int} {tgt : Nat} (hdg : decode cc pc = .ok (.if_icmp .lt off, 3)) (ht : (pc : Int) + off = (tgt : Int)) (kt : x < y → W p l e R s m args below meth c H locs cells slots Q (F0 m tgt ls rest)) (kf : ¬ x < y → W p l e R s m args below meth c H locs cells slots Q (F0 m (pc + 3) ls rest)) : W p l e R s m args below meth c H locs cells slots Q (F0 m pc ls (.int (w3 y) :: .int (w3 x) :: rest)) :=
  lv_icmp_lt C.1.1 C.1.2.1 hdg ht (fun h => kt ((w3_lt rx ry).mp h)) (fun h => kf (by first | exact fun q => h ((w3_lt rx ry).mpr q) | exact (w3_lt rx ry).mp h))
theorem hq_if_lt {x : Int} (C : hq_C cl p m c cc nL s args Ts own meth ret D cA A Z) (rx : rg x) {off : Int} {tgt : Nat} (hdg : decode cc pc = .ok (.ifCond .lt off, 3)) (ht : (pc : Int) + off = (tgt : Int)) (kt : x < 0 → W p l e R s m args below meth c H locs cells slots Q (F0 m tgt ls rest)) (kf : ¬ x < 0 → W p l e R s m args below meth c H locs cells slots Q (F0 m (pc + 3) ls rest)) : W p l e R s m args below meth c H locs cells slots Q (F0 m pc ls (.int (w3 x) :: rest)) :=
  lv_if_lt C.1.1 C.1.2.1 hdg ht (fun h => kt ((w3_lt rx (by decide : rg 0)).mp h)) (fun h => kf (fun q => h ((w3_lt rx (by decide : rg 0)).mpr q)))
theorem hq_icmp_ge {x y : Int} (C : hq_C cl p m c cc nL s args Ts own meth ret D cA A Z) (rx : rg x) (ry : rg y) {off : Int} {tgt : Nat} (hdg : decode cc pc = .ok (.if_icmp .ge off, 3)) (ht : (pc : Int) + off = (tgt : Int)) (kt : y ≤ x → W p l e R s m args below meth c H locs cells slots Q (F0 m tgt ls rest)) (kf : ¬ y ≤ x → W p l e R s m args below meth c H locs cells slots Q (F0 m (pc + 3) ls rest)) : W p l e R s m args below meth c H locs cells slots Q (F0 m pc ls (.int (w3 y) :: .int (w3 x) :: rest)) :=
  lv_icmp_ge C.1.1 C.1.2.1 hdg ht (fun h => kt ((w3_le ry rx).mp h)) (fun h => kf (by first | exact fun q => h ((w3_le ry rx).mpr q) | exact (w3_le ry rx).mp h))
theorem hq_if_ge {x : Int} (C : hq_C cl p m c cc nL s args Ts own meth ret D cA A Z) (rx : rg x) {off : Int} {tgt : Nat} (hdg : decode cc pc = .ok (.ifCond .ge off, 3)) (ht : (pc : Int) + off = (tgt : Int)) (kt : 0 ≤ x → W p l e R s m args below meth c H locs cells slots Q (F0 m tgt ls rest)) (kf : ¬ 0 ≤ x → W p l e R s m args below meth c H locs cells slots Q (F0 m (pc + 3) ls rest)) : W p l e R s m args below meth c H locs cells slots Q (F0 m pc ls (.int (w3 x) :: rest)) :=
  lv_if_ge C.1.1 C.1.2.1 hdg ht (fun h => kt ((w3_le (by decide : rg 0) rx).mp h)) (fun h => kf (fun q => h ((w3_le (by decide : rg 0) rx).mpr q)))
theorem hq_icmp_gt {x y : Int} (C : hq_C cl p m c cc nL s args Ts own meth ret D cA A Z) (rx : rg x) (ry : rg y) {off : Int} {tgt : Nat} (hdg : decode cc pc = .ok (.if_icmp .gt off, 3)) (ht : (pc : Int) + off = (tgt : Int)) (kt : y < x → W p l e R s m args below meth c H locs cells slots Q (F0 m tgt ls rest)) (kf : ¬ y < x → W p l e R s m args below meth c H locs cells slots Q (F0 m (pc + 3) ls rest)) : W p l e R s m args below meth c H locs cells slots Q (F0 m pc ls (.int (w3 y) :: .int (w3 x) :: rest)) :=
  lv_icmp_gt C.1.1 C.1.2.1 hdg ht (fun h => kt ((w3_lt ry rx).mp h)) (fun h => kf (by first | exact fun q => h ((w3_lt ry rx).mpr q) | exact (w3_lt ry rx).mp h))
theorem hq_if_gt {x : Int} (C : hq_C cl p m c cc nL s args Ts own meth ret D cA A Z) (rx : rg x) {off : Int} {tgt : Nat} (hdg : decode cc pc = .ok (.ifCond .gt off, 3)) (ht : (pc : Int) + off = (tgt : Int)) (kt : 0 < x → W p l e R s m args below meth c H locs cells slots Q (F0 m tgt ls rest)) (kf : ¬ 0 < x → W p l e R s m args below meth c H locs cells slots Q (F0 m (pc + 3) ls rest)) : W p l e R s m args below meth c H locs cells slots Q (F0 m pc ls (.int (w3 x) :: rest)) :=
  lv_if_gt C.1.1 C.1.2.1 hdg ht (fun h => kt ((w3_lt (by decide : rg 0) rx).mp h)) (fun h => kf (fun q => h ((w3_lt (by decide : rg 0) rx).mpr q)))
theorem hq_icmp_le {x y : Int} (C : hq_C cl p m c cc nL s args Ts own meth ret D cA A Z) (rx : rg x) (ry : rg y) {off : Int} {tgt : Nat} (hdg : decode cc pc = .ok (.if_icmp .le off, 3)) (ht : (pc : Int) + off = (tgt : Int)) (kt : x ≤ y → W p l e R s m args below meth c H locs cells slots Q (F0 m tgt ls rest)) (kf : ¬ x ≤ y → W p l e R s m args below meth c H locs cells slots Q (F0 m (pc + 3) ls rest)) : W p l e R s m args below meth c H locs cells slots Q (F0 m pc ls (.int (w3 y) :: .int (w3 x) :: rest)) :=
  lv_icmp_le C.1.1 C.1.2.1 hdg ht (fun h => kt ((w3_le rx ry).mp h)) (fun h => kf (by first | exact fun q => h ((w3_le rx ry).mpr q) | exact (w3_le rx ry).mp h))
theorem hq_if_le {x : Int} (C : hq_C cl p m c cc nL s args Ts own meth ret D cA A Z) (rx : rg x) {off : Int} {tgt : Nat} (hdg : decode cc pc = .ok (.ifCond .le off, 3)) (ht : (pc : Int) + off = (tgt : Int)) (kt : x ≤ 0 → W p l e R s m args below meth c H locs cells slots Q (F0 m tgt ls rest)) (kf : ¬ x ≤ 0 → W p l e R s m args below meth c H locs cells slots Q (F0 m (pc + 3) ls rest)) : W p l e R s m args below meth c H locs cells slots Q (F0 m pc ls (.int (w3 x) :: rest)) :=
  lv_if_le C.1.1 C.1.2.1 hdg ht (fun h => kt ((w3_le rx (by decide : rg 0)).mp h)) (fun h => kf (fun q => h ((w3_le rx (by decide : rg 0)).mpr q)))
theorem hq_cmp {x y : Int} (rx : rl x) (ry : rl y) : lg_cmp (w6 x) (w6 y) = w3 (if y < x then 1 else if x = y then 0 else -1) := by
  unfold lg_cmp
  simp only [gt_iff_lt, w6_lt ry rx, w6_eq rx ry]
  split
  · rfl
  · split <;> rfl
theorem hq_lcmp_eq {x y : Int} (C : hq_C cl p m c cc nL s args Ts own meth ret D cA A Z) (rx : rl x) (ry : rl y) {off : Int} {tgt : Nat} (hd0 : decode cc pc = .ok (.lcmp, 1)) (hdg : decode cc (pc + 1) = .ok (.ifCond .eq off, 3)) (ht : ((pc + 1 : Nat) : Int) + off = (tgt : Int)) (kt : x = y → W p l e R s m args below meth c H locs cells slots Q (F0 m tgt ls rest)) (kf : ¬ x = y → W p l e R s m args below meth c H locs cells slots Q (F0 m (pc + 4) ls rest)) : W p l e R s m args below meth c H locs cells slots Q (F0 m pc ls (.long (w6 y) :: .long (w6 x) :: rest)) := by
  refine W.lcmp C.1.1 C.1.2.1 hd0 ?_
  rw [hq_cmp rx ry]
  refine hq_if_eq C (by split <;> (try split) <;> decide) hdg ht (fun h => kt ?_) (fun h => kf ?_) <;> (split at h <;> (try split at h) <;> omega)
theorem hq_lcmp_ne {x y : Int} (C : hq_C cl p m c cc nL s args Ts own meth ret D cA A Z) (rx : rl x) (ry : rl y) {off : Int} {tgt : Nat} (hd0 : decode cc pc = .ok (.lcmp, 1)) (hdg : decode cc (pc + 1) = .ok (.ifCond .ne off, 3)) (ht : ((pc + 1 : Nat) : Int) + off = (tgt : Int)) (kt : ¬ x = y → W p l e R s m args below meth c H locs cells slots Q (F0 m tgt ls rest)) (kf : x = y → W p l e R s m args below meth c H locs cells slots Q (F0 m (pc + 4) ls rest)) : W p l e R s m args below meth c H locs cells slots Q (F0 m pc ls (.long (w6 y) :: .long (w6 x) :: rest)) := by
  refine W.lcmp C.1.1 C.1.2.1 hd0 ?_
  rw [hq_cmp rx ry]
  refine hq_if_ne C (by split <;> (try split) <;> decide) hdg ht (fun h => kt ?_) (fun h => kf ?_) <;> (split at h <;> (try split at h) <;> omega)
theorem hq_lcmp_lt {x y : Int} (C : hq_C cl p m c cc nL s args Ts own meth ret D cA A Z) (rx : rl x) (ry : rl y) {off : Int} {tgt : Nat} (hd0 : decode cc pc = .ok (.lcmp, 1)) (hdg : decode cc (pc + 1) = .ok (.ifCond .lt off, 3)) (ht : ((pc + 1 : Nat) : Int) + off = (tgt : Int)) (kt : x < y → W p l e R s m args below meth c H locs cells slots Q (F0 m tgt ls rest)) (kf : ¬ x < y → W p l e R s m args below meth c H locs cells slots Q (F0 m (pc + 4) ls rest)) : W p l e R s m args below meth c H locs cells slots Q (F0 m pc ls (.long (w6 y) :: .long (w6 x) :: rest)) := by
  refine W.lcmp C.1.1 C.1.2.1 hd0 ?_
  rw [hq_cmp rx ry]
  refine hq_if_lt C (by split <;> (try split) <;> decide) hdg ht (fun h => kt ?_) (fun h => kf ?_) <;> (split at h <;> (try split at h) <;> omega)
theorem hq_lcmp_ge {x y : Int} (C : hq_C cl p m c cc nL s args Ts own meth ret D cA A Z) (rx : rl x) (ry : rl y) {off : Int} {tgt : Nat} (hd0 : decode cc pc = .ok (.lcmp, 1)) (hdg : decode cc (pc + 1) = .ok (.ifCond .ge off, 3)) (ht : ((pc + 1 : Nat) : Int) + off = (tgt : Int)) (kt : y ≤ x → W p l e R s m args below meth c H locs cells slots Q (F0 m tgt ls rest)) (kf : ¬ y ≤ x → W p l e R s m args below meth c H locs cells slots Q (F0 m (pc + 4) ls rest)) : W p l e R s m args below meth c H locs cells slots Q (F0 m pc ls (.long (w6 y) :: .long (w6 x) :: rest)) := by
  refine W.lcmp C.1.1 C.1.2.1 hd0 ?_
  rw [hq_cmp rx ry]
  refine hq_if_ge C (by split <;> (try split) <;> decide) hdg ht (fun h => kt ?_) (fun h => kf ?_) <;> (split at h <;> (try split at h) <;> omega)
theorem hq_lcmp_gt {x y : Int} (C : hq_C cl p m c cc nL s args Ts own meth ret D cA A Z) (rx : rl x) (ry : rl y) {off : Int} {tgt : Nat} (hd0 : decode cc pc = .ok (.lcmp, 1)) (hdg : decode cc (pc + 1) = .ok (.ifCond .gt off, 3)) (ht : ((pc + 1 : Nat) : Int) + off = (tgt : Int)) (kt : y < x → W p l e R s m args below meth c H locs cells slots Q (F0 m tgt ls rest)) (kf : ¬ y < x → W p l e R s m args below meth c H locs cells slots Q (F0 m (pc + 4) ls rest)) : W p l e R s m args below meth c H locs cells slots Q (F0 m pc ls (.long (w6 y) :: .long (w6 x) :: rest)) := by
  refine W.lcmp C.1.1 C.1.2.1 hd0 ?_
  rw [hq_cmp rx ry]
  refine hq_if_gt C (by split <;> (try split) <;> decide) hdg ht (fun h => kt ?_) (fun h => kf ?_) <;> (split at h <;> (try split at h) <;> omega)
theorem hq_lcmp_le {x y : Int} (C : hq_C cl p m c cc nL s args Ts own meth ret D cA A Z) (rx : rl x) (ry : rl y) {off : Int} {tgt : Nat} (hd0 : decode cc pc = .ok (.lcmp, 1)) (hdg : decode cc (pc + 1) = .ok (.ifCond .le off, 3)) (ht : ((pc + 1 : Nat) : Int) + off = (tgt : Int)) (kt : x ≤ y → W p l e R s m args below meth c H locs cells slots Q (F0 m tgt ls rest)) (kf : ¬ x ≤ y → W p l e R s m args below meth c H locs cells slots Q (F0 m (pc + 4) ls rest)) : W p l e R s m args below meth c H locs cells slots Q (F0 m pc ls (.long (w6 y) :: .long (w6 x) :: rest)) := by
  refine W.lcmp C.1.1 C.1.2.1 hd0 ?_
  rw [hq_cmp rx ry]
  refine hq_if_le C (by split <;> (try split) <;> decide) hdg ht (fun h => kt ?_) (fun h => kf ?_) <;> (split at h <;> (try split at h) <;> omega)
theorem hq_goto {off : Int} {tgt : Nat} (C : hq_C cl p m c cc nL s args Ts own meth ret D cA A Z) (hdg : decode cc pc = .ok (.goto off, 3)) (ht : (pc : Int) + off = (tgt : Int)) (k : W p l e R s m args below meth c H locs cells slots Q (F0 m tgt ls rest)) : W p l e R s m args below meth c H locs cells slots Q (F0 m pc ls rest) := lv_goto C.1.1 C.1.2.1 hdg ht k
theorem hq_iinc {i k : Nat} {n x : Int} {lv : List (Nat × Value)} (C : hq_C cl p m c cc nL s args Ts own meth ret D cA A Z) (hdg : decode cc pc = .ok (.iinc i n, 3)) (h : lv_has ls nL lv) (hk : lv[k]? = some (i, .int (w3 x))) (hn : i < nL) (kk : ∀ y : Int, y = x + n → ∀ ls' : Array Slot, lv_has ls' nL ((i, Value.int (w3 y)) :: lv.filter (fun q => !(q.1 == i) && !(q.1 + 1 == i && q.2.category == 2))) → W p l e R s m args below meth c H locs cells slots Q (F0 m (pc + 3) ls' rest)) : W p l e R s m args below meth c H locs cells slots Q (F0 m pc ls rest) :=
  lv_iinc C.1.1 C.1.2.1 hdg h hk (v := w3 (x + n)) (w3_add x n) hn rfl (kk _ rfl)
theorem hq_tabOut {dflt lo hi : Int} {offs : Array Int} {len : Nat} {x : Int} {tgt : Nat} (C : hq_C cl p m c cc nL s args Ts own meth ret D cA A Z) (rx : rg x) (hdg : decode cc pc = .ok (.tableswitch dflt lo hi offs, len)) (h : x < lo ∨ hi < x) (ht : (pc : Int) + dflt = (tgt : Int)) (k : W p l e R s m args below meth c H locs cells slots Q (F0 m tgt ls rest)) : W p l e R s m args below meth c H locs cells slots Q (F0 m pc ls (.int (w3 x) :: rest)) := lv_tableOut C.1.1 C.1.2.1 hdg (by rw [w3_to rx]; exact h) ht k
theorem hq_tabIn {dflt lo hi : Int} {offs : Array Int} {len : Nat} {x : Int} {off : Int} {tgt : Nat} (z : Int) (rz : rg z) (C : hq_C cl p m c cc nL s args Ts own meth ret D cA A Z) (hx : x = z) (hdg : decode cc pc = .ok (.tableswitch dflt lo hi offs, len)) (h1 : ¬ z < lo) (h2 : ¬ hi < z) (ho : offs[(z - lo).toNat]? = some off) (ht : (pc : Int) + off = (tgt : Int)) (k : W p l e R s m args below meth c H locs cells slots Q (F0 m tgt ls rest)) : W p l e R s m args below meth c H locs cells slots Q (F0 m pc ls (.int (w3 x) :: rest)) := by
  subst hx
  exact lv_tableIn C.1.1 C.1.2.1 hdg (by rw [w3_to rz]; exact h1) (by rw [w3_to rz]; exact h2) (by rw [w3_to rz]; exact ho) ht k
theorem hq_mmax {index : Nat} {x y : Int} (C : hq_C cl p m c cc nL s args Ts own meth ret D cA A Z) (hw : Cond.methodLink own index Lib.Math.max.name ∈ Ts ∧ Cond.static Lib.Math.max.name ∈ Ts ∧ Cond.initialized "java/lang/Math" ∈ Ts ∧ Cond.code Lib.Math.max.name Lib.Math.max.code 2 (some .int) ∈ Ts) (hl : ls.size = nL) (hR : 1 ≤ R.frames ∧ (rest.map fun v => v.category).sum + 13 ≤ R.locals ∧ cells ≤ R.cells ∧ slots ≤ R.slots) (rx : rg x) (ry : rg y) (hdg : decode cc pc = .ok (.invokestatic index, 3)) (kk : W p l e R s m args below meth c H locs cells slots Q (F0 m (pc + 3) ls (.int (w3 (max x y)) :: rest))) : W p l e R s m args below meth c H locs cells slots Q (F0 m pc ls (.int (w3 y) :: .int (w3 x) :: rest)) := by
  obtain ⟨⟨hx, hb, hml, hown, hts⟩, -, -, -, -, -⟩ := C
  refine va_mmax hx hb (hml.trans hl.symm) hown (hts _ hw.1) (hts _ hw.2.1) (hts _ hw.2.2.1) (hts _ hw.2.2.2) hR.1 hR.2.1 hR.2.2.1 hR.2.2.2 hdg ?_
  rw [show (if w3 x < w3 y then w3 y else w3 x) = w3 (max x y) from by simp only [w3_lt rx ry]; rw [Int.max_def]; split <;> split <;> first | rfl | (congr 1; omega)]
  exact kk
theorem hq_mmin {index : Nat} {x y : Int} (C : hq_C cl p m c cc nL s args Ts own meth ret D cA A Z) (hw : Cond.methodLink own index Lib.Math.min.name ∈ Ts ∧ Cond.static Lib.Math.min.name ∈ Ts ∧ Cond.initialized "java/lang/Math" ∈ Ts ∧ Cond.code Lib.Math.min.name Lib.Math.min.code 2 (some .int) ∈ Ts) (hl : ls.size = nL) (hR : 1 ≤ R.frames ∧ (rest.map fun v => v.category).sum + 13 ≤ R.locals ∧ cells ≤ R.cells ∧ slots ≤ R.slots) (rx : rg x) (ry : rg y) (hdg : decode cc pc = .ok (.invokestatic index, 3)) (kk : W p l e R s m args below meth c H locs cells slots Q (F0 m (pc + 3) ls (.int (w3 (min x y)) :: rest))) : W p l e R s m args below meth c H locs cells slots Q (F0 m pc ls (.int (w3 y) :: .int (w3 x) :: rest)) := by
  obtain ⟨⟨hx, hb, hml, hown, hts⟩, -, -, -, -, -⟩ := C
  refine va_mmin hx hb (hml.trans hl.symm) hown (hts _ hw.1) (hts _ hw.2.1) (hts _ hw.2.2.1) (hts _ hw.2.2.2) hR.1 hR.2.1 hR.2.2.1 hR.2.2.2 hdg ?_
  rw [show (if w3 y < w3 x then w3 y else w3 x) = w3 (min x y) from by simp only [w3_lt ry rx]; rw [Int.min_def]; split <;> split <;> first | rfl | (congr 1; omega)]
  exact kk
/-! calls -/
theorem hq_go {Q' : Option Value → hq_M → Prop} {a : Array Value} {st0 : List Value} (hr : va_Run p l e R s m args below meth c H locs cells slots 0 0 (F0 m pc ls st0) rest (hq_Q cl SL D cA Y B Q' a) (hq_in B Y.length)) (hs : hq_S cl SL D cA Y B s.heap M H locs)
    (kk : ∀ (v : Option Value) (M1 : hq_M) (H1 : Heap) (locs1 : List Loc), Q' v M1 → hq_S cl SL D cA Y B s.heap M1 H1 locs1 → W p l e R s m args below meth c H1 locs1 cells slots Q (F0 m (pc + 3) ls (v.toList ++ rest))) : W p l e R s m args below meth c H locs cells slots Q (F0 m pc ls st0) := by
  intro T hT X
  obtain ⟨v, st₀, t, T', L, h0, X', hL, e1, e2, ⟨⟨v', M1, hv, hq, hP, hV⟩, hz, hk⟩, st⟩ := hr T hT X
  cases hv
  rw [h0] at hz hk
  obtain ⟨t2, a1, b1⟩ := kk v M1 T'.heap (locs ++ L) hq ⟨by rw [e1]; exact hP, ⟨Nat.le_trans hs.2.1.1 (by rw [e1]; exact hz), fun q h1 h2 => by rw [e1, hk q (Nat.lt_of_lt_of_le h1 hs.2.1.1) h2]; exact hs.2.1.2.1 q h1 h2, fun q hq => by
      rcases List.mem_append.mp hq with h | h
      · exact hs.2.1.2.2 q h
      · exact hL q h⟩, hV⟩ T' rfl X'
  exact ⟨t2, st t2 a1, b1⟩
theorem hq_pre {Zs : State → Prop} {av : List Value} (hK : va_K D cl (hq_ty cA) s) (hZ : hq_Zo Zs (hq_in B Y.length)) (hZs : Zs s) (hs : hq_S cl SL D cA Y B s.heap M H locs) : ∀ U : State, U.heap = H → s.WarmedH U.vm → hq_Pc cl SL D cA Y B Zs av M av.toArray U := fun U hU hW =>
  ⟨rfl, by rw [hU]; exact hs.1, va_K.moved hW.alike hK, hs.2.2, hZ.2 s U hW (fun q h1 h2 => by rw [hU]; exact hs.2.1.2.1 q h1 h2) hZs⟩
theorem hq_cV {Q' : Option Value → hq_M → Prop} {y : MethodName} {bytes : ByteArray} {maxL index n ci : Nat} {rt : Option FieldType} {ws ws' : List Cond} {rm : Room} {Cn : String} {o : Nat} {As st0 : List Value} {qc : u_T × Nat} (C : hq_C cl p m c cc nL s args Ts own meth ret D cA (hq_in B Y.length) Z) (hs : hq_S cl SL D cA Y B s.heap M H locs) (hM : hq_T cl SL l y ws rm D cA Y B Z (.ref (B + o) :: As) M Q') (g : GoodIn Ts (wsV own index Cn y ws)) (hw : ws = Cond.code y bytes maxL rt :: ws') (hrc : rm.cells = 0 ∧ rm.slots = 0) (hd : y.cls = Cn ∧ y.cls ≠ "java/lang/invoke/MethodHandle" ∧ y.cls ≠ "java/lang/invoke/VarHandle" ∧ (parseMethodDescriptor y.desc).map (fun d => d.parameters.length) = some n) (hR : rm.frames + 1 ≤ R.frames ∧ 8 + (maxL + 11) + rm.locals ≤ R.locals) (ho : Y[o]? = some (ci, 0)) (hci : ci < 13) (hc : cl[ci]? = some (Cn, qc.1, qc.2)) (hn : As.length = n) (hl : ls.size = nL) (hst : st0 = As.reverse ++ .ref (B + o) :: rest) (hrest : (rest.map fun v => v.category).sum ≤ 8) (hdg : decode cc pc = .ok (.invokevirtual index, 3))
    (kk : ∀ (v : Option Value) (M1 : hq_M) (H1 : Heap) (locs1 : List Loc), Q' v M1 → hq_S cl SL D cA Y B s.heap M1 H1 locs1 → W p l e R s m args below meth c H1 locs1 0 0 Q (F0 m (pc + 3) ls (v.toList ++ rest))) : W p l e R s m args below meth c H locs 0 0 Q (F0 m pc ls st0) := by
  have hat : (hq_ws SL cA Y B M)[o]? = some (B + o, .inr (ci, (SL ci).zipIdx.map (fun t => hq_val B M o t.2 t.1))) := by rw [hq_ws_at SL cA B M ho, hq_cel_o hci]
  exact hq_go (va_runV (As := As) (rest := rest) C.1 hM (cwV n C.1.2.2.2.2 g hw hrc.1 hrc.2 hd hR) ⟨hq_blind C.2.2.2.2.1, va_recv C.2.2.2.1 hs.1 hc hat, hq_pre C.2.2.2.1 C.2.2.2.2.1 C.2.2.2.2.2 hs⟩ rfl hn hl hst (lv_room hrest) hdg ⟨Nat.zero_le _, Nat.zero_le _⟩) hs kk
theorem hq_cS {Q' : Option Value → hq_M → Prop} {y : MethodName} {bytes : ByteArray} {maxL index n : Nat} {rt : Option FieldType} {ws ws' : List Cond} {rm : Room} {As st0 : List Value} (C : hq_C cl p m c cc nL s args Ts own meth ret D cA (hq_in B Y.length) Z) (hs : hq_S cl SL D cA Y B s.heap M H locs) (hM : hq_T cl SL l y ws rm D cA Y B Z As M Q') (g : GoodIn Ts (va_wsS own index y ws)) (hw : ws = Cond.code y bytes maxL rt :: ws') (hrc : rm.cells = 0 ∧ rm.slots = 0) (hd : y.cls ≠ "java/lang/invoke/MethodHandle" ∧ y.cls ≠ "java/lang/invoke/VarHandle" ∧ (parseMethodDescriptor y.desc).map (fun d => d.parameters.length) = some n) (hR : rm.frames + 1 ≤ R.frames ∧ 8 + (maxL + 11) + rm.locals ≤ R.locals) (hn : As.length = n) (hl : ls.size = nL) (hst : st0 = As.reverse ++ rest) (hrest : (rest.map fun v => v.category).sum ≤ 8) (hdg : decode cc pc = .ok (.invokestatic index, 3))
    (kk : ∀ (v : Option Value) (M1 : hq_M) (H1 : Heap) (locs1 : List Loc), Q' v M1 → hq_S cl SL D cA Y B s.heap M1 H1 locs1 → W p l e R s m args below meth c H1 locs1 0 0 Q (F0 m (pc + 3) ls (v.toList ++ rest))) : W p l e R s m args below meth c H locs 0 0 Q (F0 m pc ls st0) :=
  hq_go (va_runS (As := As) (rest := rest) C.1 hM (va_cwS n C.1.2.2.2.2 g hw hrc.1 hrc.2 hd hR) ⟨hq_blind C.2.2.2.2.1, hq_pre C.2.2.2.1 C.2.2.2.2.1 C.2.2.2.2.2 hs⟩ rfl hn hl hst (lv_room hrest) hdg ⟨Nat.zero_le _, Nat.zero_le _⟩) hs kk
/-! what comes back -/
theorem hq_ki {k : Int → hq_M → Prop} (kk : ∀ (z : Int) (M1 : hq_M) (H1 : Heap) (locs1 : List Loc), rg z → k z M1 → hq_S cl SL D cA Y B s.heap M1 H1 locs1 → W p l e R s m args below meth c H1 locs1 cells slots Q (F0 m pc ls (.int (w3 z) :: rest))) : ∀ (v : Option Value) (M1 : hq_M) (H1 : Heap) (locs1 : List Loc), hq_qi k v M1 → hq_S cl SL D cA Y B s.heap M1 H1 locs1 → W p l e R s m args below meth c H1 locs1 cells slots Q (F0 m pc ls (v.toList ++ rest)) := by
  rintro v M1 H1 locs1 ⟨z, rfl, rz, hk⟩ hs
  exact kk z M1 H1 locs1 rz hk hs
theorem hq_kz {k : Int → hq_M → Prop} (kk : ∀ (z : Int) (M1 : hq_M) (H1 : Heap) (locs1 : List Loc), rb z → k z M1 → hq_S cl SL D cA Y B s.heap M1 H1 locs1 → W p l e R s m args below meth c H1 locs1 cells slots Q (F0 m pc ls (.int (w3 z) :: rest))) : ∀ (v : Option Value) (M1 : hq_M) (H1 : Heap) (locs1 : List Loc), hq_qz k v M1 → hq_S cl SL D cA Y B s.heap M1 H1 locs1 → W p l e R s m args below meth c H1 locs1 cells slots Q (F0 m pc ls (v.toList ++ rest)) := by
  rintro v M1 H1 locs1 ⟨z, rfl, rz, hk⟩ hs
  exact kk z M1 H1 locs1 rz hk hs
theorem hq_kl {k : Int → hq_M → Prop} (kk : ∀ (z : Int) (M1 : hq_M) (H1 : Heap) (locs1 : List Loc), rl z → k z M1 → hq_S cl SL D cA Y B s.heap M1 H1 locs1 → W p l e R s m args below meth c H1 locs1 cells slots Q (F0 m pc ls (.long (w6 z) :: rest))) : ∀ (v : Option Value) (M1 : hq_M) (H1 : Heap) (locs1 : List Loc), hq_ql k v M1 → hq_S cl SL D cA Y B s.heap M1 H1 locs1 → W p l e R s m args below meth c H1 locs1 cells slots Q (F0 m pc ls (v.toList ++ rest)) := by
  rintro v M1 H1 locs1 ⟨z, rfl, rz, hk⟩ hs
  exact kk z M1 H1 locs1 rz hk hs
theorem hq_kv {k : hq_M → Prop} (kk : ∀ (M1 : hq_M) (H1 : Heap) (locs1 : List Loc), k M1 → hq_S cl SL D cA Y B s.heap M1 H1 locs1 → W p l e R s m args below meth c H1 locs1 cells slots Q (F0 m pc ls rest)) : ∀ (v : Option Value) (M1 : hq_M) (H1 : Heap) (locs1 : List Loc), hq_qv k v M1 → hq_S cl SL D cA Y B s.heap M1 H1 locs1 → W p l e R s m args below meth c H1 locs1 cells slots Q (F0 m pc ls (v.toList ++ rest)) := by
  rintro v M1 H1 locs1 ⟨rfl, hk⟩ hs
  exact kk M1 H1 locs1 hk hs
theorem hq_kr {ci : Nat} {k : Option Nat → hq_M → Prop} (kn : ∀ (M1 : hq_M) (H1 : Heap) (locs1 : List Loc), k none M1 → hq_S cl SL D cA Y B s.heap M1 H1 locs1 → W p l e R s m args below meth c H1 locs1 cells slots Q (F0 m pc ls (.null :: rest))) (kk : ∀ (x : Nat) (M1 : hq_M) (H1 : Heap) (locs1 : List Loc), Y[x]? = some (ci, 0) → k (some x) M1 → hq_S cl SL D cA Y B s.heap M1 H1 locs1 → W p l e R s m args below meth c H1 locs1 cells slots Q (F0 m pc ls (.ref (B + x) :: rest))) : ∀ (v : Option Value) (M1 : hq_M) (H1 : Heap) (locs1 : List Loc), hq_qr Y B ci k v M1 → hq_S cl SL D cA Y B s.heap M1 H1 locs1 → W p l e R s m args below meth c H1 locs1 cells slots Q (F0 m pc ls (v.toList ++ rest)) := by
  rintro v M1 H1 locs1 ⟨r, rfl, hr, hk⟩ hs
  rcases r with _ | x
  · exact kn M1 H1 locs1 hk hs
  · exact kk x M1 H1 locs1 (hr x rfl) hk hs
end HQR
