/-! ===== constructors: the two with a loop ===== -/
def yPs : Nat → hq_Y
  | 0 => []
  | i + 1 => yPs i ++ yX2
def yLs : Nat → hq_Y
  | 0 => []
  | i + 1 => yLs i ++ yX0
theorem yPs_len (i : Nat) : (yPs i).length = 5 * i := by
  induction i with
  | zero => rfl
  | succ i ih => rw [yPs, List.length_append, ih]; show 5 * i + 5 = _; omega
theorem yLs_len (i : Nat) : (yLs i).length = 5 * i := by
  induction i with
  | zero => rfl
  | succ i ih => rw [yLs, List.length_append, ih]; show 5 * i + 5 = _; omega
abbrev yX3 (n : Nat) : hq_Y := (3, 0) :: (17, n) :: yPs n
abbrev yX1n (n : Nat) : hq_Y := (1, 0) :: (16, n) :: yLs n
def gRf (B o i : Nat) : Nat → Option Nat := fun j => if j < i then some (B + (o + 1 + 1 + 5 * j)) else none
theorem gRf_up (B o i : Nat) : va_up (gRf B o i) i (some (B + (o + 2 + 5 * i))) = gRf B o (i + 1) := by
  funext j
  unfold va_up gRf
  by_cases h : j = i
  · subst h
    rw [if_pos rfl, if_pos (by omega)]
  · rw [if_neg h]
    by_cases h2 : j < i
    · rw [if_pos h2, if_pos (by omega)]
    · rw [if_neg h2, if_neg (by omega)]
theorem gRf_zero (B o : Nat) : gRf B o 0 = fun _ => none := by
  funext j
  unfold gRf
  rw [if_neg (by omega)]
theorem iX3_init_3 : ∀ w ∈ u_ws RX3 TX3 2, w ∈ wsX3_init := fun w h => List.mem_cons_of_mem _ (List.mem_append_left _ (List.mem_append_left _ (List.mem_append_right _ h)))
theorem iX3_init_2 : ∀ w ∈ u_ws RX2 TX2 2, w ∈ wsX3_init := fun w h => List.mem_cons_of_mem _ (List.mem_append_left _ (List.mem_append_right _ h))
theorem iX1_init_1 : ∀ w ∈ u_ws RX1 TX1 2, w ∈ wsX1_init := fun w h => List.mem_cons_of_mem _ (List.mem_append_left _ (List.mem_append_left _ (List.mem_append_right _ h)))
theorem iX1_init_0 : ∀ w ∈ u_ws RX0 TX0 8, w ∈ wsX1_init := fun w h => List.mem_cons_of_mem _ (List.mem_append_left _ (List.mem_append_right _ h))
theorem oX3 (k : Nat) (hk : k < 2) : ∀ Cn T N, vwCl[3]? = some (Cn, T, N) → (T k).1 = RX3 := fun Cn T N e => by
  have e1 : some (RX3, TX3, 2) = some (Cn, T, N) := e
  cases e1
  exact (by decide +kernel : ∀ k, k < 2 → (TX3 k).1 = RX3) k hk
theorem oX1 (k : Nat) (hk : k < 2) : ∀ Cn T N, vwCl[1]? = some (Cn, T, N) → (T k).1 = RX1 := fun Cn T N e => by
  have e1 : some (RX1, TX1, 2) = some (Cn, T, N) := e
  cases e1
  exact (by decide +kernel : ∀ k, k < 2 → (TX1 k).1 = RX1) k hk
set_option maxRecDepth 20000 in
theorem fX3_init_17 : hq_fl vwCl wsX3_init RX3 17 3 0 true (.array (.object "HeadTables$Pair")) := ⟨RX3, TX3, 2, tyX3, rfl, by decide, iX3_init_3, by decide +kernel, rfl, tyX3_ok 0 (by decide), tyX3_ok, nmX3⟩
set_option maxRecDepth 20000 in
theorem fX1_init_11 : hq_fl vwCl wsX1_init RX1 11 1 0 true (.array (.object "HeadTables$Letter")) := ⟨RX1, TX1, 2, tyX1, rfl, by decide, iX1_init_1, by decide +kernel, rfl, tyX1_ok 0 (by decide), tyX1_ok, nmX1⟩
set_option maxHeartbeats 4000000 in
set_option maxRecDepth 100000 in
theorem k_X3 (l : Launch) {D : va_G} {cA : Nat → ClassId} {B : Nat} (M : hq_M) (o n : Nat) (z : Int) (hz : z = (n : Int)) (hn : n ≤ 5000) (hM : ∀ q j, o ≤ q → q < o + (2 + 5 * n) → M q j = 0) : k_T l yX3_init wsX3_init ({ frames := 3, cells := 1 + 5 * n, slots := n + 18 * n, locals := 110 } : Room) D cA B M o 3 [.null, .int (w3 0)] [.ref (B + o), .int (w3 z)] (yX3 n) (1 + 5 * n) (n + 18 * n) := by
  refine k_meth (cc := cX3_init) (maxL := 3) (own := RX3) rfl (by decide +kernel) rfl rfl (Nat.le_of_ble_eq_true rfl) ?_
  intro p e s m below meth c ls C hi h hl
  have hx := C.1.1
  have hb := C.1.2.1
  have hrz : rg z := ⟨by omega, by omega⟩
  have hl : lv_has ls 3 [(0, .ref (B + o)), (1, .int (w3 z))] := hl
  refine lv_aload_n hx hb dX3_init_0 rfl (lv_at hl 0 rfl) ?_
  refine k_obj C ⟨List.mem_of_getElem? (i := 1) rfl, List.mem_of_getElem? (i := 2) rfl, List.mem_of_getElem? (i := 3) rfl⟩ hl.1 dX3_init_1 ⟨Nat.le_of_ble_eq_true rfl, Nat.le_of_ble_eq_true rfl⟩ ?_
  refine lv_aload_n hx hb dX3_init_4 rfl (lv_at hl 0 rfl) ?_
  refine hq_iconst C dX3_init_5 ?_
  refine lv_iload_n hx hb dX3_init_6 rfl (lv_at hl 1 rfl) ?_
  refine hq_mmax C ⟨by decide +kernel, by decide +kernel, by decide +kernel, List.mem_of_getElem? (i := 7) rfl⟩ hl.1 ⟨Nat.le_of_ble_eq_true rfl, Nat.le_of_ble_eq_true rfl, Nat.zero_le _, Nat.zero_le _⟩ (by decide) hrz dX3_init_7 ?_
  rw [show max 0 z = z from by omega]
  refine k_anew (n := n) (ci2 := 0) 4 C h C.2.2.2.2.2.2.1 rfl (by decide +kernel) hz hn (by show 0 + 1 ≤ 1 + 5 * n; omega) (by show 0 + n ≤ n + 18 * n; omega) dX3_init_10 (fun H h => ?_)
  refine k_put (q0 := 0) (v := .ref (B + (o + 1))) C hi h fX3_init_17 (oX3 0 (by decide)) rfl rfl rfl (Nat.le_of_ble_eq_true rfl) dX3_init_13 (fun H locs h _ => ?_)
  refine hq_iconst C dX3_init_16 ?_
  refine lv_istore_n (lv' := [(2, .int (w3 0)), (0, .ref (B + o)), (1, .int (w3 z))]) hx hb dX3_init_17 rfl hl (by decide) rfl (fun ls hl => ?_)
  have key : ∀ (d i : Nat) (x : Int) (ls : Array Slot) (H : Heap) (locs : List Loc), x = (i : Int) → i + d = n → lv_has ls 3 [(2, .int (w3 x)), (0, .ref (B + o)), (1, .int (w3 z))] → k_S D cA B M [(B + o, .inr (3, [.ref (B + (o + 1)), .int (w3 0)])), (B + (o + 1), .inl (cA 4, n, .inr (.inr (.inr (.inr (gRf B o i))))))] o (o + 2) (yPs i) s.heap H locs →
      W p l e ({ frames := 3, cells := 1 + 5 * n, slots := n + 18 * n, locals := 110 } : Room) s m [Value.ref (B + o), Value.int (w3 z)].toArray below meth c H locs (1 + 5 * i) (n + 18 * i) (MQ below (k_Q D cA B M o (yX3 n)) [Value.ref (B + o), Value.int (w3 z)].toArray s (1 + 5 * n) (n + 18 * n) (fun q => B + o ≤ q)) (F0 m 18 ls []) := by
    intro d
    induction d with
    | zero =>
      intro i x ls H locs hxi hd hl h
      have hi2 : i = n := by omega
      subst hi2
      refine lv_iload_n hx hb dX3_init_18 rfl (lv_at hl 0 rfl) ?_
      refine lv_aload_n hx hb dX3_init_19 rfl (lv_at hl 1 rfl) ?_
      refine k_get (q0 := 0) (v := .ref (B + (o + 1))) C h fX3_init_17 rfl rfl dX3_init_20 ?_
      refine va_alen hx hb C.2.2.2.1 h.1 1 4 (cA := cA 4) (x := (i, .inr (.inr (.inr (.inr (gRf B o i)))))) rfl rfl rfl dX3_init_23 ?_
      refine hq_icmp_ge (x := x) (y := (i : Int)) C (by constructor <;> omega) (by constructor <;> omega) dX3_init_24 rfl (fun _ => ?_) (fun hf => absurd (by omega) hf)
      have h2 := k_arrcg (q0 := 1) (g := fun j => some (B + (o + 1 + 1 + 5 * j))) h rfl (fun j hj => by unfold gRf; rw [if_pos hj])
      refine k_ret C h2 ?_ ?_ ⟨by omega, by omega⟩ dX3_init_46
      · show (B + o, _) :: (B + (o + 1), _) :: _ = (B + o, hq_cel SLx cA B M o (3, 0)) :: (B + (o + 1), hq_cel SLx cA B M (o + 1) (17, i)) :: _
        rw [show hq_cel SLx cA B M o (3, 0) = .inr (3, [.ref (B + (o + 1)), .int (w3 (M o 1))]) from rfl, hM o 1 (by omega) (by omega)]
        rfl
      · simp only [List.length_cons]; omega
    | succ d ih =>
      intro i x ls H locs hxi hd hl h
      refine lv_iload_n hx hb dX3_init_18 rfl (lv_at hl 0 rfl) ?_
      refine lv_aload_n hx hb dX3_init_19 rfl (lv_at hl 1 rfl) ?_
      refine k_get (q0 := 0) (v := .ref (B + (o + 1))) C h fX3_init_17 rfl rfl dX3_init_20 ?_
      refine va_alen hx hb C.2.2.2.1 h.1 1 4 (cA := cA 4) (x := (n, .inr (.inr (.inr (.inr (gRf B o i)))))) rfl rfl rfl dX3_init_23 ?_
      refine hq_icmp_ge (x := x) (y := (n : Int)) C (by constructor <;> omega) (by constructor <;> omega) dX3_init_24 rfl (fun hf => absurd hf (by omega)) (fun _ => ?_)
      refine lv_aload_n hx hb dX3_init_27 rfl (lv_at hl 1 rfl) ?_
      refine k_get (q0 := 0) (v := .ref (B + (o + 1))) C h fX3_init_17 rfl rfl dX3_init_28 ?_
      refine lv_iload_n hx hb dX3_init_31 rfl (lv_at hl 0 rfl) ?_
      have hlen : o + 2 + (yPs i).length = o + 2 + 5 * i := by rw [yPs_len]
      refine k_new (x := o + 2 + 5 * i) (ci := 2) (fs := [.null, .null]) tyX2 C h rfl iX3_init_2 tyX2_ok ⟨by decide +kernel, by decide +kernel, by decide +kernel⟩ bX2 (by show 1 + 5 * i + 1 ≤ 1 + 5 * n; omega) (by show n + 18 * i + 2 ≤ n + 18 * n; omega) hlen dX3_init_32 (fun H h => ?_)
      refine lv_dup hx hb dX3_init_35 rfl ?_
      refine k_cN (n := 0) (rest := [.ref (B + (o + 2 + 5 * i)), .int (w3 x), .ref (B + (o + 1))]) C h hlen (k_X2 l M (o + 2 + 5 * i) (fun q j h1 h2 => hM q j (by omega) (by omega))) gX3_init_X2_init_n23 rfl ⟨rfl, rfl⟩ C.2.2.2.2.2.2.2.2.1 ⟨by decide +kernel, by decide +kernel⟩ rfl ⟨by decide, by decide, by decide +kernel⟩ ⟨Nat.le_of_ble_eq_true rfl, Nat.le_of_ble_eq_true rfl⟩ rfl hl.1 rfl (Nat.le_of_ble_eq_true rfl) dX3_init_36 ⟨by show 1 + 5 * i + 1 + 4 ≤ 1 + 5 * n; omega, by show n + 18 * i + 2 + 16 ≤ n + 18 * n; omega⟩ (fun H locs h => ?_)
      have hmid := k_sg_mid (cA := cA) (B := B) (M := M) (2, 0) [(6, 0), (13, 6), (6, 0), (13, 6)] (yPs i) (o + 2)
      rw [hlen] at hmid
      refine k_ast (q0 := 1) (n := n) (x := o + 2 + 5 * i) (ci := 2) (qk := 2 + (yPs i).length) (f := gRf B o i) (vs := [.ref (B + (o + 2 + 5 * i + 1)), .ref (B + (o + 2 + 5 * i + 3))]) 4 C h rfl rfl ?_ rfl rfl (by constructor <;> omega) ⟨by omega, by omega⟩ dX3_init_39 (fun H locs h => ?_)
      · rw [List.getElem?_append_right (by simp)]
        rw [show 2 + (yPs i).length - [(B + o, (.inr (3, [.ref (B + (o + 1)), .int (w3 0)]) : va_E)), (B + (o + 1), .inl (cA 4, n, .inr (.inr (.inr (.inr (gRf B o i))))))].length = (yPs i).length by simp]
        exact hmid
      have hxn : x.toNat = i := by omega
      rw [hxn, gRf_up] at h
      refine hq_iinc C dX3_init_40 hl (k := 0) rfl (by decide) (fun y ey ls hl => ?_)
      refine hq_goto C dX3_init_43 rfl ?_
      have hgo := ih (i + 1) y ls H locs (by omega) (by omega) hl h
      rw [show 1 + 5 * i + 1 + 4 = 1 + 5 * (i + 1) by omega, show n + 18 * i + 2 + 16 = n + 18 * (i + 1) by omega]
      exact hgo
  exact W.widen (k := 1 + 5 * 0) (n := n + 18 * 0) (by omega) (by omega) (key n 0 0 ls H locs rfl (by omega) hl (by rw [gRf_zero]; exact h))
set_option maxHeartbeats 4000000 in
set_option maxRecDepth 100000 in
theorem k_X1 (l : Launch) {D : va_G} {cA : Nat → ClassId} {B : Nat} (M : hq_M) (o n : Nat) (hn : n = 40) (hk : ∀ k : Nat, k < 40 → M (o + 2 + 5 * k) 0 = (k : Int)) (hM : ∀ q j, o ≤ q → q < o + 202 → ¬ (j = 0 ∧ o + 2 ≤ q ∧ (q - (o + 2)) % 5 = 0) → M q j = 0) : k_T l yX1_init wsX1_init ({ frames := 3, cells := 201, slots := 4600, locals := 110 } : Room) D cA B M o 1 [.null, .int (w3 0)] [.ref (B + o)] (yX1n n) 201 4600 := by
  refine k_meth (cc := cX1_init) (maxL := 2) (own := RX1) rfl (by decide +kernel) rfl rfl (Nat.le_of_ble_eq_true rfl) ?_
  intro p e s m below meth c ls C hi h hl
  have hx := C.1.1
  have hb := C.1.2.1
  have hl : lv_has ls 2 [(0, .ref (B + o))] := hl
  refine lv_aload_n hx hb dX1_init_0 rfl (lv_at hl 0 rfl) ?_
  refine k_obj C ⟨List.mem_of_getElem? (i := 1) rfl, List.mem_of_getElem? (i := 2) rfl, List.mem_of_getElem? (i := 3) rfl⟩ hl.1 dX1_init_1 ⟨Nat.le_of_ble_eq_true rfl, Nat.le_of_ble_eq_true rfl⟩ ?_
  refine lv_aload_n hx hb dX1_init_4 rfl (lv_at hl 0 rfl) ?_
  refine hq_bipush C dX1_init_5 (by decide) ?_
  refine k_anew (n := n) (ci2 := 0) 3 C h C.2.2.2.2.2.1 rfl (by decide +kernel) (by omega) (by omega) (Nat.le_of_ble_eq_true rfl) (by show 0 + n ≤ 4600; omega) dX1_init_7 (fun H h => ?_)
  refine k_put (q0 := 0) (v := .ref (B + (o + 1))) C hi h fX1_init_11 (oX1 0 (by decide)) rfl rfl rfl (Nat.le_of_ble_eq_true rfl) dX1_init_10 (fun H locs h _ => ?_)
  refine hq_iconst C dX1_init_13 ?_
  refine lv_istore_n (lv' := [(1, .int (w3 0)), (0, .ref (B + o))]) hx hb dX1_init_14 rfl hl (by decide) rfl (fun ls hl => ?_)
  have key : ∀ (d i : Nat) (x : Int) (ls : Array Slot) (H : Heap) (locs : List Loc), x = (i : Int) → i + d = n → lv_has ls 2 [(1, .int (w3 x)), (0, .ref (B + o))] → k_S D cA B M [(B + o, .inr (1, [.ref (B + (o + 1)), .int (w3 0)])), (B + (o + 1), .inl (cA 3, n, .inr (.inr (.inr (.inr (gRf B o i))))))] o (o + 2) (yLs i) s.heap H locs →
      W p l e ({ frames := 3, cells := 201, slots := 4600, locals := 110 } : Room) s m [Value.ref (B + o)].toArray below meth c H locs (1 + 5 * i) (40 + 114 * i) (MQ below (k_Q D cA B M o (yX1n n)) [Value.ref (B + o)].toArray s 201 4600 (fun q => B + o ≤ q)) (F0 m 15 ls []) := by
    intro d
    induction d with
    | zero =>
      intro i x ls H locs hxi hd hl h
      have hi2 : i = n := by omega
      subst hi2
      refine lv_iload_n hx hb dX1_init_15 rfl (lv_at hl 0 rfl) ?_
      refine lv_aload_n hx hb dX1_init_16 rfl (lv_at hl 1 rfl) ?_
      refine k_get (q0 := 0) (v := .ref (B + (o + 1))) C h fX1_init_11 rfl rfl dX1_init_17 ?_
      refine va_alen hx hb C.2.2.2.1 h.1 1 3 (cA := cA 3) (x := (i, .inr (.inr (.inr (.inr (gRf B o i)))))) rfl rfl rfl dX1_init_20 ?_
      refine hq_icmp_ge (x := x) (y := (i : Int)) C (by constructor <;> omega) (by constructor <;> omega) dX1_init_21 rfl (fun _ => ?_) (fun hf => absurd (by omega) hf)
      have h2 := k_arrcg (q0 := 1) (g := fun j => some (B + (o + 1 + 1 + 5 * j))) h rfl (fun j hj => by unfold gRf; rw [if_pos hj])
      refine k_ret C h2 ?_ ?_ ⟨by omega, by omega⟩ dX1_init_44
      · show (B + o, _) :: (B + (o + 1), _) :: _ = (B + o, hq_cel SLx cA B M o (1, 0)) :: (B + (o + 1), hq_cel SLx cA B M (o + 1) (16, i)) :: _
        rw [show hq_cel SLx cA B M o (1, 0) = .inr (1, [.ref (B + (o + 1)), .int (w3 (M o 1))]) from rfl, hM o 1 (by omega) (by omega) (by omega)]
        rfl
      · simp only [List.length_cons]; omega
    | succ d ih =>
      intro i x ls H locs hxi hd hl h
      refine lv_iload_n hx hb dX1_init_15 rfl (lv_at hl 0 rfl) ?_
      refine lv_aload_n hx hb dX1_init_16 rfl (lv_at hl 1 rfl) ?_
      refine k_get (q0 := 0) (v := .ref (B + (o + 1))) C h fX1_init_11 rfl rfl dX1_init_17 ?_
      refine va_alen hx hb C.2.2.2.1 h.1 1 3 (cA := cA 3) (x := (n, .inr (.inr (.inr (.inr (gRf B o i)))))) rfl rfl rfl dX1_init_20 ?_
      refine hq_icmp_ge (x := x) (y := (n : Int)) C (by constructor <;> omega) (by constructor <;> omega) dX1_init_21 rfl (fun hf => absurd hf (by omega)) (fun _ => ?_)
      refine lv_aload_n hx hb dX1_init_24 rfl (lv_at hl 1 rfl) ?_
      refine k_get (q0 := 0) (v := .ref (B + (o + 1))) C h fX1_init_11 rfl rfl dX1_init_25 ?_
      refine lv_iload_n hx hb dX1_init_28 rfl (lv_at hl 0 rfl) ?_
      have hlen : o + 2 + (yLs i).length = o + 2 + 5 * i := by rw [yLs_len]
      refine k_new (x := o + 2 + 5 * i) (ci := 0) (fs := [.int (w3 0), .null, .null, .int (w3 0), .int (w3 0), .int (w3 0), .int (w3 0), .int (w3 0)]) tyX0 C h rfl iX1_init_0 tyX0_ok ⟨by decide +kernel, by decide +kernel, by decide +kernel⟩ bX0 (by show 1 + 5 * i + 1 ≤ 201; omega) (by show 40 + 114 * i + 8 ≤ 4600; omega) hlen dX1_init_29 (fun H h => ?_)
      refine lv_dup hx hb dX1_init_32 rfl ?_
      refine lv_iload_n hx hb dX1_init_33 rfl (lv_at hl 0 rfl) ?_
      refine k_cI (n := 1) (rest := [.ref (B + (o + 2 + 5 * i)), .int (w3 x), .ref (B + (o + 1))]) C h hlen (k_X0 l M (o + 2 + 5 * i) x (by rw [hk i (by omega)]; omega) (fun q j h1 h2 h3 => hM q j (by omega) (by omega) (by omega))) gX1_init_X0_init rfl ⟨rfl, rfl⟩ ⟨by decide +kernel, by decide +kernel, by decide +kernel⟩ rfl ⟨by decide, by decide, by decide +kernel⟩ ⟨Nat.le_of_ble_eq_true rfl, Nat.le_of_ble_eq_true rfl⟩ rfl hl.1 rfl (Nat.le_of_ble_eq_true rfl) dX1_init_34 ⟨by show 1 + 5 * i + 1 + 4 ≤ 201; omega, by show 40 + 114 * i + 8 + 106 ≤ 4600; omega⟩ (fun H locs h => ?_)
      have hmid := k_sg_mid (cA := cA) (B := B) (M := M) (0, 0) [(6, 0), (13, 6), (6, 0), (13, 96)] (yLs i) (o + 2)
      rw [hlen] at hmid
      refine k_ast (q0 := 1) (n := n) (x := o + 2 + 5 * i) (ci := 0) (qk := 2 + (yLs i).length) (f := gRf B o i) (vs := (SLx 0).zipIdx.map (fun t => hq_val B M (o + 2 + 5 * i) t.2 t.1)) 3 C h rfl rfl ?_ rfl rfl (by constructor <;> omega) ⟨by omega, by omega⟩ dX1_init_37 (fun H locs h => ?_)
      · rw [List.getElem?_append_right (by simp)]
        rw [show 2 + (yLs i).length - [(B + o, (.inr (1, [.ref (B + (o + 1)), .int (w3 0)]) : va_E)), (B + (o + 1), .inl (cA 3, n, .inr (.inr (.inr (.inr (gRf B o i))))))].length = (yLs i).length by simp]
        exact hmid
      have hxn : x.toNat = i := by omega
      rw [hxn, gRf_up] at h
      refine hq_iinc C dX1_init_38 hl (k := 0) rfl (by decide) (fun y ey ls hl => ?_)
      refine hq_goto C dX1_init_41 rfl ?_
      have hgo := ih (i + 1) y ls H locs (by omega) (by omega) hl h
      rw [show 1 + 5 * i + 1 + 4 = 1 + 5 * (i + 1) by omega, show 40 + 114 * i + 8 + 106 = 40 + 114 * (i + 1) by omega]
      exact hgo
  exact W.widen (k := 1 + 5 * 0) (n := 40 + 114 * 0) (by omega) (by omega) (key n 0 0 ls H locs rfl (by omega) hl (by rw [gRf_zero]; exact h))
