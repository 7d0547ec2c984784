/-! ===== constructors: the straight ones (printed by wip/whole/gen/ctors.py) ===== -/
abbrev yX6 (n : Nat) : hq_Y := [(6, 0), (13, n)]
abbrev yX9 : hq_Y := [(9, 0), (13, 64), (13, 64), (14, 64)]
abbrev yX4 : hq_Y := [(4, 0)]
abbrev yX0 : hq_Y := [(0, 0), (6, 0), (13, 6), (6, 0), (13, 96)]
abbrev yX2 : hq_Y := [(2, 0), (6, 0), (13, 6), (6, 0), (13, 6)]
abbrev yX8 : hq_Y := [(8, 0), (6, 0), (13, 200), (13, 256), (13, 256)]
abbrev yX5 : hq_Y := [(5, 0), (9, 0), (13, 64), (13, 64), (14, 64), (6, 0), (13, 160)]
abbrev yX10 : hq_Y := [(10, 0), (9, 0), (13, 64), (13, 64), (14, 64), (8, 0), (6, 0), (13, 200), (13, 256), (13, 256), (6, 0), (13, 32), (6, 0), (13, 96)]
theorem bX6 : ∀ j, j < 2 → defaultValue (tyX6 j) = vp_V [.null, .int (w3 0)] j := by
  intro j hj
  rcases (show j = 0 ∨ j = 1 by omega) with rfl | rfl <;> rfl
theorem oX6 (k : Nat) (hk : k < 2) : ∀ Cn T N, vwCl[6]? = some (Cn, T, N) → (T k).1 = RX6 := fun Cn T N e => by
  have e1 : some (RX6, TX6, 2) = some (Cn, T, N) := e
  cases e1
  exact (by decide +kernel : ∀ k, k < 2 → (TX6 k).1 = RX6) k hk
theorem iX6_init_6 : ∀ w ∈ u_ws RX6 TX6 2, w ∈ wsX6_init := fun w h => List.mem_cons_of_mem _ (List.mem_append_right _ h)
set_option maxRecDepth 20000 in
theorem fX6_init_15 : hq_fl vwCl wsX6_init RX6 15 6 0 true (.array .int) := ⟨RX6, TX6, 2, tyX6, rfl, by decide, iX6_init_6, by decide +kernel, rfl, tyX6_ok 0 (by decide), tyX6_ok, nmX6⟩
set_option maxHeartbeats 4000000 in
set_option maxRecDepth 100000 in
theorem k_X6 (l : Launch) {D : va_G} {cA : Nat → ClassId} {B : Nat} (M : hq_M) (o : Nat) (n : Nat) (z : Int) (hz : z = (n : Int)) (hn : n ≤ 5000) (hM : ∀ q j, o ≤ q → q < o + 2 → M q j = 0) : k_T l yX6_init wsX6_init ({ frames := 1, cells := 1, slots := n, locals := 20 } : Room) D cA B M o 6 [.null, .int (w3 0)] [.ref (B + o), .int (w3 z)] (yX6 n) 1 n := by
  refine k_meth (cc := cX6_init) (maxL := 2) (own := RX6) rfl (by decide +kernel) rfl rfl (Nat.le_of_ble_eq_true rfl) ?_
  intro p e s m below meth c ls C hi h hl
  have hx := C.1.1
  have hb := C.1.2.1
  have hrz : rg z := ⟨by omega, by omega⟩
  have hl : lv_has ls 2 [(0, .ref (B + o)), (1, .int (w3 z))] := hl
  refine lv_aload_n hx hb dX6_init_0 rfl (lv_at hl 0 rfl) ?_
  refine k_obj C ⟨List.mem_of_getElem? (i := 1) rfl, List.mem_of_getElem? (i := 2) rfl, List.mem_of_getElem? (i := 3) rfl⟩ hl.1 dX6_init_1 ⟨Nat.le_of_ble_eq_true rfl, Nat.le_of_ble_eq_true rfl⟩ ?_
  refine lv_aload_n hx hb dX6_init_4 rfl (lv_at hl 0 rfl) ?_
  refine hq_iconst C dX6_init_5 ?_
  refine lv_iload_n hx hb dX6_init_6 rfl (lv_at hl 1 rfl) ?_
  refine hq_mmax C ⟨by decide +kernel, by decide +kernel, by decide +kernel, List.mem_of_getElem? (i := 7) rfl⟩ hl.1 ⟨Nat.le_of_ble_eq_true rfl, Nat.le_of_ble_eq_true rfl, Nat.zero_le _, Nat.zero_le _⟩ (by decide) hrz dX6_init_7 ?_
  rw [show max 0 z = z from by omega]
  refine k_arrI (x := (o + 1)) (n := n) C h (by decide +kernel) hz hn rfl (fun j => hM _ j (by omega) (by omega)) (Nat.le_of_ble_eq_true rfl) (Nat.le_of_eq (Nat.zero_add n))  dX6_init_10 (fun H h => ?_)
  refine k_put (q0 := 0) (v := .ref (B + (o + 1))) C hi h fX6_init_15 (oX6 0 (by decide)) rfl rfl rfl (Nat.le_of_ble_eq_true rfl) dX6_init_12 (fun H locs h _ => ?_)
  have h : k_S D cA B M [(B + o, .inr (6, [.ref (B + (o + 1)), .int (w3 0)]))] o (o + 1) (([] : hq_Y) ++ [(13, n)]) s.heap H locs := h
  refine k_ret1 (fs := [.ref (B + (o + 1)), .int (w3 0)]) C h (by rw [show hq_cel SLx cA B M o (6, 0) = .inr (6, [.ref (B + (o + 1)), .int (w3 (M o 1))]) from rfl, hM o 1 (by omega) (by omega)]) ⟨Nat.le_of_ble_eq_true rfl, Nat.le_of_eq (Nat.zero_add n)⟩ dX6_init_15
theorem bX9 : ∀ j, j < 7 → defaultValue (tyX9 j) = vp_V [.null, .null, .null, .int (w3 0), .int (w3 0), .int (w3 0), .int (w3 0)] j := by
  intro j hj
  rcases (show j = 0 ∨ j = 1 ∨ j = 2 ∨ j = 3 ∨ j = 4 ∨ j = 5 ∨ j = 6 by omega) with rfl | rfl | rfl | rfl | rfl | rfl | rfl <;> rfl
theorem oX9 (k : Nat) (hk : k < 7) : ∀ Cn T N, vwCl[9]? = some (Cn, T, N) → (T k).1 = RX9 := fun Cn T N e => by
  have e1 : some (RX9, TX9, 7) = some (Cn, T, N) := e
  cases e1
  exact (by decide +kernel : ∀ k, k < 7 → (TX9 k).1 = RX9) k hk
theorem iX9_init_9 : ∀ w ∈ u_ws RX9 TX9 7, w ∈ wsX9_init := fun w h => List.mem_cons_of_mem _ (List.mem_append_right _ h)
set_option maxRecDepth 20000 in
theorem fX9_init_11 : hq_fl vwCl wsX9_init RX9 11 9 0 true (.array .int) := ⟨RX9, TX9, 7, tyX9, rfl, by decide, iX9_init_9, by decide +kernel, rfl, tyX9_ok 0 (by decide), tyX9_ok, nmX9⟩
set_option maxRecDepth 20000 in
theorem fX9_init_15 : hq_fl vwCl wsX9_init RX9 15 9 1 true (.array .int) := ⟨RX9, TX9, 7, tyX9, rfl, by decide, iX9_init_9, by decide +kernel, rfl, tyX9_ok 1 (by decide), tyX9_ok, nmX9⟩
set_option maxRecDepth 20000 in
theorem fX9_init_18 : hq_fl vwCl wsX9_init RX9 18 9 2 true (.array .long) := ⟨RX9, TX9, 7, tyX9, rfl, by decide, iX9_init_9, by decide +kernel, rfl, tyX9_ok 2 (by decide), tyX9_ok, nmX9⟩
set_option maxHeartbeats 4000000 in
set_option maxRecDepth 100000 in
theorem k_X9 (l : Launch) {D : va_G} {cA : Nat → ClassId} {B : Nat} (M : hq_M) (o : Nat) (hM : ∀ q j, o ≤ q → q < o + 4 → M q j = 0) : k_T l yX9_init wsX9_init ({ frames := 1, cells := 3, slots := 192, locals := 20 } : Room) D cA B M o 9 [.null, .null, .null, .int (w3 0), .int (w3 0), .int (w3 0), .int (w3 0)] [.ref (B + o)] yX9 3 192 := by
  refine k_meth (cc := cX9_init) (maxL := 1) (own := RX9) rfl (by decide +kernel) rfl rfl (Nat.le_of_ble_eq_true rfl) ?_
  intro p e s m below meth c ls C hi h hl
  have hx := C.1.1
  have hb := C.1.2.1
  have hl : lv_has ls 1 [(0, .ref (B + o))] := hl
  refine lv_aload_n hx hb dX9_init_0 rfl (lv_at hl 0 rfl) ?_
  refine k_obj C ⟨List.mem_of_getElem? (i := 1) rfl, List.mem_of_getElem? (i := 2) rfl, List.mem_of_getElem? (i := 3) rfl⟩ hl.1 dX9_init_1 ⟨Nat.le_of_ble_eq_true rfl, Nat.le_of_ble_eq_true rfl⟩ ?_
  refine lv_aload_n hx hb dX9_init_4 rfl (lv_at hl 0 rfl) ?_
  refine hq_bipush C dX9_init_5 (by decide) ?_
  refine k_arrI (x := (o + 1)) (n := 64) C h (by decide +kernel) rfl (Nat.le_of_ble_eq_true rfl) rfl (fun j => hM _ j (by omega) (by omega)) (Nat.le_of_ble_eq_true rfl) (Nat.le_of_ble_eq_true rfl)  dX9_init_7 (fun H h => ?_)
  refine k_put (q0 := 0) (v := .ref (B + (o + 1))) C hi h fX9_init_11 (oX9 0 (by decide)) rfl rfl rfl (Nat.le_of_ble_eq_true rfl) dX9_init_9 (fun H locs h _ => ?_)
  have h : k_S D cA B M [(B + o, .inr (9, [.ref (B + (o + 1)), .null, .null, .int (w3 0), .int (w3 0), .int (w3 0), .int (w3 0)]))] o (o + 1) (([] : hq_Y) ++ [(13, 64)]) s.heap H locs := h
  refine lv_aload_n hx hb dX9_init_12 rfl (lv_at hl 0 rfl) ?_
  refine hq_bipush C dX9_init_13 (by decide) ?_
  refine k_arrI (x := (o + 2)) (n := 64) C h (by decide +kernel) rfl (Nat.le_of_ble_eq_true rfl) rfl (fun j => hM _ j (by omega) (by omega)) (Nat.le_of_ble_eq_true rfl) (Nat.le_of_ble_eq_true rfl)  dX9_init_15 (fun H h => ?_)
  refine k_put (q0 := 0) (v := .ref (B + (o + 2))) C hi h fX9_init_15 (oX9 1 (by decide)) rfl rfl rfl (Nat.le_of_ble_eq_true rfl) dX9_init_17 (fun H locs h _ => ?_)
  have h : k_S D cA B M [(B + o, .inr (9, [.ref (B + (o + 1)), .ref (B + (o + 2)), .null, .int (w3 0), .int (w3 0), .int (w3 0), .int (w3 0)]))] o (o + 1) (([] : hq_Y) ++ [(13, 64)] ++ [(13, 64)]) s.heap H locs := h
  refine lv_aload_n hx hb dX9_init_20 rfl (lv_at hl 0 rfl) ?_
  refine hq_bipush C dX9_init_21 (by decide) ?_
  refine k_arrL (x := (o + 3)) (n := 64) C h (by decide +kernel) rfl (Nat.le_of_ble_eq_true rfl) rfl (fun j => hM _ j (by omega) (by omega)) (Nat.le_of_ble_eq_true rfl) (Nat.le_of_ble_eq_true rfl)  dX9_init_23 (fun H h => ?_)
  refine k_put (q0 := 0) (v := .ref (B + (o + 3))) C hi h fX9_init_18 (oX9 2 (by decide)) rfl rfl rfl (Nat.le_of_ble_eq_true rfl) dX9_init_25 (fun H locs h _ => ?_)
  have h : k_S D cA B M [(B + o, .inr (9, [.ref (B + (o + 1)), .ref (B + (o + 2)), .ref (B + (o + 3)), .int (w3 0), .int (w3 0), .int (w3 0), .int (w3 0)]))] o (o + 1) (([] : hq_Y) ++ [(13, 64)] ++ [(13, 64)] ++ [(14, 64)]) s.heap H locs := h
  refine k_ret1 (fs := [.ref (B + (o + 1)), .ref (B + (o + 2)), .ref (B + (o + 3)), .int (w3 0), .int (w3 0), .int (w3 0), .int (w3 0)]) C h (by rw [show hq_cel SLx cA B M o (9, 0) = .inr (9, [.ref (B + (o + 1)), .ref (B + (o + 2)), .ref (B + (o + 3)), .int (w3 (M o 3)), .int (w3 (M o 4)), .int (w3 (M o 5)), .int (w3 (M o 6))]) from rfl, hM o 3 (by omega) (by omega), hM o 4 (by omega) (by omega), hM o 5 (by omega) (by omega), hM o 6 (by omega) (by omega)]) ⟨Nat.le_of_ble_eq_true rfl, Nat.le_of_ble_eq_true rfl⟩ dX9_init_28
theorem bX4 : ∀ j, j < 6 → defaultValue (tyX4 j) = vp_V [.null, .int (w3 0), .int (w3 0), .int (w3 0), .int (w3 0), .int (w3 0)] j := by
  intro j hj
  rcases (show j = 0 ∨ j = 1 ∨ j = 2 ∨ j = 3 ∨ j = 4 ∨ j = 5 by omega) with rfl | rfl | rfl | rfl | rfl | rfl <;> rfl
theorem oX4 (k : Nat) (hk : k < 6) : ∀ Cn T N, vwCl[4]? = some (Cn, T, N) → (T k).1 = RX4 := fun Cn T N e => by
  have e1 : some (RX4, TX4, 6) = some (Cn, T, N) := e
  cases e1
  exact (by decide +kernel : ∀ k, k < 6 → (TX4 k).1 = RX4) k hk
theorem iX4_init_4 : ∀ w ∈ u_ws RX4 TX4 6, w ∈ wsX4_init := fun w h => List.mem_cons_of_mem _ (List.mem_append_right _ h)
set_option maxRecDepth 20000 in
theorem fX4_init_9 : hq_fl vwCl wsX4_init RX4 9 4 0 true (.object "HeadTables$Row") := ⟨RX4, TX4, 6, tyX4, rfl, by decide, iX4_init_4, by decide +kernel, rfl, tyX4_ok 0 (by decide), tyX4_ok, nmX4⟩
set_option maxHeartbeats 4000000 in
set_option maxRecDepth 100000 in
theorem k_X4 (l : Launch) {D : va_G} {cA : Nat → ClassId} {B : Nat} (M : hq_M) (o : Nat) (hM : ∀ q j, o ≤ q → q < o + 1 → M q j = 0) : k_T l yX4_init wsX4_init ({ frames := 1, cells := 0, slots := 0, locals := 20 } : Room) D cA B M o 4 [.null, .int (w3 0), .int (w3 0), .int (w3 0), .int (w3 0), .int (w3 0)] [.ref (B + o), .ref (B + 1)] yX4 0 0 := by
  refine k_meth (cc := cX4_init) (maxL := 2) (own := RX4) rfl (by decide +kernel) rfl rfl (Nat.le_of_ble_eq_true rfl) ?_
  intro p e s m below meth c ls C hi h hl
  have hx := C.1.1
  have hb := C.1.2.1
  have hl : lv_has ls 2 [(0, .ref (B + o)), (1, .ref (B + 1))] := hl
  refine lv_aload_n hx hb dX4_init_0 rfl (lv_at hl 0 rfl) ?_
  refine k_obj C ⟨List.mem_of_getElem? (i := 1) rfl, List.mem_of_getElem? (i := 2) rfl, List.mem_of_getElem? (i := 3) rfl⟩ hl.1 dX4_init_1 ⟨Nat.le_of_ble_eq_true rfl, Nat.le_of_ble_eq_true rfl⟩ ?_
  refine lv_aload_n hx hb dX4_init_4 rfl (lv_at hl 0 rfl) ?_
  refine lv_aload_n hx hb dX4_init_5 rfl (lv_at hl 1 rfl) ?_
  refine k_put (q0 := 0) (v := .ref (B + 1)) C hi h fX4_init_9 (oX4 0 (by decide)) rfl rfl rfl (Nat.le_of_ble_eq_true rfl) dX4_init_6 (fun H locs h _ => ?_)
  have h : k_S D cA B M [(B + o, .inr (4, [.ref (B + 1), .int (w3 0), .int (w3 0), .int (w3 0), .int (w3 0), .int (w3 0)]))] o (o + 1) (([] : hq_Y)) s.heap H locs := h
  refine k_ret1 (fs := [.ref (B + 1), .int (w3 0), .int (w3 0), .int (w3 0), .int (w3 0), .int (w3 0)]) C h (by rw [show hq_cel SLx cA B M o (4, 0) = .inr (4, [.ref (B + 1), .int (w3 (M o 1)), .int (w3 (M o 2)), .int (w3 (M o 3)), .int (w3 (M o 4)), .int (w3 (M o 5))]) from rfl, hM o 1 (by omega) (by omega), hM o 2 (by omega) (by omega), hM o 3 (by omega) (by omega), hM o 4 (by omega) (by omega), hM o 5 (by omega) (by omega)]) ⟨Nat.le_of_ble_eq_true rfl, Nat.le_of_ble_eq_true rfl⟩ dX4_init_9
theorem iX2_init_6 : ∀ w ∈ u_ws RX6 TX6 2, w ∈ wsX2_init := fun w h => List.mem_cons_of_mem _ (List.mem_append_left _ (List.mem_append_right _ h))
theorem bX2 : ∀ j, j < 2 → defaultValue (tyX2 j) = vp_V [.null, .null] j := by
  intro j hj
  rcases (show j = 0 ∨ j = 1 by omega) with rfl | rfl <;> rfl
theorem oX2 (k : Nat) (hk : k < 2) : ∀ Cn T N, vwCl[2]? = some (Cn, T, N) → (T k).1 = RX2 := fun Cn T N e => by
  have e1 : some (RX2, TX2, 2) = some (Cn, T, N) := e
  cases e1
  exact (by decide +kernel : ∀ k, k < 2 → (TX2 k).1 = RX2) k hk
theorem iX2_init_2 : ∀ w ∈ u_ws RX2 TX2 2, w ∈ wsX2_init := fun w h => List.mem_cons_of_mem _ (List.mem_append_right _ h)
set_option maxRecDepth 20000 in
theorem fX2_init_14 : hq_fl vwCl wsX2_init RX2 14 2 0 true (.object "HeadTables$Row") := ⟨RX2, TX2, 2, tyX2, rfl, by decide, iX2_init_2, by decide +kernel, rfl, tyX2_ok 0 (by decide), tyX2_ok, nmX2⟩
set_option maxRecDepth 20000 in
theorem fX2_init_20 : hq_fl vwCl wsX2_init RX2 20 2 1 true (.object "HeadTables$Row") := ⟨RX2, TX2, 2, tyX2, rfl, by decide, iX2_init_2, by decide +kernel, rfl, tyX2_ok 1 (by decide), tyX2_ok, nmX2⟩
set_option maxHeartbeats 4000000 in
set_option maxRecDepth 100000 in
theorem k_X2 (l : Launch) {D : va_G} {cA : Nat → ClassId} {B : Nat} (M : hq_M) (o : Nat) (hM : ∀ q j, o ≤ q → q < o + 5 → M q j = 0) : k_T l yX2_init wsX2_init ({ frames := 2, cells := 4, slots := 16, locals := 60 } : Room) D cA B M o 2 [.null, .null] [.ref (B + o)] yX2 4 16 := by
  refine k_meth (cc := cX2_init) (maxL := 1) (own := RX2) rfl (by decide +kernel) rfl rfl (Nat.le_of_ble_eq_true rfl) ?_
  intro p e s m below meth c ls C hi h hl
  have hx := C.1.1
  have hb := C.1.2.1
  have hl : lv_has ls 1 [(0, .ref (B + o))] := hl
  refine lv_aload_n hx hb dX2_init_0 rfl (lv_at hl 0 rfl) ?_
  refine k_obj C ⟨List.mem_of_getElem? (i := 1) rfl, List.mem_of_getElem? (i := 2) rfl, List.mem_of_getElem? (i := 3) rfl⟩ hl.1 dX2_init_1 ⟨Nat.le_of_ble_eq_true rfl, Nat.le_of_ble_eq_true rfl⟩ ?_
  refine lv_aload_n hx hb dX2_init_4 rfl (lv_at hl 0 rfl) ?_
  refine k_new (x := (o + 1)) (ci := 6) (fs := [.null, .int (w3 0)]) tyX6 C h rfl iX2_init_6 tyX6_ok ⟨by decide +kernel, by decide +kernel, by decide +kernel⟩ bX6 (Nat.le_of_ble_eq_true rfl) (Nat.le_of_ble_eq_true rfl) rfl dX2_init_5 (fun H h => ?_)
  refine lv_dup hx hb dX2_init_8 rfl ?_
  refine hq_bipush C dX2_init_9 (by decide) ?_
  refine k_cI (n := 1) (rest := [.ref (B + (o + 1)), .ref (B + o)]) C h rfl (k_X6 l M (o + 1) 6 6 rfl (Nat.le_of_ble_eq_true rfl) (fun q j h1 h2 => hM q j (by omega) (by omega))) gX2_init_X6_init rfl ⟨rfl, rfl⟩ ⟨by decide +kernel, by decide +kernel, by decide +kernel⟩ rfl ⟨by decide, by decide, by decide +kernel⟩ ⟨Nat.le_of_ble_eq_true rfl, Nat.le_of_ble_eq_true rfl⟩ rfl hl.1 rfl (Nat.le_of_ble_eq_true rfl) dX2_init_11 ⟨Nat.le_of_ble_eq_true rfl, Nat.le_of_ble_eq_true rfl⟩ (fun H locs h => ?_)
  have h : k_S D cA B M [(B + o, .inr (2, [.null, .null]))] o (o + 1) (([] : hq_Y) ++ (yX6 6)) s.heap H locs := h
  refine k_put (q0 := 0) (v := .ref (B + (o + 1))) C hi h fX2_init_14 (oX2 0 (by decide)) rfl rfl rfl (Nat.le_of_ble_eq_true rfl) dX2_init_14 (fun H locs h _ => ?_)
  have h : k_S D cA B M [(B + o, .inr (2, [.ref (B + (o + 1)), .null]))] o (o + 1) (([] : hq_Y) ++ (yX6 6)) s.heap H locs := h
  refine lv_aload_n hx hb dX2_init_17 rfl (lv_at hl 0 rfl) ?_
  refine k_new (x := (o + 3)) (ci := 6) (fs := [.null, .int (w3 0)]) tyX6 C h rfl iX2_init_6 tyX6_ok ⟨by decide +kernel, by decide +kernel, by decide +kernel⟩ bX6 (Nat.le_of_ble_eq_true rfl) (Nat.le_of_ble_eq_true rfl) rfl dX2_init_18 (fun H h => ?_)
  refine lv_dup hx hb dX2_init_21 rfl ?_
  refine hq_bipush C dX2_init_22 (by decide) ?_
  refine k_cI (n := 1) (rest := [.ref (B + (o + 3)), .ref (B + o)]) C h rfl (k_X6 l M (o + 3) 6 6 rfl (Nat.le_of_ble_eq_true rfl) (fun q j h1 h2 => hM q j (by omega) (by omega))) gX2_init_X6_init rfl ⟨rfl, rfl⟩ ⟨by decide +kernel, by decide +kernel, by decide +kernel⟩ rfl ⟨by decide, by decide, by decide +kernel⟩ ⟨Nat.le_of_ble_eq_true rfl, Nat.le_of_ble_eq_true rfl⟩ rfl hl.1 rfl (Nat.le_of_ble_eq_true rfl) dX2_init_24 ⟨Nat.le_of_ble_eq_true rfl, Nat.le_of_ble_eq_true rfl⟩ (fun H locs h => ?_)
  have h : k_S D cA B M [(B + o, .inr (2, [.ref (B + (o + 1)), .null]))] o (o + 1) (([] : hq_Y) ++ (yX6 6) ++ (yX6 6)) s.heap H locs := h
  refine k_put (q0 := 0) (v := .ref (B + (o + 3))) C hi h fX2_init_20 (oX2 1 (by decide)) rfl rfl rfl (Nat.le_of_ble_eq_true rfl) dX2_init_27 (fun H locs h _ => ?_)
  have h : k_S D cA B M [(B + o, .inr (2, [.ref (B + (o + 1)), .ref (B + (o + 3))]))] o (o + 1) (([] : hq_Y) ++ (yX6 6) ++ (yX6 6)) s.heap H locs := h
  refine k_ret1 (fs := [.ref (B + (o + 1)), .ref (B + (o + 3))]) C h (by rfl) ⟨Nat.le_of_ble_eq_true rfl, Nat.le_of_ble_eq_true rfl⟩ dX2_init_30
theorem iX0_init_6 : ∀ w ∈ u_ws RX6 TX6 2, w ∈ wsX0_init := fun w h => List.mem_cons_of_mem _ (List.mem_append_left _ (List.mem_append_right _ h))
theorem bX0 : ∀ j, j < 8 → defaultValue (tyX0 j) = vp_V [.int (w3 0), .null, .null, .int (w3 0), .int (w3 0), .int (w3 0), .int (w3 0), .int (w3 0)] j := by
  intro j hj
  rcases (show j = 0 ∨ j = 1 ∨ j = 2 ∨ j = 3 ∨ j = 4 ∨ j = 5 ∨ j = 6 ∨ j = 7 by omega) with rfl | rfl | rfl | rfl | rfl | rfl | rfl | rfl <;> rfl
theorem oX0 (k : Nat) (hk : k < 8) : ∀ Cn T N, vwCl[0]? = some (Cn, T, N) → (T k).1 = RX0 := fun Cn T N e => by
  have e1 : some (RX0, TX0, 8) = some (Cn, T, N) := e
  cases e1
  exact (by decide +kernel : ∀ k, k < 8 → (TX0 k).1 = RX0) k hk
theorem iX0_init_0 : ∀ w ∈ u_ws RX0 TX0 8, w ∈ wsX0_init := fun w h => List.mem_cons_of_mem _ (List.mem_append_right _ h)
set_option maxRecDepth 20000 in
theorem fX0_init_14 : hq_fl vwCl wsX0_init RX0 14 0 1 true (.object "HeadTables$Row") := ⟨RX0, TX0, 8, tyX0, rfl, by decide, iX0_init_0, by decide +kernel, rfl, tyX0_ok 1 (by decide), tyX0_ok, nmX0⟩
set_option maxRecDepth 20000 in
theorem fX0_init_20 : hq_fl vwCl wsX0_init RX0 20 0 2 true (.object "HeadTables$Row") := ⟨RX0, TX0, 8, tyX0, rfl, by decide, iX0_init_0, by decide +kernel, rfl, tyX0_ok 2 (by decide), tyX0_ok, nmX0⟩
set_option maxRecDepth 20000 in
theorem fX0_init_23 : hq_fl vwCl wsX0_init RX0 23 0 0 true .int := ⟨RX0, TX0, 8, tyX0, rfl, by decide, iX0_init_0, by decide +kernel, rfl, tyX0_ok 0 (by decide), tyX0_ok, nmX0⟩
set_option maxHeartbeats 4000000 in
set_option maxRecDepth 100000 in
theorem k_X0 (l : Launch) {D : va_G} {cA : Nat → ClassId} {B : Nat} (M : hq_M) (o : Nat) (v : Int) (hv : M o 0 = v) (hM : ∀ q j, o ≤ q → q < o + 5 → ¬ (q = o ∧ j = 0) → M q j = 0) : k_T l yX0_init wsX0_init ({ frames := 2, cells := 4, slots := 106, locals := 60 } : Room) D cA B M o 0 [.int (w3 0), .null, .null, .int (w3 0), .int (w3 0), .int (w3 0), .int (w3 0), .int (w3 0)] [.ref (B + o), .int (w3 v)] yX0 4 106 := by
  refine k_meth (cc := cX0_init) (maxL := 2) (own := RX0) rfl (by decide +kernel) rfl rfl (Nat.le_of_ble_eq_true rfl) ?_
  intro p e s m below meth c ls C hi h hl
  have hx := C.1.1
  have hb := C.1.2.1
  have hl : lv_has ls 2 [(0, .ref (B + o)), (1, .int (w3 v))] := hl
  refine lv_aload_n hx hb dX0_init_0 rfl (lv_at hl 0 rfl) ?_
  refine k_obj C ⟨List.mem_of_getElem? (i := 1) rfl, List.mem_of_getElem? (i := 2) rfl, List.mem_of_getElem? (i := 3) rfl⟩ hl.1 dX0_init_1 ⟨Nat.le_of_ble_eq_true rfl, Nat.le_of_ble_eq_true rfl⟩ ?_
  refine lv_aload_n hx hb dX0_init_4 rfl (lv_at hl 0 rfl) ?_
  refine k_new (x := (o + 1)) (ci := 6) (fs := [.null, .int (w3 0)]) tyX6 C h rfl iX0_init_6 tyX6_ok ⟨by decide +kernel, by decide +kernel, by decide +kernel⟩ bX6 (Nat.le_of_ble_eq_true rfl) (Nat.le_of_ble_eq_true rfl) rfl dX0_init_5 (fun H h => ?_)
  refine lv_dup hx hb dX0_init_8 rfl ?_
  refine hq_bipush C dX0_init_9 (by decide) ?_
  refine k_cI (n := 1) (rest := [.ref (B + (o + 1)), .ref (B + o)]) C h rfl (k_X6 l M (o + 1) 6 6 rfl (Nat.le_of_ble_eq_true rfl) (fun q j h1 h2 => hM q j (by omega) (by omega) (by omega))) gX0_init_X6_init rfl ⟨rfl, rfl⟩ ⟨by decide +kernel, by decide +kernel, by decide +kernel⟩ rfl ⟨by decide, by decide, by decide +kernel⟩ ⟨Nat.le_of_ble_eq_true rfl, Nat.le_of_ble_eq_true rfl⟩ rfl hl.1 rfl (Nat.le_of_ble_eq_true rfl) dX0_init_11 ⟨Nat.le_of_ble_eq_true rfl, Nat.le_of_ble_eq_true rfl⟩ (fun H locs h => ?_)
  have h : k_S D cA B M [(B + o, .inr (0, [.int (w3 0), .null, .null, .int (w3 0), .int (w3 0), .int (w3 0), .int (w3 0), .int (w3 0)]))] o (o + 1) (([] : hq_Y) ++ (yX6 6)) s.heap H locs := h
  refine k_put (q0 := 0) (v := .ref (B + (o + 1))) C hi h fX0_init_14 (oX0 1 (by decide)) rfl rfl rfl (Nat.le_of_ble_eq_true rfl) dX0_init_14 (fun H locs h _ => ?_)
  have h : k_S D cA B M [(B + o, .inr (0, [.int (w3 0), .ref (B + (o + 1)), .null, .int (w3 0), .int (w3 0), .int (w3 0), .int (w3 0), .int (w3 0)]))] o (o + 1) (([] : hq_Y) ++ (yX6 6)) s.heap H locs := h
  refine lv_aload_n hx hb dX0_init_17 rfl (lv_at hl 0 rfl) ?_
  refine k_new (x := (o + 3)) (ci := 6) (fs := [.null, .int (w3 0)]) tyX6 C h rfl iX0_init_6 tyX6_ok ⟨by decide +kernel, by decide +kernel, by decide +kernel⟩ bX6 (Nat.le_of_ble_eq_true rfl) (Nat.le_of_ble_eq_true rfl) rfl dX0_init_18 (fun H h => ?_)
  refine lv_dup hx hb dX0_init_21 rfl ?_
  refine hq_bipush C dX0_init_22 (by decide) ?_
  refine k_cI (n := 1) (rest := [.ref (B + (o + 3)), .ref (B + o)]) C h rfl (k_X6 l M (o + 3) 96 96 rfl (Nat.le_of_ble_eq_true rfl) (fun q j h1 h2 => hM q j (by omega) (by omega) (by omega))) gX0_init_X6_init rfl ⟨rfl, rfl⟩ ⟨by decide +kernel, by decide +kernel, by decide +kernel⟩ rfl ⟨by decide, by decide, by decide +kernel⟩ ⟨Nat.le_of_ble_eq_true rfl, Nat.le_of_ble_eq_true rfl⟩ rfl hl.1 rfl (Nat.le_of_ble_eq_true rfl) dX0_init_24 ⟨Nat.le_of_ble_eq_true rfl, Nat.le_of_ble_eq_true rfl⟩ (fun H locs h => ?_)
  have h : k_S D cA B M [(B + o, .inr (0, [.int (w3 0), .ref (B + (o + 1)), .null, .int (w3 0), .int (w3 0), .int (w3 0), .int (w3 0), .int (w3 0)]))] o (o + 1) (([] : hq_Y) ++ (yX6 6) ++ (yX6 96)) s.heap H locs := h
  refine k_put (q0 := 0) (v := .ref (B + (o + 3))) C hi h fX0_init_20 (oX0 2 (by decide)) rfl rfl rfl (Nat.le_of_ble_eq_true rfl) dX0_init_27 (fun H locs h _ => ?_)
  have h : k_S D cA B M [(B + o, .inr (0, [.int (w3 0), .ref (B + (o + 1)), .ref (B + (o + 3)), .int (w3 0), .int (w3 0), .int (w3 0), .int (w3 0), .int (w3 0)]))] o (o + 1) (([] : hq_Y) ++ (yX6 6) ++ (yX6 96)) s.heap H locs := h
  refine lv_aload_n hx hb dX0_init_30 rfl (lv_at hl 0 rfl) ?_
  refine lv_iload_n hx hb dX0_init_31 rfl (lv_at hl 1 rfl) ?_
  refine k_put (q0 := 0) (v := .int (w3 v)) C hi h fX0_init_23 (oX0 0 (by decide)) rfl rfl rfl (Nat.le_of_ble_eq_true rfl) dX0_init_32 (fun H locs h _ => ?_)
  have h : k_S D cA B M [(B + o, .inr (0, [.int (w3 v), .ref (B + (o + 1)), .ref (B + (o + 3)), .int (w3 0), .int (w3 0), .int (w3 0), .int (w3 0), .int (w3 0)]))] o (o + 1) (([] : hq_Y) ++ (yX6 6) ++ (yX6 96)) s.heap H locs := h
  refine k_ret1 (fs := [.int (w3 v), .ref (B + (o + 1)), .ref (B + (o + 3)), .int (w3 0), .int (w3 0), .int (w3 0), .int (w3 0), .int (w3 0)]) C h (by rw [show hq_cel SLx cA B M o (0, 0) = .inr (0, [.int (w3 (M o 0)), .ref (B + (o + 1)), .ref (B + (o + 3)), .int (w3 (M o 3)), .int (w3 (M o 4)), .int (w3 (M o 5)), .int (w3 (M o 6)), .int (w3 (M o 7))]) from rfl, hv, hM o 3 (by omega) (by omega) (by omega), hM o 4 (by omega) (by omega) (by omega), hM o 5 (by omega) (by omega) (by omega), hM o 6 (by omega) (by omega) (by omega), hM o 7 (by omega) (by omega) (by omega)]) ⟨Nat.le_of_ble_eq_true rfl, Nat.le_of_ble_eq_true rfl⟩ dX0_init_35
theorem iX8_init_6 : ∀ w ∈ u_ws RX6 TX6 2, w ∈ wsX8_init := fun w h => List.mem_cons_of_mem _ (List.mem_append_left _ (List.mem_append_right _ h))
theorem bX8 : ∀ j, j < 5 → defaultValue (tyX8 j) = vp_V [.null, .null, .null, .int (w3 0), .int (w3 0)] j := by
  intro j hj
  rcases (show j = 0 ∨ j = 1 ∨ j = 2 ∨ j = 3 ∨ j = 4 by omega) with rfl | rfl | rfl | rfl | rfl <;> rfl
theorem oX8 (k : Nat) (hk : k < 5) : ∀ Cn T N, vwCl[8]? = some (Cn, T, N) → (T k).1 = RX8 := fun Cn T N e => by
  have e1 : some (RX8, TX8, 5) = some (Cn, T, N) := e
  cases e1
  exact (by decide +kernel : ∀ k, k < 5 → (TX8 k).1 = RX8) k hk
theorem iX8_init_8 : ∀ w ∈ u_ws RX8 TX8 5, w ∈ wsX8_init := fun w h => List.mem_cons_of_mem _ (List.mem_append_right _ h)
set_option maxRecDepth 20000 in
theorem fX8_init_16 : hq_fl vwCl wsX8_init RX8 16 8 0 true (.object "HeadTables$Row") := ⟨RX8, TX8, 5, tyX8, rfl, by decide, iX8_init_8, by decide +kernel, rfl, tyX8_ok 0 (by decide), tyX8_ok, nmX8⟩
set_option maxRecDepth 20000 in
theorem fX8_init_20 : hq_fl vwCl wsX8_init RX8 20 8 1 true (.array .int) := ⟨RX8, TX8, 5, tyX8, rfl, by decide, iX8_init_8, by decide +kernel, rfl, tyX8_ok 1 (by decide), tyX8_ok, nmX8⟩
set_option maxRecDepth 20000 in
theorem fX8_init_24 : hq_fl vwCl wsX8_init RX8 24 8 2 true (.array .int) := ⟨RX8, TX8, 5, tyX8, rfl, by decide, iX8_init_8, by decide +kernel, rfl, tyX8_ok 2 (by decide), tyX8_ok, nmX8⟩
set_option maxHeartbeats 4000000 in
set_option maxRecDepth 100000 in
theorem k_X8 (l : Launch) {D : va_G} {cA : Nat → ClassId} {B : Nat} (M : hq_M) (o : Nat) (hM : ∀ q j, o ≤ q → q < o + 5 → M q j = 0) : k_T l yX8_init wsX8_init ({ frames := 2, cells := 4, slots := 714, locals := 60 } : Room) D cA B M o 8 [.null, .null, .null, .int (w3 0), .int (w3 0)] [.ref (B + o)] yX8 4 714 := by
  refine k_meth (cc := cX8_init) (maxL := 1) (own := RX8) rfl (by decide +kernel) rfl rfl (Nat.le_of_ble_eq_true rfl) ?_
  intro p e s m below meth c ls C hi h hl
  have hx := C.1.1
  have hb := C.1.2.1
  have hl : lv_has ls 1 [(0, .ref (B + o))] := hl
  refine lv_aload_n hx hb dX8_init_0 rfl (lv_at hl 0 rfl) ?_
  refine k_obj C ⟨List.mem_of_getElem? (i := 1) rfl, List.mem_of_getElem? (i := 2) rfl, List.mem_of_getElem? (i := 3) rfl⟩ hl.1 dX8_init_1 ⟨Nat.le_of_ble_eq_true rfl, Nat.le_of_ble_eq_true rfl⟩ ?_
  refine lv_aload_n hx hb dX8_init_4 rfl (lv_at hl 0 rfl) ?_
  refine k_new (x := (o + 1)) (ci := 6) (fs := [.null, .int (w3 0)]) tyX6 C h rfl iX8_init_6 tyX6_ok ⟨by decide +kernel, by decide +kernel, by decide +kernel⟩ bX6 (Nat.le_of_ble_eq_true rfl) (Nat.le_of_ble_eq_true rfl) rfl dX8_init_5 (fun H h => ?_)
  refine lv_dup hx hb dX8_init_8 rfl ?_
  refine hq_sipush C dX8_init_9 (by decide) ?_
  refine k_cI (n := 1) (rest := [.ref (B + (o + 1)), .ref (B + o)]) C h rfl (k_X6 l M (o + 1) 200 200 rfl (Nat.le_of_ble_eq_true rfl) (fun q j h1 h2 => hM q j (by omega) (by omega))) gX8_init_X6_init rfl ⟨rfl, rfl⟩ ⟨by decide +kernel, by decide +kernel, by decide +kernel⟩ rfl ⟨by decide, by decide, by decide +kernel⟩ ⟨Nat.le_of_ble_eq_true rfl, Nat.le_of_ble_eq_true rfl⟩ rfl hl.1 rfl (Nat.le_of_ble_eq_true rfl) dX8_init_12 ⟨Nat.le_of_ble_eq_true rfl, Nat.le_of_ble_eq_true rfl⟩ (fun H locs h => ?_)
  have h : k_S D cA B M [(B + o, .inr (8, [.null, .null, .null, .int (w3 0), .int (w3 0)]))] o (o + 1) (([] : hq_Y) ++ (yX6 200)) s.heap H locs := h
  refine k_put (q0 := 0) (v := .ref (B + (o + 1))) C hi h fX8_init_16 (oX8 0 (by decide)) rfl rfl rfl (Nat.le_of_ble_eq_true rfl) dX8_init_15 (fun H locs h _ => ?_)
  have h : k_S D cA B M [(B + o, .inr (8, [.ref (B + (o + 1)), .null, .null, .int (w3 0), .int (w3 0)]))] o (o + 1) (([] : hq_Y) ++ (yX6 200)) s.heap H locs := h
  refine lv_aload_n hx hb dX8_init_18 rfl (lv_at hl 0 rfl) ?_
  refine hq_sipush C dX8_init_19 (by decide) ?_
  refine k_arrI (x := (o + 3)) (n := 256) C h (by decide +kernel) rfl (Nat.le_of_ble_eq_true rfl) rfl (fun j => hM _ j (by omega) (by omega)) (Nat.le_of_ble_eq_true rfl) (Nat.le_of_ble_eq_true rfl)  dX8_init_22 (fun H h => ?_)
  refine k_put (q0 := 0) (v := .ref (B + (o + 3))) C hi h fX8_init_20 (oX8 1 (by decide)) rfl rfl rfl (Nat.le_of_ble_eq_true rfl) dX8_init_24 (fun H locs h _ => ?_)
  have h : k_S D cA B M [(B + o, .inr (8, [.ref (B + (o + 1)), .ref (B + (o + 3)), .null, .int (w3 0), .int (w3 0)]))] o (o + 1) (([] : hq_Y) ++ (yX6 200) ++ [(13, 256)]) s.heap H locs := h
  refine lv_aload_n hx hb dX8_init_27 rfl (lv_at hl 0 rfl) ?_
  refine hq_sipush C dX8_init_28 (by decide) ?_
  refine k_arrI (x := (o + 4)) (n := 256) C h (by decide +kernel) rfl (Nat.le_of_ble_eq_true rfl) rfl (fun j => hM _ j (by omega) (by omega)) (Nat.le_of_ble_eq_true rfl) (Nat.le_of_ble_eq_true rfl)  dX8_init_31 (fun H h => ?_)
  refine k_put (q0 := 0) (v := .ref (B + (o + 4))) C hi h fX8_init_24 (oX8 2 (by decide)) rfl rfl rfl (Nat.le_of_ble_eq_true rfl) dX8_init_33 (fun H locs h _ => ?_)
  have h : k_S D cA B M [(B + o, .inr (8, [.ref (B + (o + 1)), .ref (B + (o + 3)), .ref (B + (o + 4)), .int (w3 0), .int (w3 0)]))] o (o + 1) (([] : hq_Y) ++ (yX6 200) ++ [(13, 256)] ++ [(13, 256)]) s.heap H locs := h
  refine k_ret1 (fs := [.ref (B + (o + 1)), .ref (B + (o + 3)), .ref (B + (o + 4)), .int (w3 0), .int (w3 0)]) C h (by rw [show hq_cel SLx cA B M o (8, 0) = .inr (8, [.ref (B + (o + 1)), .ref (B + (o + 3)), .ref (B + (o + 4)), .int (w3 (M o 3)), .int (w3 (M o 4))]) from rfl, hM o 3 (by omega) (by omega), hM o 4 (by omega) (by omega)]) ⟨Nat.le_of_ble_eq_true rfl, Nat.le_of_ble_eq_true rfl⟩ dX8_init_36
theorem iX5_init_9 : ∀ w ∈ u_ws RX9 TX9 7, w ∈ wsX5_init := fun w h => List.mem_cons_of_mem _ (List.mem_append_left _ (List.mem_append_left _ (List.mem_append_right _ h)))
theorem bX5 : ∀ j, j < 3 → defaultValue (tyX5 j) = vp_V [.null, .null, .int (w3 0)] j := by
  intro j hj
  rcases (show j = 0 ∨ j = 1 ∨ j = 2 by omega) with rfl | rfl | rfl <;> rfl
theorem oX5 (k : Nat) (hk : k < 3) : ∀ Cn T N, vwCl[5]? = some (Cn, T, N) → (T k).1 = RX5 := fun Cn T N e => by
  have e1 : some (RX5, TX5, 3) = some (Cn, T, N) := e
  cases e1
  exact (by decide +kernel : ∀ k, k < 3 → (TX5 k).1 = RX5) k hk
theorem iX5_init_5 : ∀ w ∈ u_ws RX5 TX5 3, w ∈ wsX5_init := fun w h => List.mem_cons_of_mem _ (List.mem_append_left _ (List.mem_append_right _ h))
set_option maxRecDepth 20000 in
theorem fX5_init_12 : hq_fl vwCl wsX5_init RX5 12 5 0 true (.object "HeadTables$Table") := ⟨RX5, TX5, 3, tyX5, rfl, by decide, iX5_init_5, by decide +kernel, rfl, tyX5_ok 0 (by decide), tyX5_ok, nmX5⟩
theorem iX5_init_6 : ∀ w ∈ u_ws RX6 TX6 2, w ∈ wsX5_init := fun w h => List.mem_cons_of_mem _ (List.mem_append_right _ h)
set_option maxRecDepth 20000 in
theorem fX5_init_23 : hq_fl vwCl wsX5_init RX5 23 5 1 true (.object "HeadTables$Row") := ⟨RX5, TX5, 3, tyX5, rfl, by decide, iX5_init_5, by decide +kernel, rfl, tyX5_ok 1 (by decide), tyX5_ok, nmX5⟩
set_option maxHeartbeats 4000000 in
set_option maxRecDepth 100000 in
theorem k_X5 (l : Launch) {D : va_G} {cA : Nat → ClassId} {B : Nat} (M : hq_M) (o : Nat) (hM : ∀ q j, o ≤ q → q < o + 7 → M q j = 0) : k_T l yX5_init wsX5_init ({ frames := 2, cells := 6, slots := 361, locals := 60 } : Room) D cA B M o 5 [.null, .null, .int (w3 0)] [.ref (B + o)] yX5 6 361 := by
  refine k_meth (cc := cX5_init) (maxL := 1) (own := RX5) rfl (by decide +kernel) rfl rfl (Nat.le_of_ble_eq_true rfl) ?_
  intro p e s m below meth c ls C hi h hl
  have hx := C.1.1
  have hb := C.1.2.1
  have hl : lv_has ls 1 [(0, .ref (B + o))] := hl
  refine lv_aload_n hx hb dX5_init_0 rfl (lv_at hl 0 rfl) ?_
  refine k_obj C ⟨List.mem_of_getElem? (i := 1) rfl, List.mem_of_getElem? (i := 2) rfl, List.mem_of_getElem? (i := 3) rfl⟩ hl.1 dX5_init_1 ⟨Nat.le_of_ble_eq_true rfl, Nat.le_of_ble_eq_true rfl⟩ ?_
  refine lv_aload_n hx hb dX5_init_4 rfl (lv_at hl 0 rfl) ?_
  refine k_new (x := (o + 1)) (ci := 9) (fs := [.null, .null, .null, .int (w3 0), .int (w3 0), .int (w3 0), .int (w3 0)]) tyX9 C h rfl iX5_init_9 tyX9_ok ⟨by decide +kernel, by decide +kernel, by decide +kernel⟩ bX9 (Nat.le_of_ble_eq_true rfl) (Nat.le_of_ble_eq_true rfl) rfl dX5_init_5 (fun H h => ?_)
  refine lv_dup hx hb dX5_init_8 rfl ?_
  refine k_cN (n := 0) (rest := [.ref (B + (o + 1)), .ref (B + o)]) C h rfl (k_X9 l M (o + 1) (fun q j h1 h2 => hM q j (by omega) (by omega))) gX5_init_X9_init_n11 rfl ⟨rfl, rfl⟩ C.2.2.2.2.2.2.2.2.2.2.2.2 ⟨by decide +kernel, by decide +kernel⟩ rfl ⟨by decide, by decide, by decide +kernel⟩ ⟨Nat.le_of_ble_eq_true rfl, Nat.le_of_ble_eq_true rfl⟩ rfl hl.1 rfl (Nat.le_of_ble_eq_true rfl) dX5_init_9 ⟨Nat.le_of_ble_eq_true rfl, Nat.le_of_ble_eq_true rfl⟩ (fun H locs h => ?_)
  have h : k_S D cA B M [(B + o, .inr (5, [.null, .null, .int (w3 0)]))] o (o + 1) (([] : hq_Y) ++ yX9) s.heap H locs := h
  refine k_put (q0 := 0) (v := .ref (B + (o + 1))) C hi h fX5_init_12 (oX5 0 (by decide)) rfl rfl rfl (Nat.le_of_ble_eq_true rfl) dX5_init_12 (fun H locs h _ => ?_)
  have h : k_S D cA B M [(B + o, .inr (5, [.ref (B + (o + 1)), .null, .int (w3 0)]))] o (o + 1) (([] : hq_Y) ++ yX9) s.heap H locs := h
  refine lv_aload_n hx hb dX5_init_15 rfl (lv_at hl 0 rfl) ?_
  refine k_new (x := (o + 5)) (ci := 6) (fs := [.null, .int (w3 0)]) tyX6 C h rfl iX5_init_6 tyX6_ok ⟨by decide +kernel, by decide +kernel, by decide +kernel⟩ bX6 (Nat.le_of_ble_eq_true rfl) (Nat.le_of_ble_eq_true rfl) rfl dX5_init_16 (fun H h => ?_)
  refine lv_dup hx hb dX5_init_19 rfl ?_
  refine hq_sipush C dX5_init_20 (by decide) ?_
  refine k_cI (n := 1) (rest := [.ref (B + (o + 5)), .ref (B + o)]) C h rfl (k_X6 l M (o + 5) 160 160 rfl (Nat.le_of_ble_eq_true rfl) (fun q j h1 h2 => hM q j (by omega) (by omega))) gX5_init_X6_init rfl ⟨rfl, rfl⟩ ⟨by decide +kernel, by decide +kernel, by decide +kernel⟩ rfl ⟨by decide, by decide, by decide +kernel⟩ ⟨Nat.le_of_ble_eq_true rfl, Nat.le_of_ble_eq_true rfl⟩ rfl hl.1 rfl (Nat.le_of_ble_eq_true rfl) dX5_init_23 ⟨Nat.le_of_ble_eq_true rfl, Nat.le_of_ble_eq_true rfl⟩ (fun H locs h => ?_)
  have h : k_S D cA B M [(B + o, .inr (5, [.ref (B + (o + 1)), .null, .int (w3 0)]))] o (o + 1) (([] : hq_Y) ++ yX9 ++ (yX6 160)) s.heap H locs := h
  refine k_put (q0 := 0) (v := .ref (B + (o + 5))) C hi h fX5_init_23 (oX5 1 (by decide)) rfl rfl rfl (Nat.le_of_ble_eq_true rfl) dX5_init_26 (fun H locs h _ => ?_)
  have h : k_S D cA B M [(B + o, .inr (5, [.ref (B + (o + 1)), .ref (B + (o + 5)), .int (w3 0)]))] o (o + 1) (([] : hq_Y) ++ yX9 ++ (yX6 160)) s.heap H locs := h
  refine k_ret1 (fs := [.ref (B + (o + 1)), .ref (B + (o + 5)), .int (w3 0)]) C h (by rw [show hq_cel SLx cA B M o (5, 0) = .inr (5, [.ref (B + (o + 1)), .ref (B + (o + 5)), .int (w3 (M o 2))]) from rfl, hM o 2 (by omega) (by omega)]) ⟨Nat.le_of_ble_eq_true rfl, Nat.le_of_ble_eq_true rfl⟩ dX5_init_29
theorem iX10_init_9 : ∀ w ∈ u_ws RX9 TX9 7, w ∈ wsX10_init := fun w h => List.mem_cons_of_mem _ (List.mem_append_left _ (List.mem_append_left _ (List.mem_append_left _ (List.mem_append_right _ h))))
theorem bX10 : ∀ j, j < 8 → defaultValue (tyX10 j) = vp_V [.null, .null, .null, .null, .null, .int (w3 0), .int (w3 0), .int (w3 0)] j := by
  intro j hj
  rcases (show j = 0 ∨ j = 1 ∨ j = 2 ∨ j = 3 ∨ j = 4 ∨ j = 5 ∨ j = 6 ∨ j = 7 by omega) with rfl | rfl | rfl | rfl | rfl | rfl | rfl | rfl <;> rfl
theorem oX10 (k : Nat) (hk : k < 8) : ∀ Cn T N, vwCl[10]? = some (Cn, T, N) → (T k).1 = RX10 := fun Cn T N e => by
  have e1 : some (RX10, TX10, 8) = some (Cn, T, N) := e
  cases e1
  exact (by decide +kernel : ∀ k, k < 8 → (TX10 k).1 = RX10) k hk
theorem iX10_init_10 : ∀ w ∈ u_ws RX10 TX10 8, w ∈ wsX10_init := fun w h => List.mem_cons_of_mem _ (List.mem_append_left _ (List.mem_append_left _ (List.mem_append_right _ h)))
set_option maxRecDepth 20000 in
theorem fX10_init_12 : hq_fl vwCl wsX10_init RX10 12 10 0 true (.object "HeadTables$Table") := ⟨RX10, TX10, 8, tyX10, rfl, by decide, iX10_init_10, by decide +kernel, rfl, tyX10_ok 0 (by decide), tyX10_ok, nmX10⟩
theorem iX10_init_8 : ∀ w ∈ u_ws RX8 TX8 5, w ∈ wsX10_init := fun w h => List.mem_cons_of_mem _ (List.mem_append_left _ (List.mem_append_right _ h))
set_option maxRecDepth 20000 in
theorem fX10_init_21 : hq_fl vwCl wsX10_init RX10 21 10 1 true (.object "HeadTables$Stream") := ⟨RX10, TX10, 8, tyX10, rfl, by decide, iX10_init_10, by decide +kernel, rfl, tyX10_ok 1 (by decide), tyX10_ok, nmX10⟩
theorem iX10_init_6 : ∀ w ∈ u_ws RX6 TX6 2, w ∈ wsX10_init := fun w h => List.mem_cons_of_mem _ (List.mem_append_right _ h)
set_option maxRecDepth 20000 in
theorem fX10_init_30 : hq_fl vwCl wsX10_init RX10 30 10 2 true (.object "HeadTables$Row") := ⟨RX10, TX10, 8, tyX10, rfl, by decide, iX10_init_10, by decide +kernel, rfl, tyX10_ok 2 (by decide), tyX10_ok, nmX10⟩
set_option maxRecDepth 20000 in
theorem fX10_init_34 : hq_fl vwCl wsX10_init RX10 34 10 3 true (.object "HeadTables$Row") := ⟨RX10, TX10, 8, tyX10, rfl, by decide, iX10_init_10, by decide +kernel, rfl, tyX10_ok 3 (by decide), tyX10_ok, nmX10⟩
set_option maxRecDepth 20000 in
theorem fX10_init_37 : hq_fl vwCl wsX10_init RX10 37 10 4 false (.object "HeadTables$Settings") := ⟨RX10, TX10, 8, tyX10, rfl, by decide, iX10_init_10, by decide +kernel, rfl, tyX10_ok 4 (by decide), tyX10_ok, nmX10⟩
set_option maxHeartbeats 4000000 in
set_option maxRecDepth 100000 in
theorem k_X10 (l : Launch) {D : va_G} {cA : Nat → ClassId} {B : Nat} (M : hq_M) (o : Nat) (x : Nat) (hv : (M o 4).toNat = x) (hM : ∀ q j, o ≤ q → q < o + 14 → ¬ (q = o ∧ j = 4) → M q j = 0) : k_T l yX10_init wsX10_init ({ frames := 3, cells := 13, slots := 1050, locals := 110 } : Room) D cA B M o 10 [.null, .null, .null, .null, .null, .int (w3 0), .int (w3 0), .int (w3 0)] [.ref (B + o), .ref (B + x)] yX10 13 1050 := by
  refine k_meth (cc := cX10_init) (maxL := 2) (own := RX10) rfl (by decide +kernel) rfl rfl (Nat.le_of_ble_eq_true rfl) ?_
  intro p e s m below meth c ls C hi h hl
  have hx := C.1.1
  have hb := C.1.2.1
  have hl : lv_has ls 2 [(0, .ref (B + o)), (1, .ref (B + x))] := hl
  refine lv_aload_n hx hb dX10_init_0 rfl (lv_at hl 0 rfl) ?_
  refine k_obj C ⟨List.mem_of_getElem? (i := 1) rfl, List.mem_of_getElem? (i := 2) rfl, List.mem_of_getElem? (i := 3) rfl⟩ hl.1 dX10_init_1 ⟨Nat.le_of_ble_eq_true rfl, Nat.le_of_ble_eq_true rfl⟩ ?_
  refine lv_aload_n hx hb dX10_init_4 rfl (lv_at hl 0 rfl) ?_
  refine k_new (x := (o + 1)) (ci := 9) (fs := [.null, .null, .null, .int (w3 0), .int (w3 0), .int (w3 0), .int (w3 0)]) tyX9 C h rfl iX10_init_9 tyX9_ok ⟨by decide +kernel, by decide +kernel, by decide +kernel⟩ bX9 (Nat.le_of_ble_eq_true rfl) (Nat.le_of_ble_eq_true rfl) rfl dX10_init_5 (fun H h => ?_)
  refine lv_dup hx hb dX10_init_8 rfl ?_
  refine k_cN (n := 0) (rest := [.ref (B + (o + 1)), .ref (B + o)]) C h rfl (k_X9 l M (o + 1) (fun q j h1 h2 => hM q j (by omega) (by omega) (by omega))) gX10_init_X9_init_n11 rfl ⟨rfl, rfl⟩ C.2.2.2.2.2.2.2.2.2.1 ⟨by decide +kernel, by decide +kernel⟩ rfl ⟨by decide, by decide, by decide +kernel⟩ ⟨Nat.le_of_ble_eq_true rfl, Nat.le_of_ble_eq_true rfl⟩ rfl hl.1 rfl (Nat.le_of_ble_eq_true rfl) dX10_init_9 ⟨Nat.le_of_ble_eq_true rfl, Nat.le_of_ble_eq_true rfl⟩ (fun H locs h => ?_)
  have h : k_S D cA B M [(B + o, .inr (10, [.null, .null, .null, .null, .null, .int (w3 0), .int (w3 0), .int (w3 0)]))] o (o + 1) (([] : hq_Y) ++ yX9) s.heap H locs := h
  refine k_put (q0 := 0) (v := .ref (B + (o + 1))) C hi h fX10_init_12 (oX10 0 (by decide)) rfl rfl rfl (Nat.le_of_ble_eq_true rfl) dX10_init_12 (fun H locs h _ => ?_)
  have h : k_S D cA B M [(B + o, .inr (10, [.ref (B + (o + 1)), .null, .null, .null, .null, .int (w3 0), .int (w3 0), .int (w3 0)]))] o (o + 1) (([] : hq_Y) ++ yX9) s.heap H locs := h
  refine lv_aload_n hx hb dX10_init_15 rfl (lv_at hl 0 rfl) ?_
  refine k_new (x := (o + 5)) (ci := 8) (fs := [.null, .null, .null, .int (w3 0), .int (w3 0)]) tyX8 C h rfl iX10_init_8 tyX8_ok ⟨by decide +kernel, by decide +kernel, by decide +kernel⟩ bX8 (Nat.le_of_ble_eq_true rfl) (Nat.le_of_ble_eq_true rfl) rfl dX10_init_16 (fun H h => ?_)
  refine lv_dup hx hb dX10_init_19 rfl ?_
  refine k_cN (n := 0) (rest := [.ref (B + (o + 5)), .ref (B + o)]) C h rfl (k_X8 l M (o + 5) (fun q j h1 h2 => hM q j (by omega) (by omega) (by omega))) gX10_init_X8_init_n20 rfl ⟨rfl, rfl⟩ C.2.2.2.2.2.2.2.2.2.2.1 ⟨by decide +kernel, by decide +kernel⟩ rfl ⟨by decide, by decide, by decide +kernel⟩ ⟨Nat.le_of_ble_eq_true rfl, Nat.le_of_ble_eq_true rfl⟩ rfl hl.1 rfl (Nat.le_of_ble_eq_true rfl) dX10_init_20 ⟨Nat.le_of_ble_eq_true rfl, Nat.le_of_ble_eq_true rfl⟩ (fun H locs h => ?_)
  have h : k_S D cA B M [(B + o, .inr (10, [.ref (B + (o + 1)), .null, .null, .null, .null, .int (w3 0), .int (w3 0), .int (w3 0)]))] o (o + 1) (([] : hq_Y) ++ yX9 ++ yX8) s.heap H locs := h
  refine k_put (q0 := 0) (v := .ref (B + (o + 5))) C hi h fX10_init_21 (oX10 1 (by decide)) rfl rfl rfl (Nat.le_of_ble_eq_true rfl) dX10_init_23 (fun H locs h _ => ?_)
  have h : k_S D cA B M [(B + o, .inr (10, [.ref (B + (o + 1)), .ref (B + (o + 5)), .null, .null, .null, .int (w3 0), .int (w3 0), .int (w3 0)]))] o (o + 1) (([] : hq_Y) ++ yX9 ++ yX8) s.heap H locs := h
  refine lv_aload_n hx hb dX10_init_26 rfl (lv_at hl 0 rfl) ?_
  refine k_new (x := (o + 10)) (ci := 6) (fs := [.null, .int (w3 0)]) tyX6 C h rfl iX10_init_6 tyX6_ok ⟨by decide +kernel, by decide +kernel, by decide +kernel⟩ bX6 (Nat.le_of_ble_eq_true rfl) (Nat.le_of_ble_eq_true rfl) rfl dX10_init_27 (fun H h => ?_)
  refine lv_dup hx hb dX10_init_30 rfl ?_
  refine hq_bipush C dX10_init_31 (by decide) ?_
  refine k_cI (n := 1) (rest := [.ref (B + (o + 10)), .ref (B + o)]) C h rfl (k_X6 l M (o + 10) 32 32 rfl (Nat.le_of_ble_eq_true rfl) (fun q j h1 h2 => hM q j (by omega) (by omega) (by omega))) gX10_init_X6_init rfl ⟨rfl, rfl⟩ ⟨by decide +kernel, by decide +kernel, by decide +kernel⟩ rfl ⟨by decide, by decide, by decide +kernel⟩ ⟨Nat.le_of_ble_eq_true rfl, Nat.le_of_ble_eq_true rfl⟩ rfl hl.1 rfl (Nat.le_of_ble_eq_true rfl) dX10_init_33 ⟨Nat.le_of_ble_eq_true rfl, Nat.le_of_ble_eq_true rfl⟩ (fun H locs h => ?_)
  have h : k_S D cA B M [(B + o, .inr (10, [.ref (B + (o + 1)), .ref (B + (o + 5)), .null, .null, .null, .int (w3 0), .int (w3 0), .int (w3 0)]))] o (o + 1) (([] : hq_Y) ++ yX9 ++ yX8 ++ (yX6 32)) s.heap H locs := h
  refine k_put (q0 := 0) (v := .ref (B + (o + 10))) C hi h fX10_init_30 (oX10 2 (by decide)) rfl rfl rfl (Nat.le_of_ble_eq_true rfl) dX10_init_36 (fun H locs h _ => ?_)
  have h : k_S D cA B M [(B + o, .inr (10, [.ref (B + (o + 1)), .ref (B + (o + 5)), .ref (B + (o + 10)), .null, .null, .int (w3 0), .int (w3 0), .int (w3 0)]))] o (o + 1) (([] : hq_Y) ++ yX9 ++ yX8 ++ (yX6 32)) s.heap H locs := h
  refine lv_aload_n hx hb dX10_init_39 rfl (lv_at hl 0 rfl) ?_
  refine k_new (x := (o + 12)) (ci := 6) (fs := [.null, .int (w3 0)]) tyX6 C h rfl iX10_init_6 tyX6_ok ⟨by decide +kernel, by decide +kernel, by decide +kernel⟩ bX6 (Nat.le_of_ble_eq_true rfl) (Nat.le_of_ble_eq_true rfl) rfl dX10_init_40 (fun H h => ?_)
  refine lv_dup hx hb dX10_init_43 rfl ?_
  refine hq_bipush C dX10_init_44 (by decide) ?_
  refine k_cI (n := 1) (rest := [.ref (B + (o + 12)), .ref (B + o)]) C h rfl (k_X6 l M (o + 12) 96 96 rfl (Nat.le_of_ble_eq_true rfl) (fun q j h1 h2 => hM q j (by omega) (by omega) (by omega))) gX10_init_X6_init rfl ⟨rfl, rfl⟩ ⟨by decide +kernel, by decide +kernel, by decide +kernel⟩ rfl ⟨by decide, by decide, by decide +kernel⟩ ⟨Nat.le_of_ble_eq_true rfl, Nat.le_of_ble_eq_true rfl⟩ rfl hl.1 rfl (Nat.le_of_ble_eq_true rfl) dX10_init_46 ⟨Nat.le_of_ble_eq_true rfl, Nat.le_of_ble_eq_true rfl⟩ (fun H locs h => ?_)
  have h : k_S D cA B M [(B + o, .inr (10, [.ref (B + (o + 1)), .ref (B + (o + 5)), .ref (B + (o + 10)), .null, .null, .int (w3 0), .int (w3 0), .int (w3 0)]))] o (o + 1) (([] : hq_Y) ++ yX9 ++ yX8 ++ (yX6 32) ++ (yX6 96)) s.heap H locs := h
  refine k_put (q0 := 0) (v := .ref (B + (o + 12))) C hi h fX10_init_34 (oX10 3 (by decide)) rfl rfl rfl (Nat.le_of_ble_eq_true rfl) dX10_init_49 (fun H locs h _ => ?_)
  have h : k_S D cA B M [(B + o, .inr (10, [.ref (B + (o + 1)), .ref (B + (o + 5)), .ref (B + (o + 10)), .ref (B + (o + 12)), .null, .int (w3 0), .int (w3 0), .int (w3 0)]))] o (o + 1) (([] : hq_Y) ++ yX9 ++ yX8 ++ (yX6 32) ++ (yX6 96)) s.heap H locs := h
  refine lv_aload_n hx hb dX10_init_52 rfl (lv_at hl 0 rfl) ?_
  refine lv_aload_n hx hb dX10_init_53 rfl (lv_at hl 1 rfl) ?_
  refine k_put (q0 := 0) (v := .ref (B + x)) C hi h fX10_init_37 (oX10 4 (by decide)) rfl rfl rfl (Nat.le_of_ble_eq_true rfl) dX10_init_54 (fun H locs h _ => ?_)
  have h : k_S D cA B M [(B + o, .inr (10, [.ref (B + (o + 1)), .ref (B + (o + 5)), .ref (B + (o + 10)), .ref (B + (o + 12)), .ref (B + x), .int (w3 0), .int (w3 0), .int (w3 0)]))] o (o + 1) (([] : hq_Y) ++ yX9 ++ yX8 ++ (yX6 32) ++ (yX6 96)) s.heap H locs := h
  refine k_ret1 (fs := [.ref (B + (o + 1)), .ref (B + (o + 5)), .ref (B + (o + 10)), .ref (B + (o + 12)), .ref (B + x), .int (w3 0), .int (w3 0), .int (w3 0)]) C h (by rw [show hq_cel SLx cA B M o (10, 0) = .inr (10, [.ref (B + (o + 1)), .ref (B + (o + 5)), .ref (B + (o + 10)), .ref (B + (o + 12)), .ref (B + (M o 4).toNat), .int (w3 (M o 5)), .int (w3 (M o 6)), .int (w3 (M o 7))]) from rfl, hv, hM o 5 (by omega) (by omega) (by omega), hM o 6 (by omega) (by omega) (by omega), hM o 7 (by omega) (by omega) (by omega)]) ⟨Nat.le_of_ble_eq_true rfl, Nat.le_of_ble_eq_true rfl⟩ dX10_init_57
