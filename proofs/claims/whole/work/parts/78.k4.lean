/-! ===== constructors: Settings, HeadTables, HeadTablesModel (printed by wip/whole/gen/ctors.py) ===== -/
abbrev yX7 : hq_Y := ((7, 0) :: (yX3 7 ++ yX3 8))
theorem bX3 : ∀ j, j < 2 → defaultValue (tyX3 j) = vp_V [.null, .int (w3 0)] j := by
  intro j hj
  rcases (show j = 0 ∨ j = 1 by omega) with rfl | rfl <;> rfl
theorem bX1 : ∀ j, j < 2 → defaultValue (tyX1 j) = vp_V [.null, .int (w3 0)] j := by
  intro j hj
  rcases (show j = 0 ∨ j = 1 by omega) with rfl | rfl <;> rfl
theorem iX7_init_3 : ∀ w ∈ u_ws RX3 TX3 2, w ∈ wsX7_init := fun w h => List.mem_cons_of_mem _ (List.mem_append_left _ (List.mem_append_left _ (List.mem_append_left _ (List.mem_append_right _ h))))
theorem bX7 : ∀ j, j < 4 → defaultValue (tyX7 j) = vp_V [.null, .null, .int (w3 0), .int (w3 0)] j := by
  intro j hj
  rcases (show j = 0 ∨ j = 1 ∨ j = 2 ∨ j = 3 by omega) with rfl | rfl | rfl | rfl <;> rfl
theorem oX7 (k : Nat) (hk : k < 4) : ∀ Cn T N, vwCl[7]? = some (Cn, T, N) → (T k).1 = RX7 := fun Cn T N e => by
  have e1 : some (RX7, TX7, 4) = some (Cn, T, N) := e
  cases e1
  exact (by decide +kernel : ∀ k, k < 4 → (TX7 k).1 = RX7) k hk
theorem iX7_init_7 : ∀ w ∈ u_ws RX7 TX7 4, w ∈ wsX7_init := fun w h => List.mem_cons_of_mem _ (List.mem_append_left _ (List.mem_append_left _ (List.mem_append_right _ h)))
set_option maxRecDepth 20000 in
theorem fX7_init_14 : hq_fl vwCl wsX7_init RX7 14 7 0 true (.object "HeadTables$Pairs") := ⟨RX7, TX7, 4, tyX7, rfl, by decide, iX7_init_7, by decide +kernel, rfl, tyX7_ok 0 (by decide), tyX7_ok, nmX7⟩
set_option maxRecDepth 20000 in
theorem fX7_init_20 : hq_fl vwCl wsX7_init RX7 20 7 1 true (.object "HeadTables$Pairs") := ⟨RX7, TX7, 4, tyX7, rfl, by decide, iX7_init_7, by decide +kernel, rfl, tyX7_ok 1 (by decide), tyX7_ok, nmX7⟩
set_option maxRecDepth 20000 in
theorem fX7_init_23 : hq_fl vwCl wsX7_init RX7 23 7 2 false .int := ⟨RX7, TX7, 4, tyX7, rfl, by decide, iX7_init_7, by decide +kernel, rfl, tyX7_ok 2 (by decide), tyX7_ok, nmX7⟩
set_option maxRecDepth 20000 in
theorem fX7_init_27 : hq_fl vwCl wsX7_init RX7 27 7 3 false .int := ⟨RX7, TX7, 4, tyX7, rfl, by decide, iX7_init_7, by decide +kernel, rfl, tyX7_ok 3 (by decide), tyX7_ok, nmX7⟩
set_option maxHeartbeats 4000000 in
set_option maxRecDepth 100000 in
theorem k_X7 (l : Launch) {D : va_G} {cA : Nat → ClassId} {B : Nat} (M : hq_M) (o : Nat) (h2 : M o 2 = 60) (h3 : M o 3 = 2) (hM : ∀ q j, o ≤ q → q < o + 80 → ¬ (q = o ∧ (j = 2 ∨ j = 3)) → M q j = 0) : k_T l yX7_init wsX7_init ({ frames := 4, cells := 79, slots := 289, locals := 160 } : Room) D cA B M o 7 [.null, .null, .int (w3 0), .int (w3 0)] [.ref (B + o)] yX7 79 289 := by
  refine k_meth (cc := cX7_init) (maxL := 1) (own := RX7) rfl (by decide +kernel) rfl rfl (Nat.le_of_ble_eq_true rfl) ?_
  intro p e s m below meth c ls C hi h hl
  have hx := C.1.1
  have hb := C.1.2.1
  have hl : lv_has ls 1 [(0, .ref (B + o))] := hl
  refine lv_aload_n hx hb dX7_init_0 rfl (lv_at hl 0 rfl) ?_
  refine k_obj C ⟨List.mem_of_getElem? (i := 1) rfl, List.mem_of_getElem? (i := 2) rfl, List.mem_of_getElem? (i := 3) rfl⟩ hl.1 dX7_init_1 ⟨Nat.le_of_ble_eq_true rfl, Nat.le_of_ble_eq_true rfl⟩ ?_
  refine lv_aload_n hx hb dX7_init_4 rfl (lv_at hl 0 rfl) ?_
  refine k_new (x := (o + 1)) (ci := 3) (fs := [.null, .int (w3 0)]) tyX3 C h rfl iX7_init_3 tyX3_ok ⟨by decide +kernel, by decide +kernel, by decide +kernel⟩ bX3 (Nat.le_of_ble_eq_true rfl) (Nat.le_of_ble_eq_true rfl) rfl dX7_init_5 (fun H h => ?_)
  refine lv_dup hx hb dX7_init_8 rfl ?_
  refine hq_bipush C dX7_init_9 (by decide) ?_
  refine k_cI (n := 1) (rest := [.ref (B + (o + 1)), .ref (B + o)]) C h rfl (k_X3 l M (o + 1) 7 7 rfl (Nat.le_of_ble_eq_true rfl) (fun q j h1 h2 => hM q j (by omega) (by omega) (by omega))) gX7_init_X3_init rfl ⟨rfl, rfl⟩ ⟨by decide +kernel, by decide +kernel, by decide +kernel⟩ rfl ⟨by decide, by decide, by decide +kernel⟩ ⟨Nat.le_of_ble_eq_true rfl, Nat.le_of_ble_eq_true rfl⟩ rfl hl.1 rfl (Nat.le_of_ble_eq_true rfl) dX7_init_11 ⟨Nat.le_of_ble_eq_true rfl, Nat.le_of_ble_eq_true rfl⟩ (fun H locs h => ?_)
  have h : k_S D cA B M [(B + o, .inr (7, [.null, .null, .int (w3 0), .int (w3 0)]))] o (o + 1) (([] : hq_Y) ++ (yX3 7)) s.heap H locs := h
  refine k_put (q0 := 0) (v := .ref (B + (o + 1))) C hi h fX7_init_14 (oX7 0 (by decide)) rfl rfl rfl (Nat.le_of_ble_eq_true rfl) dX7_init_14 (fun H locs h _ => ?_)
  have h : k_S D cA B M [(B + o, .inr (7, [.ref (B + (o + 1)), .null, .int (w3 0), .int (w3 0)]))] o (o + 1) (([] : hq_Y) ++ (yX3 7)) s.heap H locs := h
  refine lv_aload_n hx hb dX7_init_17 rfl (lv_at hl 0 rfl) ?_
  refine k_new (x := (o + 38)) (ci := 3) (fs := [.null, .int (w3 0)]) tyX3 C h rfl iX7_init_3 tyX3_ok ⟨by decide +kernel, by decide +kernel, by decide +kernel⟩ bX3 (Nat.le_of_ble_eq_true rfl) (Nat.le_of_ble_eq_true rfl) rfl dX7_init_18 (fun H h => ?_)
  refine lv_dup hx hb dX7_init_21 rfl ?_
  refine hq_bipush C dX7_init_22 (by decide) ?_
  refine k_cI (n := 1) (rest := [.ref (B + (o + 38)), .ref (B + o)]) C h rfl (k_X3 l M (o + 38) 8 8 rfl (Nat.le_of_ble_eq_true rfl) (fun q j h1 h2 => hM q j (by omega) (by omega) (by omega))) gX7_init_X3_init rfl ⟨rfl, rfl⟩ ⟨by decide +kernel, by decide +kernel, by decide +kernel⟩ rfl ⟨by decide, by decide, by decide +kernel⟩ ⟨Nat.le_of_ble_eq_true rfl, Nat.le_of_ble_eq_true rfl⟩ rfl hl.1 rfl (Nat.le_of_ble_eq_true rfl) dX7_init_24 ⟨Nat.le_of_ble_eq_true rfl, Nat.le_of_ble_eq_true rfl⟩ (fun H locs h => ?_)
  have h : k_S D cA B M [(B + o, .inr (7, [.ref (B + (o + 1)), .null, .int (w3 0), .int (w3 0)]))] o (o + 1) (([] : hq_Y) ++ (yX3 7) ++ (yX3 8)) s.heap H locs := h
  refine k_put (q0 := 0) (v := .ref (B + (o + 38))) C hi h fX7_init_20 (oX7 1 (by decide)) rfl rfl rfl (Nat.le_of_ble_eq_true rfl) dX7_init_27 (fun H locs h _ => ?_)
  have h : k_S D cA B M [(B + o, .inr (7, [.ref (B + (o + 1)), .ref (B + (o + 38)), .int (w3 0), .int (w3 0)]))] o (o + 1) (([] : hq_Y) ++ (yX3 7) ++ (yX3 8)) s.heap H locs := h
  refine lv_aload_n hx hb dX7_init_30 rfl (lv_at hl 0 rfl) ?_
  refine hq_bipush C dX7_init_31 (by decide) ?_
  refine k_put (q0 := 0) (v := .int (w3 60)) C hi h fX7_init_23 (oX7 2 (by decide)) rfl rfl rfl (Nat.le_of_ble_eq_true rfl) dX7_init_33 (fun H locs h _ => ?_)
  have h : k_S D cA B M [(B + o, .inr (7, [.ref (B + (o + 1)), .ref (B + (o + 38)), .int (w3 60), .int (w3 0)]))] o (o + 1) (([] : hq_Y) ++ (yX3 7) ++ (yX3 8)) s.heap H locs := h
  refine lv_aload_n hx hb dX7_init_36 rfl (lv_at hl 0 rfl) ?_
  refine hq_iconst C dX7_init_37 ?_
  refine k_put (q0 := 0) (v := .int (w3 2)) C hi h fX7_init_27 (oX7 3 (by decide)) rfl rfl rfl (Nat.le_of_ble_eq_true rfl) dX7_init_38 (fun H locs h _ => ?_)
  have h : k_S D cA B M [(B + o, .inr (7, [.ref (B + (o + 1)), .ref (B + (o + 38)), .int (w3 60), .int (w3 2)]))] o (o + 1) (([] : hq_Y) ++ (yX3 7) ++ (yX3 8)) s.heap H locs := h
  refine k_ret1 (fs := [.ref (B + (o + 1)), .ref (B + (o + 38)), .int (w3 60), .int (w3 2)]) C h (by rw [show hq_cel SLx cA B M o (7, 0) = .inr (7, [.ref (B + (o + 1)), .ref (B + (o + 38)), .int (w3 (M o 2)), .int (w3 (M o 3))]) from rfl, h2, h3]) ⟨Nat.le_of_ble_eq_true rfl, Nat.le_of_ble_eq_true rfl⟩ dX7_init_41
theorem iX11_init_6 : ∀ w ∈ u_ws RX6 TX6 2, w ∈ wsX11_init := fun w h => List.mem_cons_of_mem _ (List.mem_append_left _ (List.mem_append_left _ (List.mem_append_left _ (List.mem_append_left _ (List.mem_append_left _ (List.mem_append_left _ (List.mem_append_left _ (List.mem_append_left _ (List.mem_append_left _ (List.mem_append_left _ (List.mem_append_left _ (List.mem_append_right _ h))))))))))))
theorem bX11 : ∀ j, j < 11 → defaultValue (tyX11 j) = vp_V [.null, .null, .null, .null, .null, .null, .null, .null, .null, .null, .null] j := by
  intro j hj
  rcases (show j = 0 ∨ j = 1 ∨ j = 2 ∨ j = 3 ∨ j = 4 ∨ j = 5 ∨ j = 6 ∨ j = 7 ∨ j = 8 ∨ j = 9 ∨ j = 10 by omega) with rfl | rfl | rfl | rfl | rfl | rfl | rfl | rfl | rfl | rfl | rfl <;> rfl
theorem oX11 (k : Nat) (hk : k < 11) : ∀ Cn T N, vwCl[11]? = some (Cn, T, N) → (T k).1 = RX11 := fun Cn T N e => by
  have e1 : some (RX11, TX11, 11) = some (Cn, T, N) := e
  cases e1
  exact (by decide +kernel : ∀ k, k < 11 → (TX11 k).1 = RX11) k hk
theorem iX11_init_11 : ∀ w ∈ u_ws RX11 TX11 11, w ∈ wsX11_init := fun w h => List.mem_cons_of_mem _ (List.mem_append_left _ (List.mem_append_left _ (List.mem_append_left _ (List.mem_append_left _ (List.mem_append_left _ (List.mem_append_left _ (List.mem_append_left _ (List.mem_append_left _ (List.mem_append_left _ (List.mem_append_left _ (List.mem_append_right _ h)))))))))))
set_option maxRecDepth 20000 in
theorem fX11_init_14 : hq_fl vwCl wsX11_init RX11 14 11 0 true (.object "HeadTables$Row") := ⟨RX11, TX11, 11, tyX11, rfl, by decide, iX11_init_11, by decide +kernel, rfl, tyX11_ok 0 (by decide), tyX11_ok, nmX11⟩
set_option maxRecDepth 20000 in
theorem fX11_init_18 : hq_fl vwCl wsX11_init RX11 18 11 1 true (.object "HeadTables$Row") := ⟨RX11, TX11, 11, tyX11, rfl, by decide, iX11_init_11, by decide +kernel, rfl, tyX11_ok 1 (by decide), tyX11_ok, nmX11⟩
set_option maxRecDepth 20000 in
theorem fX11_init_21 : hq_fl vwCl wsX11_init RX11 21 11 2 true (.object "HeadTables$Row") := ⟨RX11, TX11, 11, tyX11, rfl, by decide, iX11_init_11, by decide +kernel, rfl, tyX11_ok 2 (by decide), tyX11_ok, nmX11⟩
theorem iX11_init_4 : ∀ w ∈ u_ws RX4 TX4 6, w ∈ wsX11_init := fun w h => List.mem_cons_of_mem _ (List.mem_append_left _ (List.mem_append_left _ (List.mem_append_left _ (List.mem_append_left _ (List.mem_append_left _ (List.mem_append_left _ (List.mem_append_left _ (List.mem_append_left _ (List.mem_append_left _ (List.mem_append_right _ h))))))))))
set_option maxRecDepth 20000 in
theorem fX11_init_29 : hq_fl vwCl wsX11_init RX11 29 11 3 true (.object "HeadTables$Parser") := ⟨RX11, TX11, 11, tyX11, rfl, by decide, iX11_init_11, by decide +kernel, rfl, tyX11_ok 3 (by decide), tyX11_ok, nmX11⟩
theorem iX11_init_7 : ∀ w ∈ u_ws RX7 TX7 4, w ∈ wsX11_init := fun w h => List.mem_cons_of_mem _ (List.mem_append_left _ (List.mem_append_left _ (List.mem_append_left _ (List.mem_append_left _ (List.mem_append_left _ (List.mem_append_left _ (List.mem_append_left _ (List.mem_append_left _ (List.mem_append_right _ h)))))))))
set_option maxRecDepth 20000 in
theorem fX11_init_36 : hq_fl vwCl wsX11_init RX11 36 11 9 false (.object "HeadTables$Settings") := ⟨RX11, TX11, 11, tyX11, rfl, by decide, iX11_init_11, by decide +kernel, rfl, tyX11_ok 9 (by decide), tyX11_ok, nmX11⟩
set_option maxRecDepth 20000 in
theorem fX11_init_40 : hq_fl vwCl wsX11_init RX11 40 11 10 false (.object "HeadTables$Settings") := ⟨RX11, TX11, 11, tyX11, rfl, by decide, iX11_init_11, by decide +kernel, rfl, tyX11_ok 10 (by decide), tyX11_ok, nmX11⟩
theorem iX11_init_1 : ∀ w ∈ u_ws RX1 TX1 2, w ∈ wsX11_init := fun w h => List.mem_cons_of_mem _ (List.mem_append_left _ (List.mem_append_left _ (List.mem_append_left _ (List.mem_append_left _ (List.mem_append_left _ (List.mem_append_left _ (List.mem_append_left _ (List.mem_append_right _ h))))))))
set_option maxRecDepth 20000 in
theorem fX11_init_46 : hq_fl vwCl wsX11_init RX11 46 11 4 true (.object "HeadTables$Letters") := ⟨RX11, TX11, 11, tyX11, rfl, by decide, iX11_init_11, by decide +kernel, rfl, tyX11_ok 4 (by decide), tyX11_ok, nmX11⟩
theorem iX11_init_10 : ∀ w ∈ u_ws RX10 TX10 8, w ∈ wsX11_init := fun w h => List.mem_cons_of_mem _ (List.mem_append_left _ (List.mem_append_left _ (List.mem_append_left _ (List.mem_append_left _ (List.mem_append_left _ (List.mem_append_left _ (List.mem_append_right _ h)))))))
set_option maxRecDepth 20000 in
theorem fX11_init_55 : hq_fl vwCl wsX11_init RX11 55 11 5 true (.object "HeadTables$Writer") := ⟨RX11, TX11, 11, tyX11, rfl, by decide, iX11_init_11, by decide +kernel, rfl, tyX11_ok 5 (by decide), tyX11_ok, nmX11⟩
theorem iX11_init_5 : ∀ w ∈ u_ws RX5 TX5 3, w ∈ wsX11_init := fun w h => List.mem_cons_of_mem _ (List.mem_append_left _ (List.mem_append_left _ (List.mem_append_left _ (List.mem_append_left _ (List.mem_append_left _ (List.mem_append_right _ h))))))
set_option maxRecDepth 20000 in
theorem fX11_init_62 : hq_fl vwCl wsX11_init RX11 62 11 6 true (.object "HeadTables$Reader") := ⟨RX11, TX11, 11, tyX11, rfl, by decide, iX11_init_11, by decide +kernel, rfl, tyX11_ok 6 (by decide), tyX11_ok, nmX11⟩
set_option maxRecDepth 20000 in
theorem fX11_init_66 : hq_fl vwCl wsX11_init RX11 66 11 7 true (.object "HeadTables$Writer") := ⟨RX11, TX11, 11, tyX11, rfl, by decide, iX11_init_11, by decide +kernel, rfl, tyX11_ok 7 (by decide), tyX11_ok, nmX11⟩
theorem iX11_init_0 : ∀ w ∈ u_ws RX0 TX0 8, w ∈ wsX11_init := fun w h => List.mem_cons_of_mem _ (List.mem_append_left _ (List.mem_append_left _ (List.mem_append_left _ (List.mem_append_left _ (List.mem_append_right _ h)))))
set_option maxRecDepth 20000 in
theorem fX11_init_72 : hq_fl vwCl wsX11_init RX11 72 11 8 true (.object "HeadTables$Letter") := ⟨RX11, TX11, 11, tyX11, rfl, by decide, iX11_init_11, by decide +kernel, rfl, tyX11_ok 8 (by decide), tyX11_ok, nmX11⟩
abbrev yX11 : hq_Y := (11, 0) :: (([] : hq_Y) ++ (yX6 200) ++ (yX6 6) ++ (yX6 8) ++ yX4 ++ yX7 ++ yX7 ++ (yX1n 40) ++ yX10 ++ yX5 ++ yX10 ++ yX0)
theorem yX11_eq : yX11 = YC := by decide +kernel
set_option maxHeartbeats 4000000 in
set_option maxRecDepth 100000 in
theorem k_X11 (l : Launch) {D : va_G} {cA : Nat → ClassId} {B : Nat} (M : hq_M) (hk : ∀ k : Nat, k < 40 → M (168 + 2 + 5 * k) 0 = (k : Int)) (h405 : M 405 0 = 40) (a2 : M 8 2 = 60) (a3 : M 8 3 = 2) (b2 : M 88 2 = 60) (b3 : M 88 3 = 2) (w1 : (M 370 4).toNat = 8) (w2 : (M 391 4).toNat = 8) (e9 : (M 0 9).toNat = 8) (e10 : (M 0 10).toNat = 88) (hM : ∀ q j, ¬ ((j = 0 ∧ 170 ≤ q ∧ q < 370 ∧ (q - 170) % 5 = 0) ∨ (q = 405 ∧ j = 0) ∨ ((q = 8 ∨ q = 88) ∧ (j = 2 ∨ j = 3)) ∨ ((q = 370 ∨ q = 391) ∧ j = 4) ∨ (q = 0 ∧ (j = 9 ∨ j = 10))) → M q j = 0) : k_T l yX11_init wsX11_init ({ frames := 5, cells := 409, slots := 8008, locals := 210 } : Room) D cA B M 0 11 [.null, .null, .null, .null, .null, .null, .null, .null, .null, .null, .null] [.ref (B + 0)] yX11 409 8008 := by
  refine k_meth (cc := cX11_init) (maxL := 1) (own := RX11) rfl (by decide +kernel) rfl rfl (Nat.le_of_ble_eq_true rfl) ?_
  intro p e s m below meth c ls C hi h hl
  have hx := C.1.1
  have hb := C.1.2.1
  have hl : lv_has ls 1 [(0, .ref (B + 0))] := hl
  refine lv_aload_n hx hb dX11_init_0 rfl (lv_at hl 0 rfl) ?_
  refine k_obj C ⟨List.mem_of_getElem? (i := 1) rfl, List.mem_of_getElem? (i := 2) rfl, List.mem_of_getElem? (i := 3) rfl⟩ hl.1 dX11_init_1 ⟨Nat.le_of_ble_eq_true rfl, Nat.le_of_ble_eq_true rfl⟩ ?_
  refine lv_aload_n hx hb dX11_init_4 rfl (lv_at hl 0 rfl) ?_
  refine k_new (x := 1) (ci := 6) (fs := [.null, .int (w3 0)]) tyX6 C h rfl iX11_init_6 tyX6_ok ⟨by decide +kernel, by decide +kernel, by decide +kernel⟩ bX6 (Nat.le_of_ble_eq_true rfl) (Nat.le_of_ble_eq_true rfl) (by decide +kernel) dX11_init_5 (fun H h => ?_)
  refine lv_dup hx hb dX11_init_8 rfl ?_
  refine hq_sipush C dX11_init_9 (by decide) ?_
  refine k_cI (n := 1) (rest := [.ref (B + 1), .ref (B + 0)]) C h (by decide +kernel) (k_X6 l M 1 200 200 rfl (Nat.le_of_ble_eq_true rfl) (fun q j h1 h2 => hM q j (by omega))) gX11_init_X6_init rfl ⟨rfl, rfl⟩ ⟨by decide +kernel, by decide +kernel, by decide +kernel⟩ rfl ⟨by decide, by decide, by decide +kernel⟩ ⟨Nat.le_of_ble_eq_true rfl, Nat.le_of_ble_eq_true rfl⟩ rfl hl.1 rfl (Nat.le_of_ble_eq_true rfl) dX11_init_12 ⟨Nat.le_of_ble_eq_true rfl, Nat.le_of_ble_eq_true rfl⟩ (fun H locs h => ?_)
  have h : k_S D cA B M [(B + 0, .inr (11, [.null, .null, .null, .null, .null, .null, .null, .null, .null, .null, .null]))] 0 (0 + 1) (([] : hq_Y) ++ (yX6 200)) s.heap H locs := h
  refine k_put (q0 := 0) (v := .ref (B + 1)) C hi h fX11_init_14 (oX11 0 (by decide)) rfl rfl rfl (Nat.le_of_ble_eq_true rfl) dX11_init_15 (fun H locs h _ => ?_)
  have h : k_S D cA B M [(B + 0, .inr (11, [.ref (B + 1), .null, .null, .null, .null, .null, .null, .null, .null, .null, .null]))] 0 (0 + 1) (([] : hq_Y) ++ (yX6 200)) s.heap H locs := h
  refine lv_aload_n hx hb dX11_init_18 rfl (lv_at hl 0 rfl) ?_
  refine k_new (x := 3) (ci := 6) (fs := [.null, .int (w3 0)]) tyX6 C h rfl iX11_init_6 tyX6_ok ⟨by decide +kernel, by decide +kernel, by decide +kernel⟩ bX6 (Nat.le_of_ble_eq_true rfl) (Nat.le_of_ble_eq_true rfl) (by decide +kernel) dX11_init_19 (fun H h => ?_)
  refine lv_dup hx hb dX11_init_22 rfl ?_
  refine hq_bipush C dX11_init_23 (by decide) ?_
  refine k_cI (n := 1) (rest := [.ref (B + 3), .ref (B + 0)]) C h (by decide +kernel) (k_X6 l M 3 6 6 rfl (Nat.le_of_ble_eq_true rfl) (fun q j h1 h2 => hM q j (by omega))) gX11_init_X6_init rfl ⟨rfl, rfl⟩ ⟨by decide +kernel, by decide +kernel, by decide +kernel⟩ rfl ⟨by decide, by decide, by decide +kernel⟩ ⟨Nat.le_of_ble_eq_true rfl, Nat.le_of_ble_eq_true rfl⟩ rfl hl.1 rfl (Nat.le_of_ble_eq_true rfl) dX11_init_25 ⟨Nat.le_of_ble_eq_true rfl, Nat.le_of_ble_eq_true rfl⟩ (fun H locs h => ?_)
  have h : k_S D cA B M [(B + 0, .inr (11, [.ref (B + 1), .null, .null, .null, .null, .null, .null, .null, .null, .null, .null]))] 0 (0 + 1) (([] : hq_Y) ++ (yX6 200) ++ (yX6 6)) s.heap H locs := h
  refine k_put (q0 := 0) (v := .ref (B + 3)) C hi h fX11_init_18 (oX11 1 (by decide)) rfl rfl rfl (Nat.le_of_ble_eq_true rfl) dX11_init_28 (fun H locs h _ => ?_)
  have h : k_S D cA B M [(B + 0, .inr (11, [.ref (B + 1), .ref (B + 3), .null, .null, .null, .null, .null, .null, .null, .null, .null]))] 0 (0 + 1) (([] : hq_Y) ++ (yX6 200) ++ (yX6 6)) s.heap H locs := h
  refine lv_aload_n hx hb dX11_init_31 rfl (lv_at hl 0 rfl) ?_
  refine k_new (x := 5) (ci := 6) (fs := [.null, .int (w3 0)]) tyX6 C h rfl iX11_init_6 tyX6_ok ⟨by decide +kernel, by decide +kernel, by decide +kernel⟩ bX6 (Nat.le_of_ble_eq_true rfl) (Nat.le_of_ble_eq_true rfl) (by decide +kernel) dX11_init_32 (fun H h => ?_)
  refine lv_dup hx hb dX11_init_35 rfl ?_
  refine hq_bipush C dX11_init_36 (by decide) ?_
  refine k_cI (n := 1) (rest := [.ref (B + 5), .ref (B + 0)]) C h (by decide +kernel) (k_X6 l M 5 8 8 rfl (Nat.le_of_ble_eq_true rfl) (fun q j h1 h2 => hM q j (by omega))) gX11_init_X6_init rfl ⟨rfl, rfl⟩ ⟨by decide +kernel, by decide +kernel, by decide +kernel⟩ rfl ⟨by decide, by decide, by decide +kernel⟩ ⟨Nat.le_of_ble_eq_true rfl, Nat.le_of_ble_eq_true rfl⟩ rfl hl.1 rfl (Nat.le_of_ble_eq_true rfl) dX11_init_38 ⟨Nat.le_of_ble_eq_true rfl, Nat.le_of_ble_eq_true rfl⟩ (fun H locs h => ?_)
  have h : k_S D cA B M [(B + 0, .inr (11, [.ref (B + 1), .ref (B + 3), .null, .null, .null, .null, .null, .null, .null, .null, .null]))] 0 (0 + 1) (([] : hq_Y) ++ (yX6 200) ++ (yX6 6) ++ (yX6 8)) s.heap H locs := h
  refine k_put (q0 := 0) (v := .ref (B + 5)) C hi h fX11_init_21 (oX11 2 (by decide)) rfl rfl rfl (Nat.le_of_ble_eq_true rfl) dX11_init_41 (fun H locs h _ => ?_)
  have h : k_S D cA B M [(B + 0, .inr (11, [.ref (B + 1), .ref (B + 3), .ref (B + 5), .null, .null, .null, .null, .null, .null, .null, .null]))] 0 (0 + 1) (([] : hq_Y) ++ (yX6 200) ++ (yX6 6) ++ (yX6 8)) s.heap H locs := h
  refine lv_aload_n hx hb dX11_init_44 rfl (lv_at hl 0 rfl) ?_
  refine k_new (x := 7) (ci := 4) (fs := [.null, .int (w3 0), .int (w3 0), .int (w3 0), .int (w3 0), .int (w3 0)]) tyX4 C h rfl iX11_init_4 tyX4_ok ⟨by decide +kernel, by decide +kernel, by decide +kernel⟩ bX4 (Nat.le_of_ble_eq_true rfl) (Nat.le_of_ble_eq_true rfl) (by decide +kernel) dX11_init_45 (fun H h => ?_)
  refine lv_dup hx hb dX11_init_48 rfl ?_
  refine lv_aload_n hx hb dX11_init_49 rfl (lv_at hl 0 rfl) ?_
  refine k_getN (q0 := 0) (v := .ref (B + 1)) C h fX11_init_14 rfl rfl dX11_init_50 ?_
  refine k_cI (n := 1) (rest := [.ref (B + 7), .ref (B + 0)]) C h (by decide +kernel) (k_X4 l M 7 (fun q j h1 h2 => hM q j (by omega))) gX11_init_X4_init rfl ⟨rfl, rfl⟩ ⟨by decide +kernel, by decide +kernel, by decide +kernel⟩ rfl ⟨by decide, by decide, by decide +kernel⟩ ⟨Nat.le_of_ble_eq_true rfl, Nat.le_of_ble_eq_true rfl⟩ rfl hl.1 rfl (Nat.le_of_ble_eq_true rfl) dX11_init_53 ⟨Nat.le_of_ble_eq_true rfl, Nat.le_of_ble_eq_true rfl⟩ (fun H locs h => ?_)
  have h : k_S D cA B M [(B + 0, .inr (11, [.ref (B + 1), .ref (B + 3), .ref (B + 5), .null, .null, .null, .null, .null, .null, .null, .null]))] 0 (0 + 1) (([] : hq_Y) ++ (yX6 200) ++ (yX6 6) ++ (yX6 8) ++ yX4) s.heap H locs := h
  refine k_put (q0 := 0) (v := .ref (B + 7)) C hi h fX11_init_29 (oX11 3 (by decide)) rfl rfl rfl (Nat.le_of_ble_eq_true rfl) dX11_init_56 (fun H locs h _ => ?_)
  have h : k_S D cA B M [(B + 0, .inr (11, [.ref (B + 1), .ref (B + 3), .ref (B + 5), .ref (B + 7), .null, .null, .null, .null, .null, .null, .null]))] 0 (0 + 1) (([] : hq_Y) ++ (yX6 200) ++ (yX6 6) ++ (yX6 8) ++ yX4) s.heap H locs := h
  refine lv_aload_n hx hb dX11_init_59 rfl (lv_at hl 0 rfl) ?_
  refine k_new (x := 8) (ci := 7) (fs := [.null, .null, .int (w3 0), .int (w3 0)]) tyX7 C h rfl iX11_init_7 tyX7_ok ⟨by decide +kernel, by decide +kernel, by decide +kernel⟩ bX7 (Nat.le_of_ble_eq_true rfl) (Nat.le_of_ble_eq_true rfl) (by decide +kernel) dX11_init_60 (fun H h => ?_)
  refine lv_dup hx hb dX11_init_63 rfl ?_
  refine k_cN (n := 0) (rest := [.ref (B + 8), .ref (B + 0)]) C h (by decide +kernel) (k_X7 l M 8 a2 a3 (fun q j h1 h2 h3 => hM q j (by omega))) gX11_init_X7_init_n35 rfl ⟨rfl, rfl⟩ C.2.2.2.2.2.2.2.1 ⟨by decide +kernel, by decide +kernel⟩ rfl ⟨by decide, by decide, by decide +kernel⟩ ⟨Nat.le_of_ble_eq_true rfl, Nat.le_of_ble_eq_true rfl⟩ rfl hl.1 rfl (Nat.le_of_ble_eq_true rfl) dX11_init_64 ⟨Nat.le_of_ble_eq_true rfl, Nat.le_of_ble_eq_true rfl⟩ (fun H locs h => ?_)
  have h : k_S D cA B M [(B + 0, .inr (11, [.ref (B + 1), .ref (B + 3), .ref (B + 5), .ref (B + 7), .null, .null, .null, .null, .null, .null, .null]))] 0 (0 + 1) (([] : hq_Y) ++ (yX6 200) ++ (yX6 6) ++ (yX6 8) ++ yX4 ++ yX7) s.heap H locs := h
  refine k_put (q0 := 0) (v := .ref (B + 8)) C hi h fX11_init_36 (oX11 9 (by decide)) rfl rfl rfl (Nat.le_of_ble_eq_true rfl) dX11_init_67 (fun H locs h _ => ?_)
  have h : k_S D cA B M [(B + 0, .inr (11, [.ref (B + 1), .ref (B + 3), .ref (B + 5), .ref (B + 7), .null, .null, .null, .null, .null, .ref (B + 8), .null]))] 0 (0 + 1) (([] : hq_Y) ++ (yX6 200) ++ (yX6 6) ++ (yX6 8) ++ yX4 ++ yX7) s.heap H locs := h
  refine lv_aload_n hx hb dX11_init_70 rfl (lv_at hl 0 rfl) ?_
  refine k_new (x := 88) (ci := 7) (fs := [.null, .null, .int (w3 0), .int (w3 0)]) tyX7 C h rfl iX11_init_7 tyX7_ok ⟨by decide +kernel, by decide +kernel, by decide +kernel⟩ bX7 (Nat.le_of_ble_eq_true rfl) (Nat.le_of_ble_eq_true rfl) (by decide +kernel) dX11_init_71 (fun H h => ?_)
  refine lv_dup hx hb dX11_init_74 rfl ?_
  refine k_cN (n := 0) (rest := [.ref (B + 88), .ref (B + 0)]) C h (by decide +kernel) (k_X7 l M 88 b2 b3 (fun q j h1 h2 h3 => hM q j (by omega))) gX11_init_X7_init_n35 rfl ⟨rfl, rfl⟩ C.2.2.2.2.2.2.2.1 ⟨by decide +kernel, by decide +kernel⟩ rfl ⟨by decide, by decide, by decide +kernel⟩ ⟨Nat.le_of_ble_eq_true rfl, Nat.le_of_ble_eq_true rfl⟩ rfl hl.1 rfl (Nat.le_of_ble_eq_true rfl) dX11_init_75 ⟨Nat.le_of_ble_eq_true rfl, Nat.le_of_ble_eq_true rfl⟩ (fun H locs h => ?_)
  have h : k_S D cA B M [(B + 0, .inr (11, [.ref (B + 1), .ref (B + 3), .ref (B + 5), .ref (B + 7), .null, .null, .null, .null, .null, .ref (B + 8), .null]))] 0 (0 + 1) (([] : hq_Y) ++ (yX6 200) ++ (yX6 6) ++ (yX6 8) ++ yX4 ++ yX7 ++ yX7) s.heap H locs := h
  refine k_put (q0 := 0) (v := .ref (B + 88)) C hi h fX11_init_40 (oX11 10 (by decide)) rfl rfl rfl (Nat.le_of_ble_eq_true rfl) dX11_init_78 (fun H locs h _ => ?_)
  have h : k_S D cA B M [(B + 0, .inr (11, [.ref (B + 1), .ref (B + 3), .ref (B + 5), .ref (B + 7), .null, .null, .null, .null, .null, .ref (B + 8), .ref (B + 88)]))] 0 (0 + 1) (([] : hq_Y) ++ (yX6 200) ++ (yX6 6) ++ (yX6 8) ++ yX4 ++ yX7 ++ yX7) s.heap H locs := h
  refine lv_aload_n hx hb dX11_init_81 rfl (lv_at hl 0 rfl) ?_
  refine k_new (x := 168) (ci := 1) (fs := [.null, .int (w3 0)]) tyX1 C h rfl iX11_init_1 tyX1_ok ⟨by decide +kernel, by decide +kernel, by decide +kernel⟩ bX1 (Nat.le_of_ble_eq_true rfl) (Nat.le_of_ble_eq_true rfl) (by decide +kernel) dX11_init_82 (fun H h => ?_)
  refine lv_dup hx hb dX11_init_85 rfl ?_
  refine k_cI (n := 0) (rest := [.ref (B + 168), .ref (B + 0)]) C h (by decide +kernel) (k_X1 l M 168 40 rfl hk (fun q j h1 h2 h3 => hM q j (by omega))) gX11_init_X1_init rfl ⟨rfl, rfl⟩ ⟨by decide +kernel, by decide +kernel, by decide +kernel⟩ rfl ⟨by decide, by decide, by decide +kernel⟩ ⟨Nat.le_of_ble_eq_true rfl, Nat.le_of_ble_eq_true rfl⟩ rfl hl.1 rfl (Nat.le_of_ble_eq_true rfl) dX11_init_86 ⟨Nat.le_of_ble_eq_true rfl, Nat.le_of_ble_eq_true rfl⟩ (fun H locs h => ?_)
  have h : k_S D cA B M [(B + 0, .inr (11, [.ref (B + 1), .ref (B + 3), .ref (B + 5), .ref (B + 7), .null, .null, .null, .null, .null, .ref (B + 8), .ref (B + 88)]))] 0 (0 + 1) (([] : hq_Y) ++ (yX6 200) ++ (yX6 6) ++ (yX6 8) ++ yX4 ++ yX7 ++ yX7 ++ (yX1n 40)) s.heap H locs := h
  refine k_put (q0 := 0) (v := .ref (B + 168)) C hi h fX11_init_46 (oX11 4 (by decide)) rfl rfl rfl (Nat.le_of_ble_eq_true rfl) dX11_init_89 (fun H locs h _ => ?_)
  have h : k_S D cA B M [(B + 0, .inr (11, [.ref (B + 1), .ref (B + 3), .ref (B + 5), .ref (B + 7), .ref (B + 168), .null, .null, .null, .null, .ref (B + 8), .ref (B + 88)]))] 0 (0 + 1) (([] : hq_Y) ++ (yX6 200) ++ (yX6 6) ++ (yX6 8) ++ yX4 ++ yX7 ++ yX7 ++ (yX1n 40)) s.heap H locs := h
  refine lv_aload_n hx hb dX11_init_92 rfl (lv_at hl 0 rfl) ?_
  refine k_new (x := 370) (ci := 10) (fs := [.null, .null, .null, .null, .null, .int (w3 0), .int (w3 0), .int (w3 0)]) tyX10 C h rfl iX11_init_10 tyX10_ok ⟨by decide +kernel, by decide +kernel, by decide +kernel⟩ bX10 (Nat.le_of_ble_eq_true rfl) (Nat.le_of_ble_eq_true rfl) (by decide +kernel) dX11_init_93 (fun H h => ?_)
  refine lv_dup hx hb dX11_init_96 rfl ?_
  refine lv_aload_n hx hb dX11_init_97 rfl (lv_at hl 0 rfl) ?_
  refine k_getN (q0 := 0) (v := .ref (B + 8)) C h fX11_init_36 rfl rfl dX11_init_98 ?_
  refine k_cI (n := 1) (rest := [.ref (B + 370), .ref (B + 0)]) C h (by decide +kernel) (k_X10 l M 370 8 w1 (fun q j h1 h2 h3 => hM q j (by omega))) gX11_init_X10_init rfl ⟨rfl, rfl⟩ ⟨by decide +kernel, by decide +kernel, by decide +kernel⟩ rfl ⟨by decide, by decide, by decide +kernel⟩ ⟨Nat.le_of_ble_eq_true rfl, Nat.le_of_ble_eq_true rfl⟩ rfl hl.1 rfl (Nat.le_of_ble_eq_true rfl) dX11_init_101 ⟨Nat.le_of_ble_eq_true rfl, Nat.le_of_ble_eq_true rfl⟩ (fun H locs h => ?_)
  have h : k_S D cA B M [(B + 0, .inr (11, [.ref (B + 1), .ref (B + 3), .ref (B + 5), .ref (B + 7), .ref (B + 168), .null, .null, .null, .null, .ref (B + 8), .ref (B + 88)]))] 0 (0 + 1) (([] : hq_Y) ++ (yX6 200) ++ (yX6 6) ++ (yX6 8) ++ yX4 ++ yX7 ++ yX7 ++ (yX1n 40) ++ yX10) s.heap H locs := h
  refine k_put (q0 := 0) (v := .ref (B + 370)) C hi h fX11_init_55 (oX11 5 (by decide)) rfl rfl rfl (Nat.le_of_ble_eq_true rfl) dX11_init_104 (fun H locs h _ => ?_)
  have h : k_S D cA B M [(B + 0, .inr (11, [.ref (B + 1), .ref (B + 3), .ref (B + 5), .ref (B + 7), .ref (B + 168), .ref (B + 370), .null, .null, .null, .ref (B + 8), .ref (B + 88)]))] 0 (0 + 1) (([] : hq_Y) ++ (yX6 200) ++ (yX6 6) ++ (yX6 8) ++ yX4 ++ yX7 ++ yX7 ++ (yX1n 40) ++ yX10) s.heap H locs := h
  refine lv_aload_n hx hb dX11_init_107 rfl (lv_at hl 0 rfl) ?_
  refine k_new (x := 384) (ci := 5) (fs := [.null, .null, .int (w3 0)]) tyX5 C h rfl iX11_init_5 tyX5_ok ⟨by decide +kernel, by decide +kernel, by decide +kernel⟩ bX5 (Nat.le_of_ble_eq_true rfl) (Nat.le_of_ble_eq_true rfl) (by decide +kernel) dX11_init_108 (fun H h => ?_)
  refine lv_dup hx hb dX11_init_111 rfl ?_
  refine k_cN (n := 0) (rest := [.ref (B + 384), .ref (B + 0)]) C h (by decide +kernel) (k_X5 l M 384 (fun q j h1 h2 => hM q j (by omega))) gX11_init_X5_init_n61 rfl ⟨rfl, rfl⟩ C.2.2.2.2.2.2.2.2.2.2.2.1 ⟨by decide +kernel, by decide +kernel⟩ rfl ⟨by decide, by decide, by decide +kernel⟩ ⟨Nat.le_of_ble_eq_true rfl, Nat.le_of_ble_eq_true rfl⟩ rfl hl.1 rfl (Nat.le_of_ble_eq_true rfl) dX11_init_112 ⟨Nat.le_of_ble_eq_true rfl, Nat.le_of_ble_eq_true rfl⟩ (fun H locs h => ?_)
  have h : k_S D cA B M [(B + 0, .inr (11, [.ref (B + 1), .ref (B + 3), .ref (B + 5), .ref (B + 7), .ref (B + 168), .ref (B + 370), .null, .null, .null, .ref (B + 8), .ref (B + 88)]))] 0 (0 + 1) (([] : hq_Y) ++ (yX6 200) ++ (yX6 6) ++ (yX6 8) ++ yX4 ++ yX7 ++ yX7 ++ (yX1n 40) ++ yX10 ++ yX5) s.heap H locs := h
  refine k_put (q0 := 0) (v := .ref (B + 384)) C hi h fX11_init_62 (oX11 6 (by decide)) rfl rfl rfl (Nat.le_of_ble_eq_true rfl) dX11_init_115 (fun H locs h _ => ?_)
  have h : k_S D cA B M [(B + 0, .inr (11, [.ref (B + 1), .ref (B + 3), .ref (B + 5), .ref (B + 7), .ref (B + 168), .ref (B + 370), .ref (B + 384), .null, .null, .ref (B + 8), .ref (B + 88)]))] 0 (0 + 1) (([] : hq_Y) ++ (yX6 200) ++ (yX6 6) ++ (yX6 8) ++ yX4 ++ yX7 ++ yX7 ++ (yX1n 40) ++ yX10 ++ yX5) s.heap H locs := h
  refine lv_aload_n hx hb dX11_init_118 rfl (lv_at hl 0 rfl) ?_
  refine k_new (x := 391) (ci := 10) (fs := [.null, .null, .null, .null, .null, .int (w3 0), .int (w3 0), .int (w3 0)]) tyX10 C h rfl iX11_init_10 tyX10_ok ⟨by decide +kernel, by decide +kernel, by decide +kernel⟩ bX10 (Nat.le_of_ble_eq_true rfl) (Nat.le_of_ble_eq_true rfl) (by decide +kernel) dX11_init_119 (fun H h => ?_)
  refine lv_dup hx hb dX11_init_122 rfl ?_
  refine lv_aload_n hx hb dX11_init_123 rfl (lv_at hl 0 rfl) ?_
  refine k_getN (q0 := 0) (v := .ref (B + 8)) C h fX11_init_36 rfl rfl dX11_init_124 ?_
  refine k_cI (n := 1) (rest := [.ref (B + 391), .ref (B + 0)]) C h (by decide +kernel) (k_X10 l M 391 8 w2 (fun q j h1 h2 h3 => hM q j (by omega))) gX11_init_X10_init rfl ⟨rfl, rfl⟩ ⟨by decide +kernel, by decide +kernel, by decide +kernel⟩ rfl ⟨by decide, by decide, by decide +kernel⟩ ⟨Nat.le_of_ble_eq_true rfl, Nat.le_of_ble_eq_true rfl⟩ rfl hl.1 rfl (Nat.le_of_ble_eq_true rfl) dX11_init_127 ⟨Nat.le_of_ble_eq_true rfl, Nat.le_of_ble_eq_true rfl⟩ (fun H locs h => ?_)
  have h : k_S D cA B M [(B + 0, .inr (11, [.ref (B + 1), .ref (B + 3), .ref (B + 5), .ref (B + 7), .ref (B + 168), .ref (B + 370), .ref (B + 384), .null, .null, .ref (B + 8), .ref (B + 88)]))] 0 (0 + 1) (([] : hq_Y) ++ (yX6 200) ++ (yX6 6) ++ (yX6 8) ++ yX4 ++ yX7 ++ yX7 ++ (yX1n 40) ++ yX10 ++ yX5 ++ yX10) s.heap H locs := h
  refine k_put (q0 := 0) (v := .ref (B + 391)) C hi h fX11_init_66 (oX11 7 (by decide)) rfl rfl rfl (Nat.le_of_ble_eq_true rfl) dX11_init_130 (fun H locs h _ => ?_)
  have h : k_S D cA B M [(B + 0, .inr (11, [.ref (B + 1), .ref (B + 3), .ref (B + 5), .ref (B + 7), .ref (B + 168), .ref (B + 370), .ref (B + 384), .ref (B + 391), .null, .ref (B + 8), .ref (B + 88)]))] 0 (0 + 1) (([] : hq_Y) ++ (yX6 200) ++ (yX6 6) ++ (yX6 8) ++ yX4 ++ yX7 ++ yX7 ++ (yX1n 40) ++ yX10 ++ yX5 ++ yX10) s.heap H locs := h
  refine lv_aload_n hx hb dX11_init_133 rfl (lv_at hl 0 rfl) ?_
  refine k_new (x := 405) (ci := 0) (fs := [.int (w3 0), .null, .null, .int (w3 0), .int (w3 0), .int (w3 0), .int (w3 0), .int (w3 0)]) tyX0 C h rfl iX11_init_0 tyX0_ok ⟨by decide +kernel, by decide +kernel, by decide +kernel⟩ bX0 (Nat.le_of_ble_eq_true rfl) (Nat.le_of_ble_eq_true rfl) (by decide +kernel) dX11_init_134 (fun H h => ?_)
  refine lv_dup hx hb dX11_init_137 rfl ?_
  refine hq_bipush C dX11_init_138 (by decide) ?_
  refine k_cI (n := 1) (rest := [.ref (B + 405), .ref (B + 0)]) C h (by decide +kernel) (k_X0 l M 405 40 h405 (fun q j h1 h2 h3 => hM q j (by omega))) gX11_init_X0_init rfl ⟨rfl, rfl⟩ ⟨by decide +kernel, by decide +kernel, by decide +kernel⟩ rfl ⟨by decide, by decide, by decide +kernel⟩ ⟨Nat.le_of_ble_eq_true rfl, Nat.le_of_ble_eq_true rfl⟩ rfl hl.1 rfl (Nat.le_of_ble_eq_true rfl) dX11_init_140 ⟨Nat.le_of_ble_eq_true rfl, Nat.le_of_ble_eq_true rfl⟩ (fun H locs h => ?_)
  have h : k_S D cA B M [(B + 0, .inr (11, [.ref (B + 1), .ref (B + 3), .ref (B + 5), .ref (B + 7), .ref (B + 168), .ref (B + 370), .ref (B + 384), .ref (B + 391), .null, .ref (B + 8), .ref (B + 88)]))] 0 (0 + 1) (([] : hq_Y) ++ (yX6 200) ++ (yX6 6) ++ (yX6 8) ++ yX4 ++ yX7 ++ yX7 ++ (yX1n 40) ++ yX10 ++ yX5 ++ yX10 ++ yX0) s.heap H locs := h
  refine k_put (q0 := 0) (v := .ref (B + 405)) C hi h fX11_init_72 (oX11 8 (by decide)) rfl rfl rfl (Nat.le_of_ble_eq_true rfl) dX11_init_143 (fun H locs h _ => ?_)
  have h : k_S D cA B M [(B + 0, .inr (11, [.ref (B + 1), .ref (B + 3), .ref (B + 5), .ref (B + 7), .ref (B + 168), .ref (B + 370), .ref (B + 384), .ref (B + 391), .ref (B + 405), .ref (B + 8), .ref (B + 88)]))] 0 (0 + 1) (([] : hq_Y) ++ (yX6 200) ++ (yX6 6) ++ (yX6 8) ++ yX4 ++ yX7 ++ yX7 ++ (yX1n 40) ++ yX10 ++ yX5 ++ yX10 ++ yX0) s.heap H locs := h
  refine k_ret1 (fs := [.ref (B + 1), .ref (B + 3), .ref (B + 5), .ref (B + 7), .ref (B + 168), .ref (B + 370), .ref (B + 384), .ref (B + 391), .ref (B + 405), .ref (B + 8), .ref (B + 88)]) C h (by rw [show hq_cel SLx cA B M 0 (11, 0) = .inr (11, [.ref (B + 1), .ref (B + 3), .ref (B + 5), .ref (B + 7), .ref (B + 168), .ref (B + 370), .ref (B + 384), .ref (B + 391), .ref (B + 405), .ref (B + (M 0 9).toNat), .ref (B + (M 0 10).toNat)]) from rfl, e9, e10]) ⟨Nat.le_of_ble_eq_true rfl, Nat.le_of_ble_eq_true rfl⟩ dX11_init_146
/-- a call: what comes back, told at its barest -/
theorem g_go {p : Program} {l : Launch} {e : Env} {R : Room} {s : State} {m : MethodId} {args : Array Value} {below : List Frame} {meth : Method} {c : Code} {H : Heap} {locs : List Loc} {cells slots : Nat} {Q : State → Prop} {pc : Nat} {ls : Array Slot} {rest st0 : List Value} {mc ms : Nat} {Qa : State → Outcome → State → Prop} {free : Addr → Prop} (hr : va_Run p l e R s m args below meth c H locs cells slots mc ms (F0 m pc ls st0) rest Qa free)
    (kk : ∀ (v : Option Value) (st₀ t : State) (L : List Loc), st₀.heap = H → Qa st₀ (.returned v) t → (∀ q ∈ L, free q.base) → W p l e R s m args below meth c t.heap (locs ++ L) (cells + mc) (slots + ms) Q (F0 m (pc + 3) ls (v.toList ++ rest))) : W p l e R s m args below meth c H locs cells slots Q (F0 m pc ls st0) := by
  intro T hT X
  obtain ⟨v, st₀, t, T', L, h0, X', hL, e1, e2, hq, st⟩ := hr T hT X
  obtain ⟨t2, a1, b1⟩ := kk v st₀ t L h0 hq hL T' e1 X'
  exact ⟨t2, st t2 a1, b1⟩
