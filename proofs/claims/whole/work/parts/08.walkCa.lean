theorem iX6_empty_6 : ∀ w ∈ u_ws RX6 TX6 2, w ∈ wsX6_empty := fun w h => List.mem_cons_of_mem _ (List.mem_append_right _ h)
set_option maxRecDepth 20000 in
theorem fX6_empty_21 : hq_fl vwCl wsX6_empty RX6 21 6 1 false .int := ⟨RX6, TX6, 2, tyX6, rfl, by decide, iX6_empty_6, by decide +kernel, rfl, tyX6_ok 1 (by decide), tyX6_ok, nmX6⟩
set_option maxHeartbeats 4000000 in
set_option maxRecDepth 100000 in
theorem c_X6_empty (l : Launch) {D : va_G} {cA : Nat → ClassId} {B : Nat} {Z : State → Prop} (hZ : hq_Zo Z (hq_in B YC.length)) (v0 : Nat) (hv0 : YC[v0]? = some (6, 0)) (M : hq_M) (k : hq_M → Prop) (hw : w_X6_empty v0 M k) : hq_T vwCl SLx l yX6_empty wsX6_empty ({ frames := 0, cells := 0, slots := 0, locals := 0 } : Room) D cA YC B Z [.ref (B + v0)] M (hq_qv k) := by
  refine hq_meth (cc := cX6_empty) (maxL := 1) (ret := none) (own := RX6) hZ rfl (by decide +kernel) rfl (Nat.le_of_ble_eq_true rfl) ?_
  intro p e s m below meth c ls C hs hl
  have hx := C.1.1
  have hb := C.1.2.1
  unfold w_X6_empty at hw
  have hl : lv_has ls 1 [(0, .ref (B + v0))] := hl
  refine lv_aload_n hx hb dX6_empty_0 rfl (lv_at hl 0 rfl) ?_
  refine hq_iconst C dX6_empty_1 ?_
  refine hq_putI (o := v0) C hs fX6_empty_21 hv0 (by decide) rfl (by decide : rg 0) dX6_empty_2 (fun M1 eM1 H locs hs => ?_)
  have hw := hw M1 eM1
  exact hq_vret C hs hw dX6_empty_5
theorem iX6_addAll_6 : ∀ w ∈ u_ws RX6 TX6 2, w ∈ wsX6_addAll := fun w h => List.mem_cons_of_mem _ (List.mem_append_right _ h)
set_option maxRecDepth 20000 in
theorem fX6_addAll_15 : hq_fl vwCl wsX6_addAll RX6 15 6 0 true (.array .int) := ⟨RX6, TX6, 2, tyX6, rfl, by decide, iX6_addAll_6, by decide +kernel, rfl, tyX6_ok 0 (by decide), tyX6_ok, nmX6⟩
set_option maxRecDepth 20000 in
theorem fX6_addAll_21 : hq_fl vwCl wsX6_addAll RX6 21 6 1 false .int := ⟨RX6, TX6, 2, tyX6, rfl, by decide, iX6_addAll_6, by decide +kernel, rfl, tyX6_ok 1 (by decide), tyX6_ok, nmX6⟩
set_option maxHeartbeats 4000000 in
set_option maxRecDepth 100000 in
theorem cl_X6_addAll_2 {p : Program} {l : Launch} {e : Env} {s : State} {m : MethodId} {args : Array Value} {below : List Frame} {meth : Method} {c : Code} {D : va_G} {cA : Nat → ClassId} {B : Nat} {Z : State → Prop} (v0 : Nat) (hv0 : YC[v0]? = some (6, 0)) (v1 : Nat) (hv1 : YC[v1]? = some (6, 0))  {k : hq_M → Prop} (C : hq_C vwCl p m c cX6_addAll 3 s args wsX6_addAll RX6 meth none D cA (hq_in B YC.length) Z)
     : ∀ (n : Nat) (v2 : Int) (rv2 : rg v2) (M : hq_M) (H : Heap) (locs : List Loc) (ls : Array Slot), l_X6_addAll_2 v0 v1 k n v2 M → hq_S vwCl SLx D cA YC B s.heap M H locs → lv_has ls 3 [(0, .ref (B + v0)), (1, .ref (B + v1)), (2, .int (w3 v2))] → W p l e ({ frames := 0, cells := 0, slots := 0, locals := 0 } : Room) s m args below meth c H locs 0 0 (MQ below (hq_Q vwCl SLx D cA YC B (hq_qv k)) args s 0 0 (hq_in B YC.length)) (F0 m 2 ls []) := by
  have hx := C.1.1
  have hb := C.1.2.1
  intro n
  induction n with
  | zero => intro v2 rv2 M H locs ls hw hs hl; exact hw.elim
  | succ n ih =>
    intro v2 rv2 M H locs ls hw hs hl
    unfold l_X6_addAll_2 at hw
    refine lv_iload_n hx hb dX6_addAll_2 rfl (lv_at hl 2 rfl) ?_
    refine lv_aload_n hx hb dX6_addAll_3 rfl (lv_at hl 1 rfl) ?_
    refine hq_getI (o := v1) C hs fX6_addAll_21 hv1 (by decide) rfl dX6_addAll_4 (fun g1 => ?_)
    refine hq_icmp_ge (tgt := 69) C rv2 g1 dX6_addAll_7 (by decide) (fun h => ?_) (fun h => ?_)
    · have hw := hw.1 h
      exact hq_vret C hs hw dX6_addAll_69
    · have hw := hw.2 h
      refine lv_iload_n hx hb dX6_addAll_10 rfl (lv_at hl 2 rfl) ?_
      refine lv_aload_n hx hb dX6_addAll_11 rfl (lv_at hl 1 rfl) ?_
      refine hq_getR (o := v1) C hs fX6_addAll_15 hv1 (by decide) rfl dX6_addAll_12 ?_
      refine hq_alen (o := (v1 + 1)) C hs (tc_6_0 hv1) (by decide) dX6_addAll_15 ?_
      refine hq_icmp_ge (tgt := 69) C rv2 (hq_lenrg _) dX6_addAll_16 (by decide) (fun h => ?_) (fun h => ?_)
      · have hw := hw.1 h
        exact hq_vret C hs hw dX6_addAll_69
      · have hw := hw.2 h
        refine lv_aload_n hx hb dX6_addAll_19 rfl (lv_at hl 0 rfl) ?_
        refine hq_getI (o := v0) C hs fX6_addAll_21 hv0 (by decide) rfl dX6_addAll_20 (fun g2 => ?_)
        refine hq_if_lt (tgt := 69) C g2 dX6_addAll_23 (by decide) (fun h => ?_) (fun h => ?_)
        · have hw := hw.1 h
          exact hq_vret C hs hw dX6_addAll_69
        · have hw := hw.2 h
          refine lv_aload_n hx hb dX6_addAll_26 rfl (lv_at hl 0 rfl) ?_
          refine hq_getI (o := v0) C hs fX6_addAll_21 hv0 (by decide) rfl dX6_addAll_27 (fun g3 => ?_)
          refine lv_aload_n hx hb dX6_addAll_30 rfl (lv_at hl 0 rfl) ?_
          refine hq_getR (o := v0) C hs fX6_addAll_15 hv0 (by decide) rfl dX6_addAll_31 ?_
          refine hq_alen (o := (v0 + 1)) C hs (tc_6_0 hv0) (by decide) dX6_addAll_34 ?_
          refine hq_icmp_ge (tgt := 69) C g3 (hq_lenrg _) dX6_addAll_35 (by decide) (fun h => ?_) (fun h => ?_)
          · have hw := hw.1 h
            exact hq_vret C hs hw dX6_addAll_69
          · have hw := hw.2 h
            refine lv_aload_n hx hb dX6_addAll_38 rfl (lv_at hl 0 rfl) ?_
            refine hq_getR (o := v0) C hs fX6_addAll_15 hv0 (by decide) rfl dX6_addAll_39 ?_
            refine lv_aload_n hx hb dX6_addAll_42 rfl (lv_at hl 0 rfl) ?_
            refine hq_getI (o := v0) C hs fX6_addAll_21 hv0 (by decide) rfl dX6_addAll_43 (fun g4 => ?_)
            refine lv_aload_n hx hb dX6_addAll_46 rfl (lv_at hl 1 rfl) ?_
            refine hq_getR (o := v1) C hs fX6_addAll_15 hv1 (by decide) rfl dX6_addAll_47 ?_
            refine lv_iload_n hx hb dX6_addAll_50 rfl (lv_at hl 2 rfl) ?_
            obtain ⟨g5, hw⟩ := hw
            refine hq_iald (o := (v1 + 1)) C hs (tc_6_0 hv1) rv2 g5 dX6_addAll_51 (fun g6 => ?_)
            obtain ⟨g7, hw⟩ := hw
            refine hq_iast (o := (v0 + 1)) C hs (tc_6_0 hv0) g4 g7 g6 dX6_addAll_52 (fun M8 eM8 H locs hs => ?_)
            have hw := hw M8 eM8
            refine lv_aload_n hx hb dX6_addAll_53 rfl (lv_at hl 0 rfl) ?_
            refine lv_dup hx hb dX6_addAll_54 rfl ?_
            refine hq_getI (o := v0) C hs fX6_addAll_21 hv0 (by decide) rfl dX6_addAll_55 (fun g9 => ?_)
            refine hq_iconst C dX6_addAll_58 ?_
            obtain ⟨g10, hw⟩ := hw
            refine hq_iadd C dX6_addAll_59 ?_
            refine hq_putI (o := v0) C hs fX6_addAll_21 hv0 (by decide) rfl g10 dX6_addAll_60 (fun M11 eM11 H locs hs => ?_)
            have hw := hw M11 eM11
            obtain ⟨g13, hw⟩ := hw
            refine hq_iinc (k := 2) C dX6_addAll_63 hl rfl (by decide) (fun x12 ex12 ls hl => ?_)
            have hw := hw x12 ex12
            have rx12 : rg x12 := by rw [ex12]; exact g13
            have hl : lv_has ls 3 [(2, .int (w3 x12)), (0, .ref (B + v0)), (1, .ref (B + v1))] := hl
            refine hq_goto (tgt := 2) C dX6_addAll_66 (by decide) ?_
            exact ih x12 rx12 _ _ _ _ hw hs (lv_sub hl [1, 2, 0] rfl)
set_option maxHeartbeats 4000000 in
set_option maxRecDepth 100000 in
theorem c_X6_addAll (l : Launch) {D : va_G} {cA : Nat → ClassId} {B : Nat} {Z : State → Prop} (hZ : hq_Zo Z (hq_in B YC.length)) (v0 : Nat) (hv0 : YC[v0]? = some (6, 0)) (v1 : Nat) (hv1 : YC[v1]? = some (6, 0)) (M : hq_M) (k : hq_M → Prop) (hw : w_X6_addAll v0 v1 M k) : hq_T vwCl SLx l yX6_addAll wsX6_addAll ({ frames := 0, cells := 0, slots := 0, locals := 0 } : Room) D cA YC B Z [.ref (B + v0), .ref (B + v1)] M (hq_qv k) := by
  refine hq_meth (cc := cX6_addAll) (maxL := 3) (ret := none) (own := RX6) hZ rfl (by decide +kernel) rfl (Nat.le_of_ble_eq_true rfl) ?_
  intro p e s m below meth c ls C hs hl
  have hx := C.1.1
  have hb := C.1.2.1
  unfold w_X6_addAll at hw
  have hl : lv_has ls 3 [(0, .ref (B + v0)), (1, .ref (B + v1))] := hl
  refine hq_iconst C dX6_addAll_0 ?_
  refine lv_istore_n (lv' := [(2, .int (w3 0)), (0, .ref (B + v0)), (1, .ref (B + v1))]) hx hb dX6_addAll_1 rfl hl (by decide) rfl (fun ls hl => ?_)
  obtain ⟨n9, hw⟩ := hw
  refine cl_X6_addAll_2 v0 hv0 v1 hv1 C  n9 0 (by decide : rg 0) _ _ _ _ hw hs (lv_sub hl [1, 2, 0] rfl)
theorem iX0_begin_0 : ∀ w ∈ u_ws RX0 TX0 8, w ∈ wsX0_begin := fun w h => List.mem_cons_of_mem _ (List.mem_append_left _ (List.mem_append_right _ h))
set_option maxRecDepth 20000 in
theorem fX0_begin_14 : hq_fl vwCl wsX0_begin RX0 14 0 1 true (.object "HeadTables$Row") := ⟨RX0, TX0, 8, tyX0, rfl, by decide, iX0_begin_0, by decide +kernel, rfl, tyX0_ok 1 (by decide), tyX0_ok, nmX0⟩
set_option maxRecDepth 20000 in
theorem fX0_begin_20 : hq_fl vwCl wsX0_begin RX0 20 0 2 true (.object "HeadTables$Row") := ⟨RX0, TX0, 8, tyX0, rfl, by decide, iX0_begin_0, by decide +kernel, rfl, tyX0_ok 2 (by decide), tyX0_ok, nmX0⟩
set_option maxRecDepth 20000 in
theorem fX0_begin_34 : hq_fl vwCl wsX0_begin RX0 34 0 3 false .int := ⟨RX0, TX0, 8, tyX0, rfl, by decide, iX0_begin_0, by decide +kernel, rfl, tyX0_ok 3 (by decide), tyX0_ok, nmX0⟩
set_option maxRecDepth 20000 in
theorem fX0_begin_37 : hq_fl vwCl wsX0_begin RX0 37 0 4 false .int := ⟨RX0, TX0, 8, tyX0, rfl, by decide, iX0_begin_0, by decide +kernel, rfl, tyX0_ok 4 (by decide), tyX0_ok, nmX0⟩
set_option maxRecDepth 20000 in
theorem fX0_begin_40 : hq_fl vwCl wsX0_begin RX0 40 0 5 false .int := ⟨RX0, TX0, 8, tyX0, rfl, by decide, iX0_begin_0, by decide +kernel, rfl, tyX0_ok 5 (by decide), tyX0_ok, nmX0⟩
set_option maxRecDepth 20000 in
theorem fX0_begin_43 : hq_fl vwCl wsX0_begin RX0 43 0 6 false .int := ⟨RX0, TX0, 8, tyX0, rfl, by decide, iX0_begin_0, by decide +kernel, rfl, tyX0_ok 6 (by decide), tyX0_ok, nmX0⟩
set_option maxRecDepth 20000 in
theorem fX0_begin_46 : hq_fl vwCl wsX0_begin RX0 46 0 7 false .boolean := ⟨RX0, TX0, 8, tyX0, rfl, by decide, iX0_begin_0, by decide +kernel, rfl, tyX0_ok 7 (by decide), tyX0_ok, nmX0⟩
set_option maxHeartbeats 4000000 in
set_option maxRecDepth 100000 in
theorem c_X0_begin (l : Launch) {D : va_G} {cA : Nat → ClassId} {B : Nat} {Z : State → Prop} (hZ : hq_Zo Z (hq_in B YC.length)) (v0 : Nat) (hv0 : YC[v0]? = some (0, 0)) (v1 : Nat) (hv1 : YC[v1]? = some (6, 0)) (M : hq_M) (k : hq_M → Prop) (hw : w_X0_begin v0 v1 M k) : hq_T vwCl SLx l yX0_begin wsX0_begin ({ frames := 1, cells := 0, slots := 0, locals := 22 } : Room) D cA YC B Z [.ref (B + v0), .ref (B + v1)] M (hq_qv k) := by
  refine hq_meth (cc := cX0_begin) (maxL := 2) (ret := none) (own := RX0) hZ rfl (by decide +kernel) rfl (Nat.le_of_ble_eq_true rfl) ?_
  intro p e s m below meth c ls C hs hl
  have hx := C.1.1
  have hb := C.1.2.1
  unfold w_X0_begin at hw
  have hl : lv_has ls 2 [(0, .ref (B + v0)), (1, .ref (B + v1))] := hl
  refine lv_aload_n hx hb dX0_begin_0 rfl (lv_at hl 0 rfl) ?_
  refine hq_getR (o := v0) C hs fX0_begin_14 hv0 (by decide) rfl dX0_begin_1 ?_
  refine hq_cV (n := 0) (ci := 6) (o := (v0 + 1)) (qc := (TX6, 2)) C hs (c_X6_empty l C.2.2.2.2.1 (v0 + 1) (tc_0_1 hv0) _ _ hw) gX0_begin_X6_empty rfl ⟨rfl, rfl⟩ (by decide +kernel) ⟨Nat.le_of_ble_eq_true rfl, Nat.le_of_ble_eq_true rfl⟩ (tc_0_1 hv0) (by decide) rfl rfl hl.1 rfl (Nat.le_of_ble_eq_true rfl) dX0_begin_4 (hq_kv (fun M1 H locs hw hs => ?_))
  refine lv_aload_n hx hb dX0_begin_7 rfl (lv_at hl 0 rfl) ?_
  refine hq_getR (o := v0) C hs fX0_begin_14 hv0 (by decide) rfl dX0_begin_8 ?_
  refine lv_aload_n hx hb dX0_begin_11 rfl (lv_at hl 1 rfl) ?_
  refine hq_cV (n := 1) (ci := 6) (o := (v0 + 1)) (qc := (TX6, 2)) C hs (c_X6_addAll l C.2.2.2.2.1 (v0 + 1) (tc_0_1 hv0) v1 hv1 _ _ hw) gX0_begin_X6_addAll rfl ⟨rfl, rfl⟩ (by decide +kernel) ⟨Nat.le_of_ble_eq_true rfl, Nat.le_of_ble_eq_true rfl⟩ (tc_0_1 hv0) (by decide) rfl rfl hl.1 rfl (Nat.le_of_ble_eq_true rfl) dX0_begin_12 (hq_kv (fun M2 H locs hw hs => ?_))
  refine lv_aload_n hx hb dX0_begin_15 rfl (lv_at hl 0 rfl) ?_
  refine hq_getR (o := v0) C hs fX0_begin_20 hv0 (by decide) rfl dX0_begin_16 ?_
  refine hq_cV (n := 0) (ci := 6) (o := (v0 + 3)) (qc := (TX6, 2)) C hs (c_X6_empty l C.2.2.2.2.1 (v0 + 3) (tc_0_2 hv0) _ _ hw) gX0_begin_X6_empty rfl ⟨rfl, rfl⟩ (by decide +kernel) ⟨Nat.le_of_ble_eq_true rfl, Nat.le_of_ble_eq_true rfl⟩ (tc_0_2 hv0) (by decide) rfl rfl hl.1 rfl (Nat.le_of_ble_eq_true rfl) dX0_begin_19 (hq_kv (fun M3 H locs hw hs => ?_))
  refine lv_aload_n hx hb dX0_begin_22 rfl (lv_at hl 0 rfl) ?_
  refine hq_iconst C dX0_begin_23 ?_
  refine hq_putI (o := v0) C hs fX0_begin_34 hv0 (by decide) rfl (by decide : rg 0) dX0_begin_24 (fun M4 eM4 H locs hs => ?_)
  have hw := hw M4 eM4
  refine lv_aload_n hx hb dX0_begin_27 rfl (lv_at hl 0 rfl) ?_
  refine hq_iconst C dX0_begin_28 ?_
  refine hq_putI (o := v0) C hs fX0_begin_37 hv0 (by decide) rfl (by decide : rg 0) dX0_begin_29 (fun M5 eM5 H locs hs => ?_)
  have hw := hw M5 eM5
  refine lv_aload_n hx hb dX0_begin_32 rfl (lv_at hl 0 rfl) ?_
  refine hq_iconst C dX0_begin_33 ?_
  refine hq_putI (o := v0) C hs fX0_begin_40 hv0 (by decide) rfl (by decide : rg 0) dX0_begin_34 (fun M6 eM6 H locs hs => ?_)
  have hw := hw M6 eM6
  refine lv_aload_n hx hb dX0_begin_37 rfl (lv_at hl 0 rfl) ?_
  refine hq_iconst C dX0_begin_38 ?_
  refine hq_putI (o := v0) C hs fX0_begin_43 hv0 (by decide) rfl (by decide : rg 0) dX0_begin_39 (fun M7 eM7 H locs hs => ?_)
  have hw := hw M7 eM7
  refine lv_aload_n hx hb dX0_begin_42 rfl (lv_at hl 0 rfl) ?_
  refine hq_iconst C dX0_begin_43 ?_
  refine hq_putZ (o := v0) C hs fX0_begin_46 hv0 (by decide) rfl (by decide) dX0_begin_44 (fun M8 eM8 H locs hs => ?_)
  have hw := hw M8 eM8
  exact hq_vret C hs hw dX0_begin_47
theorem iX1_at_1 : ∀ w ∈ u_ws RX1 TX1 2, w ∈ wsX1_at := fun w h => List.mem_cons_of_mem _ (List.mem_append_right _ h)
set_option maxRecDepth 20000 in
theorem fX1_at_11 : hq_fl vwCl wsX1_at RX1 11 1 0 true (.array (.object "HeadTables$Letter")) := ⟨RX1, TX1, 2, tyX1, rfl, by decide, iX1_at_1, by decide +kernel, rfl, tyX1_ok 0 (by decide), tyX1_ok, nmX1⟩
set_option maxRecDepth 20000 in
theorem fX1_at_20 : hq_fl vwCl wsX1_at RX1 20 1 1 false .int := ⟨RX1, TX1, 2, tyX1, rfl, by decide, iX1_at_1, by decide +kernel, rfl, tyX1_ok 1 (by decide), tyX1_ok, nmX1⟩
set_option maxHeartbeats 4000000 in
set_option maxRecDepth 100000 in
theorem c_X1_at (l : Launch) {D : va_G} {cA : Nat → ClassId} {B : Nat} {Z : State → Prop} (hZ : hq_Zo Z (hq_in B YC.length)) (v1 : Int) (rv1 : rg v1) (M : hq_M) (k : Option Nat → Prop) (hw : w_X1_at v1 M k) : hq_T vwCl SLx l yX1_at wsX1_at ({ frames := 0, cells := 0, slots := 0, locals := 0 } : Room) D cA YC B Z [.ref (B + 168), .int (w3 v1)] M (hq_qr YC B 0 (fun z M' => M' = M ∧ k z)) := by
  refine hq_meth (cc := cX1_at) (maxL := 2) (ret := (some (.object "HeadTables$Letter"))) (own := RX1) hZ rfl (by decide +kernel) rfl (Nat.le_of_ble_eq_true rfl) ?_
  intro p e s m below meth c ls C hs hl
  have hx := C.1.1
  have hb := C.1.2.1
  unfold w_X1_at at hw
  have hl : lv_has ls 2 [(0, .ref (B + 168)), (1, .int (w3 v1))] := hl
  refine lv_iload_n hx hb dX1_at_0 rfl (lv_at hl 1 rfl) ?_
  refine hq_if_lt (tgt := 21) C rv1 dX1_at_1 (by decide) (fun h => ?_) (fun h => ?_)
  · have hw := hw.1 h
    refine lv_null hx hb dX1_at_21 ?_
    refine hq_goto (tgt := 31) C dX1_at_22 (by decide) ?_
    exact hq_aretN C hs ⟨rfl, hw⟩ dX1_at_31
  · have hw := hw.2 h
    refine lv_iload_n hx hb dX1_at_4 rfl (lv_at hl 1 rfl) ?_
    refine lv_aload_n hx hb dX1_at_5 rfl (lv_at hl 0 rfl) ?_
    refine hq_getI (o := 168) C hs fX1_at_20 tkC_168 (by decide) rfl dX1_at_6 (fun g1 => ?_)
    refine hq_icmp_ge (tgt := 21) C rv1 g1 dX1_at_9 (by decide) (fun h => ?_) (fun h => ?_)
    · have hw := hw.1 h
      refine lv_null hx hb dX1_at_21 ?_
      refine hq_goto (tgt := 31) C dX1_at_22 (by decide) ?_
      exact hq_aretN C hs ⟨rfl, hw⟩ dX1_at_31
    · have hw := hw.2 h
      refine lv_iload_n hx hb dX1_at_12 rfl (lv_at hl 1 rfl) ?_
      refine lv_aload_n hx hb dX1_at_13 rfl (lv_at hl 0 rfl) ?_
      refine hq_getR (o := 168) C hs fX1_at_11 tkC_168 (by decide) rfl dX1_at_14 ?_
      refine hq_alen (o := 169) C hs tkC_169 (by decide) dX1_at_17 ?_
      show W p l e _ s m _ below meth c _ _ 0 0 _ (F0 m _ _ (.int (w3 40) :: _))
      refine hq_icmp_lt (tgt := 25) C rv1 (by decide : rg 40) dX1_at_18 (by decide) (fun h => ?_) (fun h => ?_)
      · have hw := hw.1 h
        refine lv_aload_n hx hb dX1_at_25 rfl (lv_at hl 0 rfl) ?_
        refine hq_getR (o := 168) C hs fX1_at_11 tkC_168 (by decide) rfl dX1_at_26 ?_
        refine lv_iload_n hx hb dX1_at_29 rfl (lv_at hl 1 rfl) ?_
        obtain ⟨g2, hw⟩ := hw
        refine hq_aald (o := 169) C hs tkC_169 (by decide) rv1 g2 dX1_at_30 ?_
        have ho3 := tel_16 tkC_169 (i := v1.toNat) (by have := g2.1; have := g2.2; omega)
        obtain ⟨o3, eo3⟩ : ∃ y : Nat, y = 169 + 1 + 5 * v1.toNat := ⟨_, rfl⟩
        rw [← eo3] at ho3 ⊢
        have hw := hw o3 eo3
        exact hq_aret C hs ho3 ⟨rfl, hw⟩ dX1_at_31
      · have hw := hw.2 h
        refine lv_null hx hb dX1_at_21 ?_
        refine hq_goto (tgt := 31) C dX1_at_22 (by decide) ?_
        exact hq_aretN C hs ⟨rfl, hw⟩ dX1_at_31
theorem iX1_next_1 : ∀ w ∈ u_ws RX1 TX1 2, w ∈ wsX1_next := fun w h => List.mem_cons_of_mem _ (List.mem_append_right _ h)
set_option maxRecDepth 20000 in
theorem fX1_next_11 : hq_fl vwCl wsX1_next RX1 11 1 0 true (.array (.object "HeadTables$Letter")) := ⟨RX1, TX1, 2, tyX1, rfl, by decide, iX1_next_1, by decide +kernel, rfl, tyX1_ok 0 (by decide), tyX1_ok, nmX1⟩
set_option maxRecDepth 20000 in
theorem fX1_next_20 : hq_fl vwCl wsX1_next RX1 20 1 1 false .int := ⟨RX1, TX1, 2, tyX1, rfl, by decide, iX1_next_1, by decide +kernel, rfl, tyX1_ok 1 (by decide), tyX1_ok, nmX1⟩
set_option maxHeartbeats 4000000 in
set_option maxRecDepth 100000 in
theorem c_X1_next (l : Launch) {D : va_G} {cA : Nat → ClassId} {B : Nat} {Z : State → Prop} (hZ : hq_Zo Z (hq_in B YC.length))  (M : hq_M) (k : Option Nat → Prop) (hw : w_X1_next  M k) : hq_T vwCl SLx l yX1_next wsX1_next ({ frames := 0, cells := 0, slots := 0, locals := 0 } : Room) D cA YC B Z [.ref (B + 168)] M (hq_qr YC B 0 (fun z M' => M' = M ∧ k z)) := by
  refine hq_meth (cc := cX1_next) (maxL := 1) (ret := (some (.object "HeadTables$Letter"))) (own := RX1) hZ rfl (by decide +kernel) rfl (Nat.le_of_ble_eq_true rfl) ?_
  intro p e s m below meth c ls C hs hl
  have hx := C.1.1
  have hb := C.1.2.1
  unfold w_X1_next at hw
  have hl : lv_has ls 1 [(0, .ref (B + 168))] := hl
  refine lv_aload_n hx hb dX1_next_0 rfl (lv_at hl 0 rfl) ?_
  refine hq_getI (o := 168) C hs fX1_next_20 tkC_168 (by decide) rfl dX1_next_1 (fun g1 => ?_)
  refine hq_if_lt (tgt := 19) C g1 dX1_next_4 (by decide) (fun h => ?_) (fun h => ?_)
  · have hw := hw.1 h
    refine lv_null hx hb dX1_next_19 ?_
    refine hq_goto (tgt := 32) C dX1_next_20 (by decide) ?_
    exact hq_aretN C hs ⟨rfl, hw⟩ dX1_next_32
  · have hw := hw.2 h
    refine lv_aload_n hx hb dX1_next_7 rfl (lv_at hl 0 rfl) ?_
    refine hq_getI (o := 168) C hs fX1_next_20 tkC_168 (by decide) rfl dX1_next_8 (fun g2 => ?_)
    refine lv_aload_n hx hb dX1_next_11 rfl (lv_at hl 0 rfl) ?_
    refine hq_getR (o := 168) C hs fX1_next_11 tkC_168 (by decide) rfl dX1_next_12 ?_
    refine hq_alen (o := 169) C hs tkC_169 (by decide) dX1_next_15 ?_
    show W p l e _ s m _ below meth c _ _ 0 0 _ (F0 m _ _ (.int (w3 40) :: _))
    refine hq_icmp_lt (tgt := 23) C g2 (by decide : rg 40) dX1_next_16 (by decide) (fun h => ?_) (fun h => ?_)
    · have hw := hw.1 h
      refine lv_aload_n hx hb dX1_next_23 rfl (lv_at hl 0 rfl) ?_
      refine hq_getR (o := 168) C hs fX1_next_11 tkC_168 (by decide) rfl dX1_next_24 ?_
      refine lv_aload_n hx hb dX1_next_27 rfl (lv_at hl 0 rfl) ?_
      refine hq_getI (o := 168) C hs fX1_next_20 tkC_168 (by decide) rfl dX1_next_28 (fun g3 => ?_)
      obtain ⟨g4, hw⟩ := hw
      refine hq_aald (o := 169) C hs tkC_169 (by decide) g3 g4 dX1_next_31 ?_
      have ho5 := tel_16 tkC_169 (i := (M 168 1).toNat) (by have := g4.1; have := g4.2; omega)
      obtain ⟨o5, eo5⟩ : ∃ y : Nat, y = 169 + 1 + 5 * (M 168 1).toNat := ⟨_, rfl⟩
      rw [← eo5] at ho5 ⊢
      have hw := hw o5 eo5
      exact hq_aret C hs ho5 ⟨rfl, hw⟩ dX1_next_32
    · have hw := hw.2 h
      refine lv_null hx hb dX1_next_19 ?_
      refine hq_goto (tgt := 32) C dX1_next_20 (by decide) ?_
      exact hq_aretN C hs ⟨rfl, hw⟩ dX1_next_32
theorem iX1_atRisk_0 : ∀ w ∈ u_ws RX0 TX0 8, w ∈ wsX1_atRisk := fun w h => List.mem_cons_of_mem _ (List.mem_append_right _ h)
theorem iX1_atRisk_1 : ∀ w ∈ u_ws RX1 TX1 2, w ∈ wsX1_atRisk := fun w h => List.mem_cons_of_mem _ (List.mem_append_left _ (List.mem_append_right _ h))
set_option maxRecDepth 20000 in
theorem fX1_atRisk_20 : hq_fl vwCl wsX1_atRisk RX1 20 1 1 false .int := ⟨RX1, TX1, 2, tyX1, rfl, by decide, iX1_atRisk_1, by decide +kernel, rfl, tyX1_ok 1 (by decide), tyX1_ok, nmX1⟩
set_option maxRecDepth 20000 in
theorem fX1_atRisk_28 : hq_fl vwCl wsX1_atRisk RX1 28 0 7 false .boolean := ⟨RX0, TX0, 8, tyX0, rfl, by decide, iX1_atRisk_0, by decide +kernel, rfl, tyX0_ok 7 (by decide), tyX0_ok, nmX0⟩
set_option maxRecDepth 20000 in
theorem fX1_atRisk_32 : hq_fl vwCl wsX1_atRisk RX1 32 0 3 false .int := ⟨RX0, TX0, 8, tyX0, rfl, by decide, iX1_atRisk_0, by decide +kernel, rfl, tyX0_ok 3 (by decide), tyX0_ok, nmX0⟩
set_option maxHeartbeats 4000000 in
set_option maxRecDepth 100000 in
theorem cb_X1_atRisk_44 {p : Program} {l : Launch} {e : Env} {s : State} {m : MethodId} {args : Array Value} {below : List Frame} {meth : Method} {c : Code} {D : va_G} {cA : Nat → ClassId} {B : Nat} {Z : State → Prop} (v1 : Int) (rv1 : rg v1) (v2 : Int) (rv2 : rg v2) (v3 : Int) (rv3 : rg v3) {k_4 : Int → Int → Prop} {k : Int → Prop} {M : hq_M} {H : Heap} {locs : List Loc} {ls : Array Slot} (C : hq_C vwCl p m c cX1_atRisk 5 s args wsX1_atRisk RX1 meth (some .int) D cA (hq_in B YC.length) Z)
    (hw : b_X1_atRisk_44 v1 v2 v3 k_4 k M) (hs : hq_S vwCl SLx D cA YC B s.heap M H locs) (hl : lv_has ls 5 [(0, .ref (B + 168)), (1, .int (w3 v1)), (2, .int (w3 v2)), (3, .int (w3 v3))])
    (hk_4 : ∀ (y2 : Int) (ry2 : rg y2) (y3 : Int) (ry3 : rg y3) (H : Heap) (locs : List Loc) (ls : Array Slot), k_4 y2 y3 → hq_S vwCl SLx D cA YC B s.heap M H locs → lv_has ls 5 [(0, .ref (B + 168)), (1, .int (w3 v1)), (2, .int (w3 y2)), (3, .int (w3 y3))] → W p l e ({ frames := 1, cells := 0, slots := 0, locals := 21 } : Room) s m args below meth c H locs 0 0 (MQ below (hq_Q vwCl SLx D cA YC B (hq_qi (fun z M' => M' = M ∧ k z))) args s 0 0 (hq_in B YC.length)) (F0 m 4 ls [])) : W p l e ({ frames := 1, cells := 0, slots := 0, locals := 21 } : Room) s m args below meth c H locs 0 0 (MQ below (hq_Q vwCl SLx D cA YC B (hq_qi (fun z M' => M' = M ∧ k z))) args s 0 0 (hq_in B YC.length)) (F0 m 44 ls []) := by
  have hx := C.1.1
  have hb := C.1.2.1
  unfold b_X1_atRisk_44 at hw
  obtain ⟨g2, hw⟩ := hw
  refine hq_iinc (k := 3) C dX1_atRisk_44 hl rfl (by decide) (fun x1 ex1 ls hl => ?_)
  have hw := hw x1 ex1
  have rx1 : rg x1 := by rw [ex1]; exact g2
  have hl : lv_has ls 5 [(3, .int (w3 x1)), (0, .ref (B + 168)), (1, .int (w3 v1)), (2, .int (w3 v2))] := hl
  refine hq_goto (tgt := 4) C dX1_atRisk_47 (by decide) ?_
  exact hk_4 v2 rv2 x1 rx1 _ _ _ hw hs (lv_sub hl [1, 2, 3, 0] rfl)
set_option maxHeartbeats 4000000 in
set_option maxRecDepth 100000 in
theorem cl_X1_atRisk_4 {p : Program} {l : Launch} {e : Env} {s : State} {m : MethodId} {args : Array Value} {below : List Frame} {meth : Method} {c : Code} {D : va_G} {cA : Nat → ClassId} {B : Nat} {Z : State → Prop} (v1 : Int) (rv1 : rg v1)  {k : Int → Prop} {M : hq_M} (C : hq_C vwCl p m c cX1_atRisk 5 s args wsX1_atRisk RX1 meth (some .int) D cA (hq_in B YC.length) Z)
     : ∀ (n : Nat) (v2 : Int) (rv2 : rg v2) (v3 : Int) (rv3 : rg v3) (H : Heap) (locs : List Loc) (ls : Array Slot), l_X1_atRisk_4 v1 k M n v2 v3 → hq_S vwCl SLx D cA YC B s.heap M H locs → lv_has ls 5 [(0, .ref (B + 168)), (1, .int (w3 v1)), (2, .int (w3 v2)), (3, .int (w3 v3))] → W p l e ({ frames := 1, cells := 0, slots := 0, locals := 21 } : Room) s m args below meth c H locs 0 0 (MQ below (hq_Q vwCl SLx D cA YC B (hq_qi (fun z M' => M' = M ∧ k z))) args s 0 0 (hq_in B YC.length)) (F0 m 4 ls []) := by
  have hx := C.1.1
  have hb := C.1.2.1
  intro n
  induction n with
  | zero => intro v2 rv2 v3 rv3 H locs ls hw hs hl; exact hw.elim
  | succ n ih =>
    intro v2 rv2 v3 rv3 H locs ls hw hs hl
    unfold l_X1_atRisk_4 at hw
    refine lv_iload_n hx hb dX1_atRisk_4 rfl (lv_at hl 3 rfl) ?_
    refine lv_aload_n hx hb dX1_atRisk_5 rfl (lv_at hl 0 rfl) ?_
    refine hq_getI (o := 168) C hs fX1_atRisk_20 tkC_168 (by decide) rfl dX1_atRisk_6 (fun g1 => ?_)
    refine hq_icmp_ge (tgt := 50) C rv3 g1 dX1_atRisk_9 (by decide) (fun h => ?_) (fun h => ?_)
    · have hw := hw.1 h
      refine lv_iload_n hx hb dX1_atRisk_50 rfl (lv_at hl 2 rfl) ?_
      exact hq_iret C hs rv2 ⟨rfl, hw⟩ dX1_atRisk_51
    · have hw := hw.2 h
      refine lv_aload_n hx hb dX1_atRisk_12 rfl (lv_at hl 0 rfl) ?_
      refine lv_iload_n hx hb dX1_atRisk_13 rfl (lv_at hl 3 rfl) ?_
      refine hq_cV (n := 1) (ci := 1) (o := 168) (qc := (TX1, 2)) C hs (c_X1_at l C.2.2.2.2.1 v3 rv3 _ _ hw) gX1_atRisk_X1_at rfl ⟨rfl, rfl⟩ (by decide +kernel) ⟨Nat.le_of_ble_eq_true rfl, Nat.le_of_ble_eq_true rfl⟩ tkC_168 (by decide) rfl rfl hl.1 rfl (Nat.le_of_ble_eq_true rfl) dX1_atRisk_14 (hq_kr (fun M9 H locs hw hs => ?_) (fun o2 M9 H locs ho2 hw hs => ?_))
      · obtain ⟨e9, hw⟩ := hw; rw [e9] at hs
        have hw := hw.1 rfl
        refine lv_astoreN (lv' := [(4, .null), (0, .ref (B + 168)), (1, .int (w3 v1)), (2, .int (w3 v2)), (3, .int (w3 v3))]) hx hb dX1_atRisk_17 hl (by decide) rfl (fun ls hl => ?_)
        refine lv_aloadN hx hb dX1_atRisk_19 (lv_at hl 0 rfl) ?_
        refine lv_ifnullN (tgt := 44) hx hb dX1_atRisk_21 (by decide) ?_
        refine cb_X1_atRisk_44 v1 rv1 v2 rv2 v3 rv3 C hw hs (lv_sub hl [1, 2, 3, 4] rfl) ?_
        · intro y2 ry2 y3 ry3 H locs ls hw hs hl
          exact ih y2 ry2 y3 ry3 _ _ _ hw hs (lv_sub hl [0, 1, 2, 3] rfl)
      · obtain ⟨e9, hw⟩ := hw; rw [e9] at hs
        have hw := hw.2 o2 rfl
        refine lv_astore (lv' := [(4, .ref (B + o2)), (0, .ref (B + 168)), (1, .int (w3 v1)), (2, .int (w3 v2)), (3, .int (w3 v3))]) hx hb dX1_atRisk_17 hl (by decide) rfl (fun ls hl => ?_)
        refine lv_aload hx hb dX1_atRisk_19 (lv_at hl 0 rfl) ?_
        refine lv_ifnull hx hb dX1_atRisk_21 ?_
        refine lv_aload hx hb dX1_atRisk_24 (lv_at hl 0 rfl) ?_
        refine hq_getZ (o := o2) C hs fX1_atRisk_28 ho2 (by decide) rfl dX1_atRisk_26 (fun g4 => ?_)
        refine hq_if_ne (tgt := 44) C (rb_rg g4) dX1_atRisk_29 (by decide) (fun h => ?_) (fun h => ?_)
        · have hw := hw.1 h
          refine cb_X1_atRisk_44 v1 rv1 v2 rv2 v3 rv3 C hw hs (lv_sub hl [1, 2, 3, 4] rfl) ?_
          · intro y2 ry2 y3 ry3 H locs ls hw hs hl
            exact ih y2 ry2 y3 ry3 _ _ _ hw hs (lv_sub hl [0, 1, 2, 3] rfl)
        · have hw := hw.2 h
          refine lv_aload hx hb dX1_atRisk_32 (lv_at hl 0 rfl) ?_
          refine hq_getI (o := o2) C hs fX1_atRisk_32 ho2 (by decide) rfl dX1_atRisk_34 (fun g5 => ?_)
          refine lv_iload_n hx hb dX1_atRisk_37 rfl (lv_at hl 2 rfl) ?_
          refine hq_icmp_le (tgt := 44) C g5 rv1 dX1_atRisk_38 (by decide) (fun h => ?_) (fun h => ?_)
          · have hw := hw.1 h
            refine cb_X1_atRisk_44 v1 rv1 v2 rv2 v3 rv3 C hw hs (lv_sub hl [1, 2, 3, 4] rfl) ?_
            · intro y2 ry2 y3 ry3 H locs ls hw hs hl
              exact ih y2 ry2 y3 ry3 _ _ _ hw hs (lv_sub hl [0, 1, 2, 3] rfl)
          · have hw := hw.2 h
            obtain ⟨g7, hw⟩ := hw
            refine hq_iinc (k := 3) C dX1_atRisk_41 hl rfl (by decide) (fun x6 ex6 ls hl => ?_)
            have hw := hw x6 ex6
            have rx6 : rg x6 := by rw [ex6]; exact g7
            have hl : lv_has ls 5 [(2, .int (w3 x6)), (4, .ref (B + o2)), (0, .ref (B + 168)), (1, .int (w3 v1)), (3, .int (w3 v3))] := hl
            refine cb_X1_atRisk_44 v1 rv1 x6 rx6 v3 rv3 C hw hs (lv_sub hl [2, 3, 0, 4] rfl) ?_
            · intro y2 ry2 y3 ry3 H locs ls hw hs hl
              exact ih y2 ry2 y3 ry3 _ _ _ hw hs (lv_sub hl [0, 1, 2, 3] rfl)
set_option maxHeartbeats 4000000 in
set_option maxRecDepth 100000 in
theorem c_X1_atRisk (l : Launch) {D : va_G} {cA : Nat → ClassId} {B : Nat} {Z : State → Prop} (hZ : hq_Zo Z (hq_in B YC.length)) (v1 : Int) (rv1 : rg v1) (M : hq_M) (k : Int → Prop) (hw : w_X1_atRisk v1 M k) : hq_T vwCl SLx l yX1_atRisk wsX1_atRisk ({ frames := 1, cells := 0, slots := 0, locals := 21 } : Room) D cA YC B Z [.ref (B + 168), .int (w3 v1)] M (hq_qi (fun z M' => M' = M ∧ k z)) := by
  refine hq_meth (cc := cX1_atRisk) (maxL := 5) (ret := (some .int)) (own := RX1) hZ rfl (by decide +kernel) rfl (Nat.le_of_ble_eq_true rfl) ?_
  intro p e s m below meth c ls C hs hl
  have hx := C.1.1
  have hb := C.1.2.1
  unfold w_X1_atRisk at hw
  have hl : lv_has ls 5 [(0, .ref (B + 168)), (1, .int (w3 v1))] := hl
  refine hq_iconst C dX1_atRisk_0 ?_
  refine lv_istore_n (lv' := [(2, .int (w3 0)), (0, .ref (B + 168)), (1, .int (w3 v1))]) hx hb dX1_atRisk_1 rfl hl (by decide) rfl (fun ls hl => ?_)
  refine hq_iconst C dX1_atRisk_2 ?_
  refine lv_istore_n (lv' := [(3, .int (w3 0)), (2, .int (w3 0)), (0, .ref (B + 168)), (1, .int (w3 v1))]) hx hb dX1_atRisk_3 rfl hl (by decide) rfl (fun ls hl => ?_)
  obtain ⟨n9, hw⟩ := hw
  refine cl_X1_atRisk_4 v1 rv1 C  n9 0 (by decide : rg 0) 0 (by decide : rg 0) _ _ _ hw hs (lv_sub hl [2, 3, 1, 0] rfl)
theorem iX1_isBlocked_0 : ∀ w ∈ u_ws RX0 TX0 8, w ∈ wsX1_isBlocked := fun w h => List.mem_cons_of_mem _ (List.mem_append_left _ (List.mem_append_right _ h))
set_option maxRecDepth 20000 in
theorem fX1_isBlocked_35 : hq_fl vwCl wsX1_isBlocked RX1 35 0 6 false .int := ⟨RX0, TX0, 8, tyX0, rfl, by decide, iX1_isBlocked_0, by decide +kernel, rfl, tyX0_ok 6 (by decide), tyX0_ok, nmX0⟩
set_option maxHeartbeats 4000000 in
set_option maxRecDepth 100000 in
theorem c_X1_isBlocked (l : Launch) {D : va_G} {cA : Nat → ClassId} {B : Nat} {Z : State → Prop} (hZ : hq_Zo Z (hq_in B YC.length)) (v1 : Int) (rv1 : rg v1) (M : hq_M) (k : Int → Prop) (hw : w_X1_isBlocked v1 M k) : hq_T vwCl SLx l yX1_isBlocked wsX1_isBlocked ({ frames := 1, cells := 0, slots := 0, locals := 21 } : Room) D cA YC B Z [.ref (B + 168), .int (w3 v1)] M (hq_qz (fun z M' => M' = M ∧ k z)) := by
  refine hq_meth (cc := cX1_isBlocked) (maxL := 3) (ret := (some .boolean)) (own := RX1) hZ rfl (by decide +kernel) rfl (Nat.le_of_ble_eq_true rfl) ?_
  intro p e s m below meth c ls C hs hl
  have hx := C.1.1
  have hb := C.1.2.1
  unfold w_X1_isBlocked at hw
  have hl : lv_has ls 3 [(0, .ref (B + 168)), (1, .int (w3 v1))] := hl
  refine lv_aload_n hx hb dX1_isBlocked_0 rfl (lv_at hl 0 rfl) ?_
  refine lv_iload_n hx hb dX1_isBlocked_1 rfl (lv_at hl 1 rfl) ?_
  refine hq_cV (n := 1) (ci := 1) (o := 168) (qc := (TX1, 2)) C hs (c_X1_at l C.2.2.2.2.1 v1 rv1 _ _ hw) gX1_isBlocked_X1_at rfl ⟨rfl, rfl⟩ (by decide +kernel) ⟨Nat.le_of_ble_eq_true rfl, Nat.le_of_ble_eq_true rfl⟩ tkC_168 (by decide) rfl rfl hl.1 rfl (Nat.le_of_ble_eq_true rfl) dX1_isBlocked_2 (hq_kr (fun M9 H locs hw hs => ?_) (fun o1 M9 H locs ho1 hw hs => ?_))
  · obtain ⟨e9, hw⟩ := hw; rw [e9] at hs
    have hw := hw.1 rfl
    refine lv_astore_nN (lv' := [(2, .null), (0, .ref (B + 168)), (1, .int (w3 v1))]) hx hb dX1_isBlocked_5 rfl hl (by decide) rfl (fun ls hl => ?_)
    refine lv_aload_nN hx hb dX1_isBlocked_6 rfl (lv_at hl 0 rfl) ?_
    refine lv_ifnullN (tgt := 22) hx hb dX1_isBlocked_7 (by decide) ?_
    refine hq_iconst C dX1_isBlocked_22 ?_
    exact hq_zret C hs (by decide) ⟨rfl, hw⟩ dX1_isBlocked_23
  · obtain ⟨e9, hw⟩ := hw; rw [e9] at hs
    have hw := hw.2 o1 rfl
    refine lv_astore_n (lv' := [(2, .ref (B + o1)), (0, .ref (B + 168)), (1, .int (w3 v1))]) hx hb dX1_isBlocked_5 rfl hl (by decide) rfl (fun ls hl => ?_)
    refine lv_aload_n hx hb dX1_isBlocked_6 rfl (lv_at hl 0 rfl) ?_
    refine lv_ifnull hx hb dX1_isBlocked_7 ?_
    refine lv_aload_n hx hb dX1_isBlocked_10 rfl (lv_at hl 0 rfl) ?_
    refine hq_getI (o := o1) C hs fX1_isBlocked_35 ho1 (by decide) rfl dX1_isBlocked_11 (fun g3 => ?_)
    refine hq_iconst C dX1_isBlocked_14 ?_
    refine hq_icmp_ne (tgt := 22) C g3 (by decide : rg 1) dX1_isBlocked_15 (by decide) (fun h => ?_) (fun h => ?_)
    · have hw := hw.1 h
      refine hq_iconst C dX1_isBlocked_22 ?_
      exact hq_zret C hs (by decide) ⟨rfl, hw⟩ dX1_isBlocked_23
    · have hw := hw.2 h
      refine hq_iconst C dX1_isBlocked_18 ?_
      refine hq_goto (tgt := 23) C dX1_isBlocked_19 (by decide) ?_
      exact hq_zret C hs (by decide) ⟨rfl, hw⟩ dX1_isBlocked_23
theorem iX1_blocked_1 : ∀ w ∈ u_ws RX1 TX1 2, w ∈ wsX1_blocked := fun w h => List.mem_cons_of_mem _ (List.mem_append_left _ (List.mem_append_right _ h))
set_option maxRecDepth 20000 in
theorem fX1_blocked_20 : hq_fl vwCl wsX1_blocked RX1 20 1 1 false .int := ⟨RX1, TX1, 2, tyX1, rfl, by decide, iX1_blocked_1, by decide +kernel, rfl, tyX1_ok 1 (by decide), tyX1_ok, nmX1⟩
set_option maxHeartbeats 4000000 in
set_option maxRecDepth 100000 in
theorem cb_X1_blocked_26 {p : Program} {l : Launch} {e : Env} {s : State} {m : MethodId} {args : Array Value} {below : List Frame} {meth : Method} {c : Code} {D : va_G} {cA : Nat → ClassId} {B : Nat} {Z : State → Prop} (v2 : Int) (rv2 : rg v2) (t0 : Int) (rt0 : rg t0) (t1 : Int) (rt1 : rb t1) {k_4 : Int → Int → Prop} {k : Int → Prop} {M : hq_M} {H : Heap} {locs : List Loc} {ls : Array Slot} (C : hq_C vwCl p m c cX1_blocked 3 s args wsX1_blocked RX1 meth (some .int) D cA (hq_in B YC.length) Z)
    (hw : b_X1_blocked_26 v2 t0 t1 k_4 k M) (hs : hq_S vwCl SLx D cA YC B s.heap M H locs) (hl : lv_has ls 3 [(0, .ref (B + 168)), (2, .int (w3 v2))])
    (hk_4 : ∀ (y1 : Int) (ry1 : rg y1) (y2 : Int) (ry2 : rg y2) (H : Heap) (locs : List Loc) (ls : Array Slot), k_4 y1 y2 → hq_S vwCl SLx D cA YC B s.heap M H locs → lv_has ls 3 [(0, .ref (B + 168)), (1, .int (w3 y1)), (2, .int (w3 y2))] → W p l e ({ frames := 2, cells := 0, slots := 0, locals := 43 } : Room) s m args below meth c H locs 0 0 (MQ below (hq_Q vwCl SLx D cA YC B (hq_qi (fun z M' => M' = M ∧ k z))) args s 0 0 (hq_in B YC.length)) (F0 m 4 ls [])) : W p l e ({ frames := 2, cells := 0, slots := 0, locals := 43 } : Room) s m args below meth c H locs 0 0 (MQ below (hq_Q vwCl SLx D cA YC B (hq_qi (fun z M' => M' = M ∧ k z))) args s 0 0 (hq_in B YC.length)) (F0 m 26 ls [.int (w3 t1), .int (w3 t0)]) := by
  have hx := C.1.1
  have hb := C.1.2.1
  unfold b_X1_blocked_26 at hw
  obtain ⟨g1, hw⟩ := hw
  refine hq_iadd C dX1_blocked_26 ?_
  refine hq_nm (fun x2 ex2 => ?_)
  have hw := hw x2 ex2
  have rx2 : rg x2 := by rw [ex2]; exact g1
  refine lv_istore_n (lv' := [(1, .int (w3 x2)), (0, .ref (B + 168)), (2, .int (w3 v2))]) hx hb dX1_blocked_27 rfl hl (by decide) rfl (fun ls hl => ?_)
  obtain ⟨g4, hw⟩ := hw
  refine hq_iinc (k := 2) C dX1_blocked_28 hl rfl (by decide) (fun x3 ex3 ls hl => ?_)
  have hw := hw x3 ex3
  have rx3 : rg x3 := by rw [ex3]; exact g4
  have hl : lv_has ls 3 [(2, .int (w3 x3)), (1, .int (w3 x2)), (0, .ref (B + 168))] := hl
  refine hq_goto (tgt := 4) C dX1_blocked_31 (by decide) ?_
  exact hk_4 x2 rx2 x3 rx3 _ _ _ hw hs (lv_sub hl [2, 1, 0] rfl)
set_option maxHeartbeats 4000000 in
set_option maxRecDepth 100000 in
theorem cl_X1_blocked_4 {p : Program} {l : Launch} {e : Env} {s : State} {m : MethodId} {args : Array Value} {below : List Frame} {meth : Method} {c : Code} {D : va_G} {cA : Nat → ClassId} {B : Nat} {Z : State → Prop}   {k : Int → Prop} {M : hq_M} (C : hq_C vwCl p m c cX1_blocked 3 s args wsX1_blocked RX1 meth (some .int) D cA (hq_in B YC.length) Z)
     : ∀ (n : Nat) (v1 : Int) (rv1 : rg v1) (v2 : Int) (rv2 : rg v2) (H : Heap) (locs : List Loc) (ls : Array Slot), l_X1_blocked_4 k M n v1 v2 → hq_S vwCl SLx D cA YC B s.heap M H locs → lv_has ls 3 [(0, .ref (B + 168)), (1, .int (w3 v1)), (2, .int (w3 v2))] → W p l e ({ frames := 2, cells := 0, slots := 0, locals := 43 } : Room) s m args below meth c H locs 0 0 (MQ below (hq_Q vwCl SLx D cA YC B (hq_qi (fun z M' => M' = M ∧ k z))) args s 0 0 (hq_in B YC.length)) (F0 m 4 ls []) := by
  have hx := C.1.1
  have hb := C.1.2.1
  intro n
  induction n with
  | zero => intro v1 rv1 v2 rv2 H locs ls hw hs hl; exact hw.elim
  | succ n ih =>
    intro v1 rv1 v2 rv2 H locs ls hw hs hl
    unfold l_X1_blocked_4 at hw
    refine lv_iload_n hx hb dX1_blocked_4 rfl (lv_at hl 2 rfl) ?_
    refine lv_aload_n hx hb dX1_blocked_5 rfl (lv_at hl 0 rfl) ?_
    refine hq_getI (o := 168) C hs fX1_blocked_20 tkC_168 (by decide) rfl dX1_blocked_6 (fun g1 => ?_)
    refine hq_icmp_ge (tgt := 34) C rv2 g1 dX1_blocked_9 (by decide) (fun h => ?_) (fun h => ?_)
    · have hw := hw.1 h
      refine lv_iload_n hx hb dX1_blocked_34 rfl (lv_at hl 1 rfl) ?_
      exact hq_iret C hs rv1 ⟨rfl, hw⟩ dX1_blocked_35
    · have hw := hw.2 h
      refine lv_iload_n hx hb dX1_blocked_12 rfl (lv_at hl 1 rfl) ?_
      refine lv_aload_n hx hb dX1_blocked_13 rfl (lv_at hl 0 rfl) ?_
      refine lv_iload_n hx hb dX1_blocked_14 rfl (lv_at hl 2 rfl) ?_
      refine hq_cV (n := 1) (ci := 1) (o := 168) (qc := (TX1, 2)) C hs (c_X1_isBlocked l C.2.2.2.2.1 v2 rv2 _ _ hw) gX1_blocked_X1_isBlocked rfl ⟨rfl, rfl⟩ (by decide +kernel) ⟨Nat.le_of_ble_eq_true rfl, Nat.le_of_ble_eq_true rfl⟩ tkC_168 (by decide) rfl rfl hl.1 rfl (Nat.le_of_ble_eq_true rfl) dX1_blocked_15 (hq_kz (fun x2 M9 H locs rx2 hw hs => ?_))
      obtain ⟨e9, hw⟩ := hw; rw [e9] at hs
      refine hq_if_eq (tgt := 25) C (rb_rg rx2) dX1_blocked_18 (by decide) (fun h => ?_) (fun h => ?_)
      · have hw := hw.1 h
        refine hq_iconst C dX1_blocked_25 ?_
        refine cb_X1_blocked_26 v2 rv2 v1 rv1 0 (by decide) C hw hs (lv_sub hl [0, 2] rfl) ?_
        · intro y1 ry1 y2 ry2 H locs ls hw hs hl
          exact ih y1 ry1 y2 ry2 _ _ _ hw hs (lv_sub hl [0, 1, 2] rfl)
      · have hw := hw.2 h
        refine hq_iconst C dX1_blocked_21 ?_
        refine hq_goto (tgt := 26) C dX1_blocked_22 (by decide) ?_
        refine cb_X1_blocked_26 v2 rv2 v1 rv1 1 (by decide) C hw hs (lv_sub hl [0, 2] rfl) ?_
        · intro y1 ry1 y2 ry2 H locs ls hw hs hl
          exact ih y1 ry1 y2 ry2 _ _ _ hw hs (lv_sub hl [0, 1, 2] rfl)
set_option maxHeartbeats 4000000 in
set_option maxRecDepth 100000 in
theorem c_X1_blocked (l : Launch) {D : va_G} {cA : Nat → ClassId} {B : Nat} {Z : State → Prop} (hZ : hq_Zo Z (hq_in B YC.length))  (M : hq_M) (k : Int → Prop) (hw : w_X1_blocked  M k) : hq_T vwCl SLx l yX1_blocked wsX1_blocked ({ frames := 2, cells := 0, slots := 0, locals := 43 } : Room) D cA YC B Z [.ref (B + 168)] M (hq_qi (fun z M' => M' = M ∧ k z)) := by
  refine hq_meth (cc := cX1_blocked) (maxL := 3) (ret := (some .int)) (own := RX1) hZ rfl (by decide +kernel) rfl (Nat.le_of_ble_eq_true rfl) ?_
  intro p e s m below meth c ls C hs hl
  have hx := C.1.1
  have hb := C.1.2.1
  unfold w_X1_blocked at hw
  have hl : lv_has ls 3 [(0, .ref (B + 168))] := hl
  refine hq_iconst C dX1_blocked_0 ?_
  refine lv_istore_n (lv' := [(1, .int (w3 0)), (0, .ref (B + 168))]) hx hb dX1_blocked_1 rfl hl (by decide) rfl (fun ls hl => ?_)
  refine hq_iconst C dX1_blocked_2 ?_
  refine lv_istore_n (lv' := [(2, .int (w3 0)), (1, .int (w3 0)), (0, .ref (B + 168))]) hx hb dX1_blocked_3 rfl hl (by decide) rfl (fun ls hl => ?_)
  obtain ⟨n9, hw⟩ := hw
  refine cl_X1_blocked_4  C  n9 0 (by decide : rg 0) 0 (by decide : rg 0) _ _ _ hw hs (lv_sub hl [2, 1, 0] rfl)
theorem iX1_isBefore_0 : ∀ w ∈ u_ws RX0 TX0 8, w ∈ wsX1_isBefore := fun w h => List.mem_cons_of_mem _ (List.mem_append_left _ (List.mem_append_right _ h))
set_option maxRecDepth 20000 in
theorem fX1_isBefore_32 : hq_fl vwCl wsX1_isBefore RX1 32 0 3 false .int := ⟨RX0, TX0, 8, tyX0, rfl, by decide, iX1_isBefore_0, by decide +kernel, rfl, tyX0_ok 3 (by decide), tyX0_ok, nmX0⟩
set_option maxHeartbeats 4000000 in
set_option maxRecDepth 100000 in
theorem c_X1_isBefore (l : Launch) {D : va_G} {cA : Nat → ClassId} {B : Nat} {Z : State → Prop} (hZ : hq_Zo Z (hq_in B YC.length)) (v1 : Int) (rv1 : rg v1) (v2 : Int) (rv2 : rg v2) (M : hq_M) (k : Int → Prop) (hw : w_X1_isBefore v1 v2 M k) : hq_T vwCl SLx l yX1_isBefore wsX1_isBefore ({ frames := 1, cells := 0, slots := 0, locals := 21 } : Room) D cA YC B Z [.ref (B + 168), .int (w3 v1), .int (w3 v2)] M (hq_qz (fun z M' => M' = M ∧ k z)) := by
  refine hq_meth (cc := cX1_isBefore) (maxL := 5) (ret := (some .boolean)) (own := RX1) hZ rfl (by decide +kernel) rfl (Nat.le_of_ble_eq_true rfl) ?_
  intro p e s m below meth c ls C hs hl
  have hx := C.1.1
  have hb := C.1.2.1
  unfold w_X1_isBefore at hw
  have hl : lv_has ls 5 [(0, .ref (B + 168)), (1, .int (w3 v1)), (2, .int (w3 v2))] := hl
  refine lv_aload_n hx hb dX1_isBefore_0 rfl (lv_at hl 0 rfl) ?_
  refine lv_iload_n hx hb dX1_isBefore_1 rfl (lv_at hl 1 rfl) ?_
  refine hq_cV (n := 1) (ci := 1) (o := 168) (qc := (TX1, 2)) C hs (c_X1_at l C.2.2.2.2.1 v1 rv1 _ _ hw) gX1_isBefore_X1_at rfl ⟨rfl, rfl⟩ (by decide +kernel) ⟨Nat.le_of_ble_eq_true rfl, Nat.le_of_ble_eq_true rfl⟩ tkC_168 (by decide) rfl rfl hl.1 rfl (Nat.le_of_ble_eq_true rfl) dX1_isBefore_2 (hq_kr (fun M9 H locs hw hs => ?_) (fun o1 M9 H locs ho1 hw hs => ?_))
  · obtain ⟨e9, hw⟩ := hw; rw [e9] at hs
    have hw := hw.1 rfl
    refine lv_astore_nN (lv' := [(3, .null), (0, .ref (B + 168)), (1, .int (w3 v1)), (2, .int (w3 v2))]) hx hb dX1_isBefore_5 rfl hl (by decide) rfl (fun ls hl => ?_)
    refine lv_aload_n hx hb dX1_isBefore_6 rfl (lv_at hl 1 rfl) ?_
    refine lv_iload_n hx hb dX1_isBefore_7 rfl (lv_at hl 3 rfl) ?_
    refine hq_cV (n := 1) (ci := 1) (o := 168) (qc := (TX1, 2)) C hs (c_X1_at l C.2.2.2.2.1 v2 rv2 _ _ hw) gX1_isBefore_X1_at rfl ⟨rfl, rfl⟩ (by decide +kernel) ⟨Nat.le_of_ble_eq_true rfl, Nat.le_of_ble_eq_true rfl⟩ tkC_168 (by decide) rfl rfl hl.1 rfl (Nat.le_of_ble_eq_true rfl) dX1_isBefore_8 (hq_kr (fun M9 H locs hw hs => ?_) (fun o3 M9 H locs ho3 hw hs => ?_))
    · obtain ⟨e9, hw⟩ := hw; rw [e9] at hs
      have hw := hw.1 rfl
      refine lv_astoreN (lv' := [(4, .null), (3, .null), (0, .ref (B + 168)), (1, .int (w3 v1)), (2, .int (w3 v2))]) hx hb dX1_isBefore_11 hl (by decide) rfl (fun ls hl => ?_)
      refine lv_aload_nN hx hb dX1_isBefore_13 rfl (lv_at hl 1 rfl) ?_
      refine lv_ifnullN (tgt := 22) hx hb dX1_isBefore_14 (by decide) ?_
      refine hq_iconst C dX1_isBefore_22 ?_
      exact hq_zret C hs (by decide) ⟨rfl, hw⟩ dX1_isBefore_23
    · obtain ⟨e9, hw⟩ := hw; rw [e9] at hs
      have hw := hw.2 o3 rfl
      refine lv_astore (lv' := [(4, .ref (B + o3)), (3, .null), (0, .ref (B + 168)), (1, .int (w3 v1)), (2, .int (w3 v2))]) hx hb dX1_isBefore_11 hl (by decide) rfl (fun ls hl => ?_)
      refine lv_aload_nN hx hb dX1_isBefore_13 rfl (lv_at hl 1 rfl) ?_
      refine lv_ifnullN (tgt := 22) hx hb dX1_isBefore_14 (by decide) ?_
      refine hq_iconst C dX1_isBefore_22 ?_
      exact hq_zret C hs (by decide) ⟨rfl, hw⟩ dX1_isBefore_23
  · obtain ⟨e9, hw⟩ := hw; rw [e9] at hs
    have hw := hw.2 o1 rfl
    refine lv_astore_n (lv' := [(3, .ref (B + o1)), (0, .ref (B + 168)), (1, .int (w3 v1)), (2, .int (w3 v2))]) hx hb dX1_isBefore_5 rfl hl (by decide) rfl (fun ls hl => ?_)
    refine lv_aload_n hx hb dX1_isBefore_6 rfl (lv_at hl 1 rfl) ?_
    refine lv_iload_n hx hb dX1_isBefore_7 rfl (lv_at hl 3 rfl) ?_
    refine hq_cV (n := 1) (ci := 1) (o := 168) (qc := (TX1, 2)) C hs (c_X1_at l C.2.2.2.2.1 v2 rv2 _ _ hw) gX1_isBefore_X1_at rfl ⟨rfl, rfl⟩ (by decide +kernel) ⟨Nat.le_of_ble_eq_true rfl, Nat.le_of_ble_eq_true rfl⟩ tkC_168 (by decide) rfl rfl hl.1 rfl (Nat.le_of_ble_eq_true rfl) dX1_isBefore_8 (hq_kr (fun M9 H locs hw hs => ?_) (fun o5 M9 H locs ho5 hw hs => ?_))
    · obtain ⟨e9, hw⟩ := hw; rw [e9] at hs
      have hw := hw.1 rfl
      refine lv_astoreN (lv' := [(4, .null), (3, .ref (B + o1)), (0, .ref (B + 168)), (1, .int (w3 v1)), (2, .int (w3 v2))]) hx hb dX1_isBefore_11 hl (by decide) rfl (fun ls hl => ?_)
      refine lv_aload_n hx hb dX1_isBefore_13 rfl (lv_at hl 1 rfl) ?_
      refine lv_ifnull hx hb dX1_isBefore_14 ?_
      refine lv_aloadN hx hb dX1_isBefore_17 (lv_at hl 0 rfl) ?_
      refine lv_ifnonnullN hx hb dX1_isBefore_19 ?_
      refine hq_iconst C dX1_isBefore_22 ?_
      exact hq_zret C hs (by decide) ⟨rfl, hw⟩ dX1_isBefore_23
    · obtain ⟨e9, hw⟩ := hw; rw [e9] at hs
      have hw := hw.2 o5 rfl
      refine lv_astore (lv' := [(4, .ref (B + o5)), (3, .ref (B + o1)), (0, .ref (B + 168)), (1, .int (w3 v1)), (2, .int (w3 v2))]) hx hb dX1_isBefore_11 hl (by decide) rfl (fun ls hl => ?_)
      refine lv_aload_n hx hb dX1_isBefore_13 rfl (lv_at hl 1 rfl) ?_
      refine lv_ifnull hx hb dX1_isBefore_14 ?_
      refine lv_aload hx hb dX1_isBefore_17 (lv_at hl 0 rfl) ?_
      refine lv_ifnonnull (tgt := 24) hx hb dX1_isBefore_19 (by decide) ?_
      refine lv_aload_n hx hb dX1_isBefore_24 rfl (lv_at hl 1 rfl) ?_
      refine hq_getI (o := o1) C hs fX1_isBefore_32 ho1 (by decide) rfl dX1_isBefore_25 (fun g7 => ?_)
      refine lv_aload hx hb dX1_isBefore_28 (lv_at hl 0 rfl) ?_
      refine hq_getI (o := o5) C hs fX1_isBefore_32 ho5 (by decide) rfl dX1_isBefore_30 (fun g8 => ?_)
      refine hq_icmp_lt (tgt := 53) C g7 g8 dX1_isBefore_33 (by decide) (fun h => ?_) (fun h => ?_)
      · have hw := hw.1 h
        refine hq_iconst C dX1_isBefore_53 ?_
        refine hq_goto (tgt := 58) C dX1_isBefore_54 (by decide) ?_
        exact hq_zret C hs (by decide) ⟨rfl, hw⟩ dX1_isBefore_58
      · have hw := hw.2 h
        refine lv_aload_n hx hb dX1_isBefore_36 rfl (lv_at hl 1 rfl) ?_
        refine hq_getI (o := o1) C hs fX1_isBefore_32 ho1 (by decide) rfl dX1_isBefore_37 (fun g9 => ?_)
        refine lv_aload hx hb dX1_isBefore_40 (lv_at hl 0 rfl) ?_
        refine hq_getI (o := o5) C hs fX1_isBefore_32 ho5 (by decide) rfl dX1_isBefore_42 (fun g10 => ?_)
        refine hq_icmp_ne (tgt := 57) C g9 g10 dX1_isBefore_45 (by decide) (fun h => ?_) (fun h => ?_)
        · have hw := hw.1 h
          refine hq_iconst C dX1_isBefore_57 ?_
          exact hq_zret C hs (by decide) ⟨rfl, hw⟩ dX1_isBefore_58
        · have hw := hw.2 h
          refine lv_iload_n hx hb dX1_isBefore_48 rfl (lv_at hl 3 rfl) ?_
          refine lv_iload_n hx hb dX1_isBefore_49 rfl (lv_at hl 4 rfl) ?_
          refine hq_icmp_ge (tgt := 57) C rv1 rv2 dX1_isBefore_50 (by decide) (fun h => ?_) (fun h => ?_)
          · have hw := hw.1 h
            refine hq_iconst C dX1_isBefore_57 ?_
            exact hq_zret C hs (by decide) ⟨rfl, hw⟩ dX1_isBefore_58
          · have hw := hw.2 h
            refine hq_iconst C dX1_isBefore_53 ?_
            refine hq_goto (tgt := 58) C dX1_isBefore_54 (by decide) ?_
            exact hq_zret C hs (by decide) ⟨rfl, hw⟩ dX1_isBefore_58
theorem iX1_blockedBefore_1 : ∀ w ∈ u_ws RX1 TX1 2, w ∈ wsX1_blockedBefore := fun w h => List.mem_cons_of_mem _ (List.mem_append_left _ (List.mem_append_right _ h))
set_option maxRecDepth 20000 in
theorem fX1_blockedBefore_20 : hq_fl vwCl wsX1_blockedBefore RX1 20 1 1 false .int := ⟨RX1, TX1, 2, tyX1, rfl, by decide, iX1_blockedBefore_1, by decide +kernel, rfl, tyX1_ok 1 (by decide), tyX1_ok, nmX1⟩
set_option maxHeartbeats 4000000 in
set_option maxRecDepth 100000 in
theorem cb_X1_blockedBefore_35 {p : Program} {l : Launch} {e : Env} {s : State} {m : MethodId} {args : Array Value} {below : List Frame} {meth : Method} {c : Code} {D : va_G} {cA : Nat → ClassId} {B : Nat} {Z : State → Prop} (v1 : Int) (rv1 : rg v1) (v3 : Int) (rv3 : rg v3) (t0 : Int) (rt0 : rg t0) (t1 : Int) (rt1 : rb t1) {k_4 : Int → Int → Prop} {k : Int → Prop} {M : hq_M} {H : Heap} {locs : List Loc} {ls : Array Slot} (C : hq_C vwCl p m c cX1_blockedBefore 4 s args wsX1_blockedBefore RX1 meth (some .int) D cA (hq_in B YC.length) Z)
    (hw : b_X1_blockedBefore_35 v1 v3 t0 t1 k_4 k M) (hs : hq_S vwCl SLx D cA YC B s.heap M H locs) (hl : lv_has ls 4 [(0, .ref (B + 168)), (1, .int (w3 v1)), (3, .int (w3 v3))])
    (hk_4 : ∀ (y2 : Int) (ry2 : rg y2) (y3 : Int) (ry3 : rg y3) (H : Heap) (locs : List Loc) (ls : Array Slot), k_4 y2 y3 → hq_S vwCl SLx D cA YC B s.heap M H locs → lv_has ls 4 [(0, .ref (B + 168)), (1, .int (w3 v1)), (2, .int (w3 y2)), (3, .int (w3 y3))] → W p l e ({ frames := 2, cells := 0, slots := 0, locals := 45 } : Room) s m args below meth c H locs 0 0 (MQ below (hq_Q vwCl SLx D cA YC B (hq_qi (fun z M' => M' = M ∧ k z))) args s 0 0 (hq_in B YC.length)) (F0 m 4 ls [])) : W p l e ({ frames := 2, cells := 0, slots := 0, locals := 45 } : Room) s m args below meth c H locs 0 0 (MQ below (hq_Q vwCl SLx D cA YC B (hq_qi (fun z M' => M' = M ∧ k z))) args s 0 0 (hq_in B YC.length)) (F0 m 35 ls [.int (w3 t1), .int (w3 t0)]) := by
  have hx := C.1.1
  have hb := C.1.2.1
  unfold b_X1_blockedBefore_35 at hw
  obtain ⟨g1, hw⟩ := hw
  refine hq_iadd C dX1_blockedBefore_35 ?_
  refine hq_nm (fun x2 ex2 => ?_)
  have hw := hw x2 ex2
  have rx2 : rg x2 := by rw [ex2]; exact g1
  refine lv_istore_n (lv' := [(2, .int (w3 x2)), (0, .ref (B + 168)), (1, .int (w3 v1)), (3, .int (w3 v3))]) hx hb dX1_blockedBefore_36 rfl hl (by decide) rfl (fun ls hl => ?_)
  obtain ⟨g4, hw⟩ := hw
  refine hq_iinc (k := 3) C dX1_blockedBefore_37 hl rfl (by decide) (fun x3 ex3 ls hl => ?_)
  have hw := hw x3 ex3
  have rx3 : rg x3 := by rw [ex3]; exact g4
  have hl : lv_has ls 4 [(3, .int (w3 x3)), (2, .int (w3 x2)), (0, .ref (B + 168)), (1, .int (w3 v1))] := hl
  refine hq_goto (tgt := 4) C dX1_blockedBefore_40 (by decide) ?_
  exact hk_4 x2 rx2 x3 rx3 _ _ _ hw hs (lv_sub hl [2, 3, 1, 0] rfl)
set_option maxHeartbeats 4000000 in
set_option maxRecDepth 100000 in
theorem cb_X1_blockedBefore_34 {p : Program} {l : Launch} {e : Env} {s : State} {m : MethodId} {args : Array Value} {below : List Frame} {meth : Method} {c : Code} {D : va_G} {cA : Nat → ClassId} {B : Nat} {Z : State → Prop} (v1 : Int) (rv1 : rg v1) (v3 : Int) (rv3 : rg v3) (t0 : Int) (rt0 : rg t0) {k_4 : Int → Int → Prop} {k : Int → Prop} {M : hq_M} {H : Heap} {locs : List Loc} {ls : Array Slot} (C : hq_C vwCl p m c cX1_blockedBefore 4 s args wsX1_blockedBefore RX1 meth (some .int) D cA (hq_in B YC.length) Z)
    (hw : b_X1_blockedBefore_34 v1 v3 t0 k_4 k M) (hs : hq_S vwCl SLx D cA YC B s.heap M H locs) (hl : lv_has ls 4 [(0, .ref (B + 168)), (1, .int (w3 v1)), (3, .int (w3 v3))])
    (hk_4 : ∀ (y2 : Int) (ry2 : rg y2) (y3 : Int) (ry3 : rg y3) (H : Heap) (locs : List Loc) (ls : Array Slot), k_4 y2 y3 → hq_S vwCl SLx D cA YC B s.heap M H locs → lv_has ls 4 [(0, .ref (B + 168)), (1, .int (w3 v1)), (2, .int (w3 y2)), (3, .int (w3 y3))] → W p l e ({ frames := 2, cells := 0, slots := 0, locals := 45 } : Room) s m args below meth c H locs 0 0 (MQ below (hq_Q vwCl SLx D cA YC B (hq_qi (fun z M' => M' = M ∧ k z))) args s 0 0 (hq_in B YC.length)) (F0 m 4 ls [])) : W p l e ({ frames := 2, cells := 0, slots := 0, locals := 45 } : Room) s m args below meth c H locs 0 0 (MQ below (hq_Q vwCl SLx D cA YC B (hq_qi (fun z M' => M' = M ∧ k z))) args s 0 0 (hq_in B YC.length)) (F0 m 34 ls [.int (w3 t0)]) := by
  have hx := C.1.1
  have hb := C.1.2.1
  unfold b_X1_blockedBefore_34 at hw
  refine hq_iconst C dX1_blockedBefore_34 ?_
  refine cb_X1_blockedBefore_35 v1 rv1 v3 rv3 t0 rt0 0 (by decide) C hw hs (lv_sub hl [0, 1, 2] rfl) hk_4
set_option maxHeartbeats 4000000 in
set_option maxRecDepth 100000 in
theorem cl_X1_blockedBefore_4 {p : Program} {l : Launch} {e : Env} {s : State} {m : MethodId} {args : Array Value} {below : List Frame} {meth : Method} {c : Code} {D : va_G} {cA : Nat → ClassId} {B : Nat} {Z : State → Prop} (v1 : Int) (rv1 : rg v1)  {k : Int → Prop} {M : hq_M} (C : hq_C vwCl p m c cX1_blockedBefore 4 s args wsX1_blockedBefore RX1 meth (some .int) D cA (hq_in B YC.length) Z)
     : ∀ (n : Nat) (v2 : Int) (rv2 : rg v2) (v3 : Int) (rv3 : rg v3) (H : Heap) (locs : List Loc) (ls : Array Slot), l_X1_blockedBefore_4 v1 k M n v2 v3 → hq_S vwCl SLx D cA YC B s.heap M H locs → lv_has ls 4 [(0, .ref (B + 168)), (1, .int (w3 v1)), (2, .int (w3 v2)), (3, .int (w3 v3))] → W p l e ({ frames := 2, cells := 0, slots := 0, locals := 45 } : Room) s m args below meth c H locs 0 0 (MQ below (hq_Q vwCl SLx D cA YC B (hq_qi (fun z M' => M' = M ∧ k z))) args s 0 0 (hq_in B YC.length)) (F0 m 4 ls []) := by
  have hx := C.1.1
  have hb := C.1.2.1
  intro n
  induction n with
  | zero => intro v2 rv2 v3 rv3 H locs ls hw hs hl; exact hw.elim
  | succ n ih =>
    intro v2 rv2 v3 rv3 H locs ls hw hs hl
    unfold l_X1_blockedBefore_4 at hw
    refine lv_iload_n hx hb dX1_blockedBefore_4 rfl (lv_at hl 3 rfl) ?_
    refine lv_aload_n hx hb dX1_blockedBefore_5 rfl (lv_at hl 0 rfl) ?_
    refine hq_getI (o := 168) C hs fX1_blockedBefore_20 tkC_168 (by decide) rfl dX1_blockedBefore_6 (fun g1 => ?_)
    refine hq_icmp_ge (tgt := 43) C rv3 g1 dX1_blockedBefore_9 (by decide) (fun h => ?_) (fun h => ?_)
    · have hw := hw.1 h
      refine lv_iload_n hx hb dX1_blockedBefore_43 rfl (lv_at hl 2 rfl) ?_
      exact hq_iret C hs rv2 ⟨rfl, hw⟩ dX1_blockedBefore_44
    · have hw := hw.2 h
      refine lv_iload_n hx hb dX1_blockedBefore_12 rfl (lv_at hl 2 rfl) ?_
      refine lv_aload_n hx hb dX1_blockedBefore_13 rfl (lv_at hl 0 rfl) ?_
      refine lv_iload_n hx hb dX1_blockedBefore_14 rfl (lv_at hl 3 rfl) ?_
      refine hq_cV (n := 1) (ci := 1) (o := 168) (qc := (TX1, 2)) C hs (c_X1_isBlocked l C.2.2.2.2.1 v3 rv3 _ _ hw) gX1_blockedBefore_X1_isBlocked rfl ⟨rfl, rfl⟩ (by decide +kernel) ⟨Nat.le_of_ble_eq_true rfl, Nat.le_of_ble_eq_true rfl⟩ tkC_168 (by decide) rfl rfl hl.1 rfl (Nat.le_of_ble_eq_true rfl) dX1_blockedBefore_15 (hq_kz (fun x2 M9 H locs rx2 hw hs => ?_))
      obtain ⟨e9, hw⟩ := hw; rw [e9] at hs
      refine hq_if_eq (tgt := 34) C (rb_rg rx2) dX1_blockedBefore_18 (by decide) (fun h => ?_) (fun h => ?_)
      · have hw := hw.1 h
        refine cb_X1_blockedBefore_34 v1 rv1 v3 rv3 v2 rv2 C hw hs (lv_sub hl [0, 1, 3] rfl) ?_
        · intro y2 ry2 y3 ry3 H locs ls hw hs hl
          exact ih y2 ry2 y3 ry3 _ _ _ hw hs (lv_sub hl [0, 1, 2, 3] rfl)
      · have hw := hw.2 h
        refine lv_aload_n hx hb dX1_blockedBefore_21 rfl (lv_at hl 0 rfl) ?_
        refine lv_iload_n hx hb dX1_blockedBefore_22 rfl (lv_at hl 3 rfl) ?_
        refine lv_iload_n hx hb dX1_blockedBefore_23 rfl (lv_at hl 1 rfl) ?_
        refine hq_cV (n := 2) (ci := 1) (o := 168) (qc := (TX1, 2)) C hs (c_X1_isBefore l C.2.2.2.2.1 v3 rv3 v1 rv1 _ _ hw) gX1_blockedBefore_X1_isBefore rfl ⟨rfl, rfl⟩ (by decide +kernel) ⟨Nat.le_of_ble_eq_true rfl, Nat.le_of_ble_eq_true rfl⟩ tkC_168 (by decide) rfl rfl hl.1 rfl (Nat.le_of_ble_eq_true rfl) dX1_blockedBefore_24 (hq_kz (fun x3 M9 H locs rx3 hw hs => ?_))
        obtain ⟨e9, hw⟩ := hw; rw [e9] at hs
        refine hq_if_eq (tgt := 34) C (rb_rg rx3) dX1_blockedBefore_27 (by decide) (fun h => ?_) (fun h => ?_)
        · have hw := hw.1 h
          refine cb_X1_blockedBefore_34 v1 rv1 v3 rv3 v2 rv2 C hw hs (lv_sub hl [0, 1, 3] rfl) ?_
          · intro y2 ry2 y3 ry3 H locs ls hw hs hl
            exact ih y2 ry2 y3 ry3 _ _ _ hw hs (lv_sub hl [0, 1, 2, 3] rfl)
        · have hw := hw.2 h
          refine hq_iconst C dX1_blockedBefore_30 ?_
          refine hq_goto (tgt := 35) C dX1_blockedBefore_31 (by decide) ?_
          refine cb_X1_blockedBefore_35 v1 rv1 v3 rv3 v2 rv2 1 (by decide) C hw hs (lv_sub hl [0, 1, 3] rfl) ?_
          · intro y2 ry2 y3 ry3 H locs ls hw hs hl
            exact ih y2 ry2 y3 ry3 _ _ _ hw hs (lv_sub hl [0, 1, 2, 3] rfl)
set_option maxHeartbeats 4000000 in
set_option maxRecDepth 100000 in
theorem c_X1_blockedBefore (l : Launch) {D : va_G} {cA : Nat → ClassId} {B : Nat} {Z : State → Prop} (hZ : hq_Zo Z (hq_in B YC.length)) (v1 : Int) (rv1 : rg v1) (M : hq_M) (k : Int → Prop) (hw : w_X1_blockedBefore v1 M k) : hq_T vwCl SLx l yX1_blockedBefore wsX1_blockedBefore ({ frames := 2, cells := 0, slots := 0, locals := 45 } : Room) D cA YC B Z [.ref (B + 168), .int (w3 v1)] M (hq_qi (fun z M' => M' = M ∧ k z)) := by
  refine hq_meth (cc := cX1_blockedBefore) (maxL := 4) (ret := (some .int)) (own := RX1) hZ rfl (by decide +kernel) rfl (Nat.le_of_ble_eq_true rfl) ?_
  intro p e s m below meth c ls C hs hl
  have hx := C.1.1
  have hb := C.1.2.1
  unfold w_X1_blockedBefore at hw
  have hl : lv_has ls 4 [(0, .ref (B + 168)), (1, .int (w3 v1))] := hl
  refine hq_iconst C dX1_blockedBefore_0 ?_
  refine lv_istore_n (lv' := [(2, .int (w3 0)), (0, .ref (B + 168)), (1, .int (w3 v1))]) hx hb dX1_blockedBefore_1 rfl hl (by decide) rfl (fun ls hl => ?_)
  refine hq_iconst C dX1_blockedBefore_2 ?_
  refine lv_istore_n (lv' := [(3, .int (w3 0)), (2, .int (w3 0)), (0, .ref (B + 168)), (1, .int (w3 v1))]) hx hb dX1_blockedBefore_3 rfl hl (by decide) rfl (fun ls hl => ?_)
  obtain ⟨n9, hw⟩ := hw
  refine cl_X1_blockedBefore_4 v1 rv1 C  n9 0 (by decide : rg 0) 0 (by decide : rg 0) _ _ _ hw hs (lv_sub hl [2, 3, 1, 0] rfl)
theorem iX1_blockedAt_1 : ∀ w ∈ u_ws RX1 TX1 2, w ∈ wsX1_blockedAt := fun w h => List.mem_cons_of_mem _ (List.mem_append_left _ (List.mem_append_right _ h))
set_option maxRecDepth 20000 in
theorem fX1_blockedAt_20 : hq_fl vwCl wsX1_blockedAt RX1 20 1 1 false .int := ⟨RX1, TX1, 2, tyX1, rfl, by decide, iX1_blockedAt_1, by decide +kernel, rfl, tyX1_ok 1 (by decide), tyX1_ok, nmX1⟩
set_option maxHeartbeats 4000000 in
set_option maxRecDepth 100000 in
theorem cb_X1_blockedAt_29 {p : Program} {l : Launch} {e : Env} {s : State} {m : MethodId} {args : Array Value} {below : List Frame} {meth : Method} {c : Code} {D : va_G} {cA : Nat → ClassId} {B : Nat} {Z : State → Prop} (v1 : Int) (rv1 : rg v1) (v2 : Int) (rv2 : rg v2) {k_2 : Int → Prop} {k : Int → Prop} {M : hq_M} {H : Heap} {locs : List Loc} {ls : Array Slot} (C : hq_C vwCl p m c cX1_blockedAt 3 s args wsX1_blockedAt RX1 meth (some .int) D cA (hq_in B YC.length) Z)
    (hw : b_X1_blockedAt_29 v1 v2 k_2 k M) (hs : hq_S vwCl SLx D cA YC B s.heap M H locs) (hl : lv_has ls 3 [(0, .ref (B + 168)), (1, .int (w3 v1)), (2, .int (w3 v2))])
    (hk_2 : ∀ (y2 : Int) (ry2 : rg y2) (H : Heap) (locs : List Loc) (ls : Array Slot), k_2 y2 → hq_S vwCl SLx D cA YC B s.heap M H locs → lv_has ls 3 [(0, .ref (B + 168)), (1, .int (w3 v1)), (2, .int (w3 y2))] → W p l e ({ frames := 3, cells := 0, slots := 0, locals := 68 } : Room) s m args below meth c H locs 0 0 (MQ below (hq_Q vwCl SLx D cA YC B (hq_qi (fun z M' => M' = M ∧ k z))) args s 0 0 (hq_in B YC.length)) (F0 m 2 ls [])) : W p l e ({ frames := 3, cells := 0, slots := 0, locals := 68 } : Room) s m args below meth c H locs 0 0 (MQ below (hq_Q vwCl SLx D cA YC B (hq_qi (fun z M' => M' = M ∧ k z))) args s 0 0 (hq_in B YC.length)) (F0 m 29 ls []) := by
  have hx := C.1.1
  have hb := C.1.2.1
  unfold b_X1_blockedAt_29 at hw
  obtain ⟨g2, hw⟩ := hw
  refine hq_iinc (k := 2) C dX1_blockedAt_29 hl rfl (by decide) (fun x1 ex1 ls hl => ?_)
  have hw := hw x1 ex1
  have rx1 : rg x1 := by rw [ex1]; exact g2
  have hl : lv_has ls 3 [(2, .int (w3 x1)), (0, .ref (B + 168)), (1, .int (w3 v1))] := hl
  refine hq_goto (tgt := 2) C dX1_blockedAt_32 (by decide) ?_
  exact hk_2 x1 rx1 _ _ _ hw hs (lv_sub hl [1, 2, 0] rfl)
set_option maxHeartbeats 4000000 in
set_option maxRecDepth 100000 in
theorem cl_X1_blockedAt_2 {p : Program} {l : Launch} {e : Env} {s : State} {m : MethodId} {args : Array Value} {below : List Frame} {meth : Method} {c : Code} {D : va_G} {cA : Nat → ClassId} {B : Nat} {Z : State → Prop} (v1 : Int) (rv1 : rg v1)  {k : Int → Prop} {M : hq_M} (C : hq_C vwCl p m c cX1_blockedAt 3 s args wsX1_blockedAt RX1 meth (some .int) D cA (hq_in B YC.length) Z)
     : ∀ (n : Nat) (v2 : Int) (rv2 : rg v2) (H : Heap) (locs : List Loc) (ls : Array Slot), l_X1_blockedAt_2 v1 k M n v2 → hq_S vwCl SLx D cA YC B s.heap M H locs → lv_has ls 3 [(0, .ref (B + 168)), (1, .int (w3 v1)), (2, .int (w3 v2))] → W p l e ({ frames := 3, cells := 0, slots := 0, locals := 68 } : Room) s m args below meth c H locs 0 0 (MQ below (hq_Q vwCl SLx D cA YC B (hq_qi (fun z M' => M' = M ∧ k z))) args s 0 0 (hq_in B YC.length)) (F0 m 2 ls []) := by
  have hx := C.1.1
  have hb := C.1.2.1
  intro n
  induction n with
  | zero => intro v2 rv2 H locs ls hw hs hl; exact hw.elim
  | succ n ih =>
    intro v2 rv2 H locs ls hw hs hl
    unfold l_X1_blockedAt_2 at hw
    refine lv_iload_n hx hb dX1_blockedAt_2 rfl (lv_at hl 2 rfl) ?_
    refine lv_aload_n hx hb dX1_blockedAt_3 rfl (lv_at hl 0 rfl) ?_
    refine hq_getI (o := 168) C hs fX1_blockedAt_20 tkC_168 (by decide) rfl dX1_blockedAt_4 (fun g1 => ?_)
    refine hq_icmp_ge (tgt := 35) C rv2 g1 dX1_blockedAt_7 (by decide) (fun h => ?_) (fun h => ?_)
    · have hw := hw.1 h
      refine hq_bipush C dX1_blockedAt_35 (by decide) ?_
      exact hq_iret C hs (by decide : rg (-9)) ⟨rfl, hw⟩ dX1_blockedAt_37
    · have hw := hw.2 h
      refine lv_aload_n hx hb dX1_blockedAt_10 rfl (lv_at hl 0 rfl) ?_
      refine lv_iload_n hx hb dX1_blockedAt_11 rfl (lv_at hl 2 rfl) ?_
      refine hq_cV (n := 1) (ci := 1) (o := 168) (qc := (TX1, 2)) C hs (c_X1_isBlocked l C.2.2.2.2.1 v2 rv2 _ _ hw) gX1_blockedAt_X1_isBlocked rfl ⟨rfl, rfl⟩ (by decide +kernel) ⟨Nat.le_of_ble_eq_true rfl, Nat.le_of_ble_eq_true rfl⟩ tkC_168 (by decide) rfl rfl hl.1 rfl (Nat.le_of_ble_eq_true rfl) dX1_blockedAt_12 (hq_kz (fun x2 M9 H locs rx2 hw hs => ?_))
      obtain ⟨e9, hw⟩ := hw; rw [e9] at hs
      refine hq_if_eq (tgt := 29) C (rb_rg rx2) dX1_blockedAt_15 (by decide) (fun h => ?_) (fun h => ?_)
      · have hw := hw.1 h
        refine cb_X1_blockedAt_29 v1 rv1 v2 rv2 C hw hs (lv_sub hl [0, 1, 2] rfl) ?_
        · intro y2 ry2 H locs ls hw hs hl
          exact ih y2 ry2 _ _ _ hw hs (lv_sub hl [0, 1, 2] rfl)
      · have hw := hw.2 h
        refine lv_aload_n hx hb dX1_blockedAt_18 rfl (lv_at hl 0 rfl) ?_
        refine lv_iload_n hx hb dX1_blockedAt_19 rfl (lv_at hl 2 rfl) ?_
        refine hq_cV (n := 1) (ci := 1) (o := 168) (qc := (TX1, 2)) C hs (c_X1_blockedBefore l C.2.2.2.2.1 v2 rv2 _ _ hw) gX1_blockedAt_X1_blockedBefore rfl ⟨rfl, rfl⟩ (by decide +kernel) ⟨Nat.le_of_ble_eq_true rfl, Nat.le_of_ble_eq_true rfl⟩ tkC_168 (by decide) rfl rfl hl.1 rfl (Nat.le_of_ble_eq_true rfl) dX1_blockedAt_20 (hq_ki (fun x3 M9 H locs rx3 hw hs => ?_))
        obtain ⟨e9, hw⟩ := hw; rw [e9] at hs
        refine lv_iload_n hx hb dX1_blockedAt_23 rfl (lv_at hl 1 rfl) ?_
        refine hq_icmp_ne (tgt := 29) C rx3 rv1 dX1_blockedAt_24 (by decide) (fun h => ?_) (fun h => ?_)
        · have hw := hw.1 h
          refine cb_X1_blockedAt_29 v1 rv1 v2 rv2 C hw hs (lv_sub hl [0, 1, 2] rfl) ?_
          · intro y2 ry2 H locs ls hw hs hl
            exact ih y2 ry2 _ _ _ hw hs (lv_sub hl [0, 1, 2] rfl)
        · have hw := hw.2 h
          refine lv_iload_n hx hb dX1_blockedAt_27 rfl (lv_at hl 2 rfl) ?_
          exact hq_iret C hs rv2 ⟨rfl, hw⟩ dX1_blockedAt_28
set_option maxHeartbeats 4000000 in
set_option maxRecDepth 100000 in
theorem c_X1_blockedAt (l : Launch) {D : va_G} {cA : Nat → ClassId} {B : Nat} {Z : State → Prop} (hZ : hq_Zo Z (hq_in B YC.length)) (v1 : Int) (rv1 : rg v1) (M : hq_M) (k : Int → Prop) (hw : w_X1_blockedAt v1 M k) : hq_T vwCl SLx l yX1_blockedAt wsX1_blockedAt ({ frames := 3, cells := 0, slots := 0, locals := 68 } : Room) D cA YC B Z [.ref (B + 168), .int (w3 v1)] M (hq_qi (fun z M' => M' = M ∧ k z)) := by
  refine hq_meth (cc := cX1_blockedAt) (maxL := 3) (ret := (some .int)) (own := RX1) hZ rfl (by decide +kernel) rfl (Nat.le_of_ble_eq_true rfl) ?_
  intro p e s m below meth c ls C hs hl
  have hx := C.1.1
  have hb := C.1.2.1
  unfold w_X1_blockedAt at hw
  have hl : lv_has ls 3 [(0, .ref (B + 168)), (1, .int (w3 v1))] := hl
  refine hq_iconst C dX1_blockedAt_0 ?_
  refine lv_istore_n (lv' := [(2, .int (w3 0)), (0, .ref (B + 168)), (1, .int (w3 v1))]) hx hb dX1_blockedAt_1 rfl hl (by decide) rfl (fun ls hl => ?_)
  obtain ⟨n9, hw⟩ := hw
  refine cl_X1_blockedAt_2 v1 rv1 C  n9 0 (by decide : rg 0) _ _ _ hw hs (lv_sub hl [1, 2, 0] rfl)
theorem iX2_entrySize_2 : ∀ w ∈ u_ws RX2 TX2 2, w ∈ wsX2_entrySize := fun w h => List.mem_cons_of_mem _ (List.mem_append_left _ (List.mem_append_right _ h))
theorem iX2_entrySize_6 : ∀ w ∈ u_ws RX6 TX6 2, w ∈ wsX2_entrySize := fun w h => List.mem_cons_of_mem _ (List.mem_append_right _ h)
set_option maxRecDepth 20000 in
theorem fX2_entrySize_14 : hq_fl vwCl wsX2_entrySize RX2 14 2 0 true (.object "HeadTables$Row") := ⟨RX2, TX2, 2, tyX2, rfl, by decide, iX2_entrySize_2, by decide +kernel, rfl, tyX2_ok 0 (by decide), tyX2_ok, nmX2⟩
set_option maxRecDepth 20000 in
theorem fX2_entrySize_20 : hq_fl vwCl wsX2_entrySize RX2 20 2 1 true (.object "HeadTables$Row") := ⟨RX2, TX2, 2, tyX2, rfl, by decide, iX2_entrySize_2, by decide +kernel, rfl, tyX2_ok 1 (by decide), tyX2_ok, nmX2⟩
set_option maxRecDepth 20000 in
theorem fX2_entrySize_23 : hq_fl vwCl wsX2_entrySize RX2 23 6 1 false .int := ⟨RX6, TX6, 2, tyX6, rfl, by decide, iX2_entrySize_6, by decide +kernel, rfl, tyX6_ok 1 (by decide), tyX6_ok, nmX6⟩
set_option maxHeartbeats 4000000 in
set_option maxRecDepth 100000 in
theorem c_X2_entrySize (l : Launch) {D : va_G} {cA : Nat → ClassId} {B : Nat} {Z : State → Prop} (hZ : hq_Zo Z (hq_in B YC.length)) (v0 : Nat) (hv0 : YC[v0]? = some (2, 0)) (M : hq_M) (k : Int → Prop) (hw : w_X2_entrySize v0 M k) : hq_T vwCl SLx l yX2_entrySize wsX2_entrySize ({ frames := 0, cells := 0, slots := 0, locals := 0 } : Room) D cA YC B Z [.ref (B + v0)] M (hq_qi (fun z M' => M' = M ∧ k z)) := by
  refine hq_meth (cc := cX2_entrySize) (maxL := 1) (ret := (some .int)) (own := RX2) hZ rfl (by decide +kernel) rfl (Nat.le_of_ble_eq_true rfl) ?_
  intro p e s m below meth c ls C hs hl
  have hx := C.1.1
  have hb := C.1.2.1
  unfold w_X2_entrySize at hw
  have hl : lv_has ls 1 [(0, .ref (B + v0))] := hl
  refine lv_aload_n hx hb dX2_entrySize_0 rfl (lv_at hl 0 rfl) ?_
  refine hq_getR (o := v0) C hs fX2_entrySize_14 hv0 (by decide) rfl dX2_entrySize_1 ?_
  refine hq_getI (o := (v0 + 1)) C hs fX2_entrySize_23 (tc_2_0 hv0) (by decide) rfl dX2_entrySize_4 (fun g1 => ?_)
  refine lv_aload_n hx hb dX2_entrySize_7 rfl (lv_at hl 0 rfl) ?_
  refine hq_getR (o := v0) C hs fX2_entrySize_20 hv0 (by decide) rfl dX2_entrySize_8 ?_
  refine hq_getI (o := (v0 + 3)) C hs fX2_entrySize_23 (tc_2_1 hv0) (by decide) rfl dX2_entrySize_11 (fun g2 => ?_)
  obtain ⟨g3, hw⟩ := hw
  refine hq_iadd C dX2_entrySize_14 ?_
  refine hq_iconst C dX2_entrySize_15 ?_
  obtain ⟨g4, hw⟩ := hw
  refine hq_iadd C dX2_entrySize_16 ?_
  exact hq_iret C hs g4 ⟨rfl, hw⟩ dX2_entrySize_17
theorem iX3_at_3 : ∀ w ∈ u_ws RX3 TX3 2, w ∈ wsX3_at := fun w h => List.mem_cons_of_mem _ (List.mem_append_right _ h)
set_option maxRecDepth 20000 in
theorem fX3_at_17 : hq_fl vwCl wsX3_at RX3 17 3 0 true (.array (.object "HeadTables$Pair")) := ⟨RX3, TX3, 2, tyX3, rfl, by decide, iX3_at_3, by decide +kernel, rfl, tyX3_ok 0 (by decide), tyX3_ok, nmX3⟩
set_option maxRecDepth 20000 in
theorem fX3_at_24 : hq_fl vwCl wsX3_at RX3 24 3 1 false .int := ⟨RX3, TX3, 2, tyX3, rfl, by decide, iX3_at_3, by decide +kernel, rfl, tyX3_ok 1 (by decide), tyX3_ok, nmX3⟩
set_option maxHeartbeats 4000000 in
set_option maxRecDepth 100000 in
theorem c_X3_at (l : Launch) {D : va_G} {cA : Nat → ClassId} {B : Nat} {Z : State → Prop} (hZ : hq_Zo Z (hq_in B YC.length)) (v0 : Nat) (hv0 : YC[v0]? = some (3, 0)) (v1 : Int) (rv1 : rg v1) (M : hq_M) (k : Option Nat → Prop) (hw : w_X3_at v0 v1 M k) : hq_T vwCl SLx l yX3_at wsX3_at ({ frames := 0, cells := 0, slots := 0, locals := 0 } : Room) D cA YC B Z [.ref (B + v0), .int (w3 v1)] M (hq_qr YC B 2 (fun z M' => M' = M ∧ k z)) := by
  refine hq_meth (cc := cX3_at) (maxL := 2) (ret := (some (.object "HeadTables$Pair"))) (own := RX3) hZ rfl (by decide +kernel) rfl (Nat.le_of_ble_eq_true rfl) ?_
  intro p e s m below meth c ls C hs hl
  have hx := C.1.1
  have hb := C.1.2.1
  unfold w_X3_at at hw
  have hl : lv_has ls 2 [(0, .ref (B + v0)), (1, .int (w3 v1))] := hl
  refine lv_iload_n hx hb dX3_at_0 rfl (lv_at hl 1 rfl) ?_
  refine hq_if_lt (tgt := 21) C rv1 dX3_at_1 (by decide) (fun h => ?_) (fun h => ?_)
  · have hw := hw.1 h
    refine lv_null hx hb dX3_at_21 ?_
    refine hq_goto (tgt := 31) C dX3_at_22 (by decide) ?_
    exact hq_aretN C hs ⟨rfl, hw⟩ dX3_at_31
  · have hw := hw.2 h
    refine lv_iload_n hx hb dX3_at_4 rfl (lv_at hl 1 rfl) ?_
    refine lv_aload_n hx hb dX3_at_5 rfl (lv_at hl 0 rfl) ?_
    refine hq_getI (o := v0) C hs fX3_at_24 hv0 (by decide) rfl dX3_at_6 (fun g1 => ?_)
    refine hq_icmp_ge (tgt := 21) C rv1 g1 dX3_at_9 (by decide) (fun h => ?_) (fun h => ?_)
    · have hw := hw.1 h
      refine lv_null hx hb dX3_at_21 ?_
      refine hq_goto (tgt := 31) C dX3_at_22 (by decide) ?_
      exact hq_aretN C hs ⟨rfl, hw⟩ dX3_at_31
    · have hw := hw.2 h
      refine lv_iload_n hx hb dX3_at_12 rfl (lv_at hl 1 rfl) ?_
      refine lv_aload_n hx hb dX3_at_13 rfl (lv_at hl 0 rfl) ?_
      refine hq_getR (o := v0) C hs fX3_at_17 hv0 (by decide) rfl dX3_at_14 ?_
      refine hq_alen (o := (v0 + 1)) C hs (tc_3_0 hv0) (by decide) dX3_at_17 ?_
      refine hq_icmp_lt (tgt := 25) C rv1 (hq_lenrg _) dX3_at_18 (by decide) (fun h => ?_) (fun h => ?_)
      · have hw := hw.1 h
        refine lv_aload_n hx hb dX3_at_25 rfl (lv_at hl 0 rfl) ?_
        refine hq_getR (o := v0) C hs fX3_at_17 hv0 (by decide) rfl dX3_at_26 ?_
        refine lv_iload_n hx hb dX3_at_29 rfl (lv_at hl 1 rfl) ?_
        obtain ⟨g2, hw⟩ := hw
        refine hq_aald (o := (v0 + 1)) C hs (tc_3_0 hv0) (by decide) rv1 g2 dX3_at_30 ?_
        have ho3 := tel_17 (tc_3_0 hv0) (i := v1.toNat) (by have := g2.1; have := g2.2; omega)
        obtain ⟨o3, eo3⟩ : ∃ y : Nat, y = (v0 + 1) + 1 + 5 * v1.toNat := ⟨_, rfl⟩
        rw [← eo3] at ho3 ⊢
        have hw := hw o3 eo3
        exact hq_aret C hs ho3 ⟨rfl, hw⟩ dX3_at_31
      · have hw := hw.2 h
        refine lv_null hx hb dX3_at_21 ?_
        refine hq_goto (tgt := 31) C dX3_at_22 (by decide) ?_
        exact hq_aretN C hs ⟨rfl, hw⟩ dX3_at_31
theorem iX3_next_3 : ∀ w ∈ u_ws RX3 TX3 2, w ∈ wsX3_next := fun w h => List.mem_cons_of_mem _ (List.mem_append_right _ h)
set_option maxRecDepth 20000 in
theorem fX3_next_17 : hq_fl vwCl wsX3_next RX3 17 3 0 true (.array (.object "HeadTables$Pair")) := ⟨RX3, TX3, 2, tyX3, rfl, by decide, iX3_next_3, by decide +kernel, rfl, tyX3_ok 0 (by decide), tyX3_ok, nmX3⟩
set_option maxRecDepth 20000 in
theorem fX3_next_24 : hq_fl vwCl wsX3_next RX3 24 3 1 false .int := ⟨RX3, TX3, 2, tyX3, rfl, by decide, iX3_next_3, by decide +kernel, rfl, tyX3_ok 1 (by decide), tyX3_ok, nmX3⟩
set_option maxHeartbeats 4000000 in
set_option maxRecDepth 100000 in
theorem c_X3_next (l : Launch) {D : va_G} {cA : Nat → ClassId} {B : Nat} {Z : State → Prop} (hZ : hq_Zo Z (hq_in B YC.length)) (v0 : Nat) (hv0 : YC[v0]? = some (3, 0)) (M : hq_M) (k : Option Nat → Prop) (hw : w_X3_next v0 M k) : hq_T vwCl SLx l yX3_next wsX3_next ({ frames := 0, cells := 0, slots := 0, locals := 0 } : Room) D cA YC B Z [.ref (B + v0)] M (hq_qr YC B 2 (fun z M' => M' = M ∧ k z)) := by
  refine hq_meth (cc := cX3_next) (maxL := 1) (ret := (some (.object "HeadTables$Pair"))) (own := RX3) hZ rfl (by decide +kernel) rfl (Nat.le_of_ble_eq_true rfl) ?_
  intro p e s m below meth c ls C hs hl
  have hx := C.1.1
  have hb := C.1.2.1
  unfold w_X3_next at hw
  have hl : lv_has ls 1 [(0, .ref (B + v0))] := hl
  refine lv_aload_n hx hb dX3_next_0 rfl (lv_at hl 0 rfl) ?_
  refine hq_getI (o := v0) C hs fX3_next_24 hv0 (by decide) rfl dX3_next_1 (fun g1 => ?_)
  refine hq_if_lt (tgt := 19) C g1 dX3_next_4 (by decide) (fun h => ?_) (fun h => ?_)
  · have hw := hw.1 h
    refine lv_null hx hb dX3_next_19 ?_
    refine hq_goto (tgt := 32) C dX3_next_20 (by decide) ?_
    exact hq_aretN C hs ⟨rfl, hw⟩ dX3_next_32
  · have hw := hw.2 h
    refine lv_aload_n hx hb dX3_next_7 rfl (lv_at hl 0 rfl) ?_
    refine hq_getI (o := v0) C hs fX3_next_24 hv0 (by decide) rfl dX3_next_8 (fun g2 => ?_)
    refine lv_aload_n hx hb dX3_next_11 rfl (lv_at hl 0 rfl) ?_
    refine hq_getR (o := v0) C hs fX3_next_17 hv0 (by decide) rfl dX3_next_12 ?_
    refine hq_alen (o := (v0 + 1)) C hs (tc_3_0 hv0) (by decide) dX3_next_15 ?_
    refine hq_icmp_lt (tgt := 23) C g2 (hq_lenrg _) dX3_next_16 (by decide) (fun h => ?_) (fun h => ?_)
    · have hw := hw.1 h
      refine lv_aload_n hx hb dX3_next_23 rfl (lv_at hl 0 rfl) ?_
      refine hq_getR (o := v0) C hs fX3_next_17 hv0 (by decide) rfl dX3_next_24 ?_
      refine lv_aload_n hx hb dX3_next_27 rfl (lv_at hl 0 rfl) ?_
      refine hq_getI (o := v0) C hs fX3_next_24 hv0 (by decide) rfl dX3_next_28 (fun g3 => ?_)
      obtain ⟨g4, hw⟩ := hw
      refine hq_aald (o := (v0 + 1)) C hs (tc_3_0 hv0) (by decide) g3 g4 dX3_next_31 ?_
      have ho5 := tel_17 (tc_3_0 hv0) (i := (M v0 1).toNat) (by have := g4.1; have := g4.2; omega)
      obtain ⟨o5, eo5⟩ : ∃ y : Nat, y = (v0 + 1) + 1 + 5 * (M v0 1).toNat := ⟨_, rfl⟩
      rw [← eo5] at ho5 ⊢
      have hw := hw o5 eo5
      exact hq_aret C hs ho5 ⟨rfl, hw⟩ dX3_next_32
    · have hw := hw.2 h
      refine lv_null hx hb dX3_next_19 ?_
      refine hq_goto (tgt := 32) C dX3_next_20 (by decide) ?_
      exact hq_aretN C hs ⟨rfl, hw⟩ dX3_next_32
theorem iX6_same_6 : ∀ w ∈ u_ws RX6 TX6 2, w ∈ wsX6_same := fun w h => List.mem_cons_of_mem _ (List.mem_append_right _ h)
set_option maxRecDepth 20000 in
theorem fX6_same_15 : hq_fl vwCl wsX6_same RX6 15 6 0 true (.array .int) := ⟨RX6, TX6, 2, tyX6, rfl, by decide, iX6_same_6, by decide +kernel, rfl, tyX6_ok 0 (by decide), tyX6_ok, nmX6⟩
set_option maxRecDepth 20000 in
theorem fX6_same_21 : hq_fl vwCl wsX6_same RX6 21 6 1 false .int := ⟨RX6, TX6, 2, tyX6, rfl, by decide, iX6_same_6, by decide +kernel, rfl, tyX6_ok 1 (by decide), tyX6_ok, nmX6⟩
set_option maxHeartbeats 4000000 in
set_option maxRecDepth 100000 in
theorem cl_X6_same_15 {p : Program} {l : Launch} {e : Env} {s : State} {m : MethodId} {args : Array Value} {below : List Frame} {meth : Method} {c : Code} {D : va_G} {cA : Nat → ClassId} {B : Nat} {Z : State → Prop} (v0 : Nat) (hv0 : YC[v0]? = some (6, 0)) (v1 : Nat) (hv1 : YC[v1]? = some (6, 0))  {k : Int → Prop} {M : hq_M} (C : hq_C vwCl p m c cX6_same 3 s args wsX6_same RX6 meth (some .boolean) D cA (hq_in B YC.length) Z)
     : ∀ (n : Nat) (v2 : Int) (rv2 : rg v2) (H : Heap) (locs : List Loc) (ls : Array Slot), l_X6_same_15 v0 v1 k M n v2 → hq_S vwCl SLx D cA YC B s.heap M H locs → lv_has ls 3 [(0, .ref (B + v0)), (1, .ref (B + v1)), (2, .int (w3 v2))] → W p l e ({ frames := 0, cells := 0, slots := 0, locals := 0 } : Room) s m args below meth c H locs 0 0 (MQ below (hq_Q vwCl SLx D cA YC B (hq_qz (fun z M' => M' = M ∧ k z))) args s 0 0 (hq_in B YC.length)) (F0 m 15 ls []) := by
  have hx := C.1.1
  have hb := C.1.2.1
  intro n
  induction n with
  | zero => intro v2 rv2 H locs ls hw hs hl; exact hw.elim
  | succ n ih =>
    intro v2 rv2 H locs ls hw hs hl
    unfold l_X6_same_15 at hw
    refine lv_iload_n hx hb dX6_same_15 rfl (lv_at hl 2 rfl) ?_
    refine lv_aload_n hx hb dX6_same_16 rfl (lv_at hl 0 rfl) ?_
    refine hq_getI (o := v0) C hs fX6_same_21 hv0 (by decide) rfl dX6_same_17 (fun g1 => ?_)
    refine hq_icmp_ge (tgt := 64) C rv2 g1 dX6_same_20 (by decide) (fun h => ?_) (fun h => ?_)
    · have hw := hw.1 h
      refine hq_iconst C dX6_same_64 ?_
      exact hq_zret C hs (by decide) ⟨rfl, hw⟩ dX6_same_65
    · have hw := hw.2 h
      refine lv_iload_n hx hb dX6_same_23 rfl (lv_at hl 2 rfl) ?_
      refine lv_aload_n hx hb dX6_same_24 rfl (lv_at hl 0 rfl) ?_
      refine hq_getR (o := v0) C hs fX6_same_15 hv0 (by decide) rfl dX6_same_25 ?_
      refine hq_alen (o := (v0 + 1)) C hs (tc_6_0 hv0) (by decide) dX6_same_28 ?_
      refine hq_icmp_ge (tgt := 64) C rv2 (hq_lenrg _) dX6_same_29 (by decide) (fun h => ?_) (fun h => ?_)
      · have hw := hw.1 h
        refine hq_iconst C dX6_same_64 ?_
        exact hq_zret C hs (by decide) ⟨rfl, hw⟩ dX6_same_65
      · have hw := hw.2 h
        refine lv_iload_n hx hb dX6_same_32 rfl (lv_at hl 2 rfl) ?_
        refine lv_aload_n hx hb dX6_same_33 rfl (lv_at hl 1 rfl) ?_
        refine hq_getR (o := v1) C hs fX6_same_15 hv1 (by decide) rfl dX6_same_34 ?_
        refine hq_alen (o := (v1 + 1)) C hs (tc_6_0 hv1) (by decide) dX6_same_37 ?_
        refine hq_icmp_ge (tgt := 64) C rv2 (hq_lenrg _) dX6_same_38 (by decide) (fun h => ?_) (fun h => ?_)
        · have hw := hw.1 h
          refine hq_iconst C dX6_same_64 ?_
          exact hq_zret C hs (by decide) ⟨rfl, hw⟩ dX6_same_65
        · have hw := hw.2 h
          refine lv_aload_n hx hb dX6_same_41 rfl (lv_at hl 0 rfl) ?_
          refine hq_getR (o := v0) C hs fX6_same_15 hv0 (by decide) rfl dX6_same_42 ?_
          refine lv_iload_n hx hb dX6_same_45 rfl (lv_at hl 2 rfl) ?_
          obtain ⟨g2, hw⟩ := hw
          refine hq_iald (o := (v0 + 1)) C hs (tc_6_0 hv0) rv2 g2 dX6_same_46 (fun g3 => ?_)
          refine lv_aload_n hx hb dX6_same_47 rfl (lv_at hl 1 rfl) ?_
          refine hq_getR (o := v1) C hs fX6_same_15 hv1 (by decide) rfl dX6_same_48 ?_
          refine lv_iload_n hx hb dX6_same_51 rfl (lv_at hl 2 rfl) ?_
          obtain ⟨g4, hw⟩ := hw
          refine hq_iald (o := (v1 + 1)) C hs (tc_6_0 hv1) rv2 g4 dX6_same_52 (fun g5 => ?_)
          refine hq_icmp_eq (tgt := 58) C g3 g5 dX6_same_53 (by decide) (fun h => ?_) (fun h => ?_)
          · have hw := hw.1 h
            obtain ⟨g7, hw⟩ := hw
            refine hq_iinc (k := 2) C dX6_same_58 hl rfl (by decide) (fun x6 ex6 ls hl => ?_)
            have hw := hw x6 ex6
            have rx6 : rg x6 := by rw [ex6]; exact g7
            have hl : lv_has ls 3 [(2, .int (w3 x6)), (0, .ref (B + v0)), (1, .ref (B + v1))] := hl
            refine hq_goto (tgt := 15) C dX6_same_61 (by decide) ?_
            exact ih x6 rx6 _ _ _ hw hs (lv_sub hl [1, 2, 0] rfl)
          · have hw := hw.2 h
            refine hq_iconst C dX6_same_56 ?_
            exact hq_zret C hs (by decide) ⟨rfl, hw⟩ dX6_same_57
set_option maxHeartbeats 4000000 in
set_option maxRecDepth 100000 in
theorem c_X6_same (l : Launch) {D : va_G} {cA : Nat → ClassId} {B : Nat} {Z : State → Prop} (hZ : hq_Zo Z (hq_in B YC.length)) (v0 : Nat) (hv0 : YC[v0]? = some (6, 0)) (v1 : Nat) (hv1 : YC[v1]? = some (6, 0)) (M : hq_M) (k : Int → Prop) (hw : w_X6_same v0 v1 M k) : hq_T vwCl SLx l yX6_same wsX6_same ({ frames := 0, cells := 0, slots := 0, locals := 0 } : Room) D cA YC B Z [.ref (B + v0), .ref (B + v1)] M (hq_qz (fun z M' => M' = M ∧ k z)) := by
  refine hq_meth (cc := cX6_same) (maxL := 3) (ret := (some .boolean)) (own := RX6) hZ rfl (by decide +kernel) rfl (Nat.le_of_ble_eq_true rfl) ?_
  intro p e s m below meth c ls C hs hl
  have hx := C.1.1
  have hb := C.1.2.1
  unfold w_X6_same at hw
  have hl : lv_has ls 3 [(0, .ref (B + v0)), (1, .ref (B + v1))] := hl
  refine lv_aload_n hx hb dX6_same_0 rfl (lv_at hl 0 rfl) ?_
  refine hq_getI (o := v0) C hs fX6_same_21 hv0 (by decide) rfl dX6_same_1 (fun g1 => ?_)
  refine lv_aload_n hx hb dX6_same_4 rfl (lv_at hl 1 rfl) ?_
  refine hq_getI (o := v1) C hs fX6_same_21 hv1 (by decide) rfl dX6_same_5 (fun g2 => ?_)
  refine hq_icmp_eq (tgt := 13) C g1 g2 dX6_same_8 (by decide) (fun h => ?_) (fun h => ?_)
  · have hw := hw.1 h
    refine hq_iconst C dX6_same_13 ?_
    refine lv_istore_n (lv' := [(2, .int (w3 0)), (0, .ref (B + v0)), (1, .ref (B + v1))]) hx hb dX6_same_14 rfl hl (by decide) rfl (fun ls hl => ?_)
    obtain ⟨n9, hw⟩ := hw
    refine cl_X6_same_15 v0 hv0 v1 hv1 C  n9 0 (by decide : rg 0) _ _ _ hw hs (lv_sub hl [1, 2, 0] rfl)
  · have hw := hw.2 h
    refine hq_iconst C dX6_same_11 ?_
    exact hq_zret C hs (by decide) ⟨rfl, hw⟩ dX6_same_12
theorem iX3_lowestNamed_2 : ∀ w ∈ u_ws RX2 TX2 2, w ∈ wsX3_lowestNamed := fun w h => List.mem_cons_of_mem _ (List.mem_append_left _ (List.mem_append_right _ h))
theorem iX3_lowestNamed_3 : ∀ w ∈ u_ws RX3 TX3 2, w ∈ wsX3_lowestNamed := fun w h => List.mem_cons_of_mem _ (List.mem_append_left _ (List.mem_append_left _ (List.mem_append_right _ h)))
set_option maxRecDepth 20000 in
theorem fX3_lowestNamed_24 : hq_fl vwCl wsX3_lowestNamed RX3 24 3 1 false .int := ⟨RX3, TX3, 2, tyX3, rfl, by decide, iX3_lowestNamed_3, by decide +kernel, rfl, tyX3_ok 1 (by decide), tyX3_ok, nmX3⟩
set_option maxRecDepth 20000 in
theorem fX3_lowestNamed_32 : hq_fl vwCl wsX3_lowestNamed RX3 32 2 0 true (.object "HeadTables$Row") := ⟨RX2, TX2, 2, tyX2, rfl, by decide, iX3_lowestNamed_2, by decide +kernel, rfl, tyX2_ok 0 (by decide), tyX2_ok, nmX2⟩
set_option maxHeartbeats 4000000 in
set_option maxRecDepth 100000 in
theorem cb_X3_lowestNamed_36 {p : Program} {l : Launch} {e : Env} {s : State} {m : MethodId} {args : Array Value} {below : List Frame} {meth : Method} {c : Code} {D : va_G} {cA : Nat → ClassId} {B : Nat} {Z : State → Prop} (v0 : Nat) (hv0 : YC[v0]? = some (3, 0)) (v1 : Nat) (hv1 : YC[v1]? = some (2, 0)) (v2 : Int) (rv2 : rg v2) {k_2 : Int → Prop} {k : Int → Prop} {M : hq_M} {H : Heap} {locs : List Loc} {ls : Array Slot} (C : hq_C vwCl p m c cX3_lowestNamed 4 s args wsX3_lowestNamed RX3 meth (some .int) D cA (hq_in B YC.length) Z)
    (hw : b_X3_lowestNamed_36 v0 v1 v2 k_2 k M) (hs : hq_S vwCl SLx D cA YC B s.heap M H locs) (hl : lv_has ls 4 [(0, .ref (B + v0)), (1, .ref (B + v1)), (2, .int (w3 v2))])
    (hk_2 : ∀ (y2 : Int) (ry2 : rg y2) (H : Heap) (locs : List Loc) (ls : Array Slot), k_2 y2 → hq_S vwCl SLx D cA YC B s.heap M H locs → lv_has ls 4 [(0, .ref (B + v0)), (1, .ref (B + v1)), (2, .int (w3 y2))] → W p l e ({ frames := 1, cells := 0, slots := 0, locals := 22 } : Room) s m args below meth c H locs 0 0 (MQ below (hq_Q vwCl SLx D cA YC B (hq_qi (fun z M' => M' = M ∧ k z))) args s 0 0 (hq_in B YC.length)) (F0 m 2 ls [])) : W p l e ({ frames := 1, cells := 0, slots := 0, locals := 22 } : Room) s m args below meth c H locs 0 0 (MQ below (hq_Q vwCl SLx D cA YC B (hq_qi (fun z M' => M' = M ∧ k z))) args s 0 0 (hq_in B YC.length)) (F0 m 36 ls []) := by
  have hx := C.1.1
  have hb := C.1.2.1
  unfold b_X3_lowestNamed_36 at hw
  obtain ⟨g2, hw⟩ := hw
  refine hq_iinc (k := 2) C dX3_lowestNamed_36 hl rfl (by decide) (fun x1 ex1 ls hl => ?_)
  have hw := hw x1 ex1
  have rx1 : rg x1 := by rw [ex1]; exact g2
  have hl : lv_has ls 4 [(2, .int (w3 x1)), (0, .ref (B + v0)), (1, .ref (B + v1))] := hl
  refine hq_goto (tgt := 2) C dX3_lowestNamed_39 (by decide) ?_
  exact hk_2 x1 rx1 _ _ _ hw hs (lv_sub hl [1, 2, 0] rfl)
set_option maxHeartbeats 4000000 in
set_option maxRecDepth 100000 in
theorem cl_X3_lowestNamed_2 {p : Program} {l : Launch} {e : Env} {s : State} {m : MethodId} {args : Array Value} {below : List Frame} {meth : Method} {c : Code} {D : va_G} {cA : Nat → ClassId} {B : Nat} {Z : State → Prop} (v0 : Nat) (hv0 : YC[v0]? = some (3, 0)) (v1 : Nat) (hv1 : YC[v1]? = some (2, 0))  {k : Int → Prop} {M : hq_M} (C : hq_C vwCl p m c cX3_lowestNamed 4 s args wsX3_lowestNamed RX3 meth (some .int) D cA (hq_in B YC.length) Z)
     : ∀ (n : Nat) (v2 : Int) (rv2 : rg v2) (H : Heap) (locs : List Loc) (ls : Array Slot), l_X3_lowestNamed_2 v0 v1 k M n v2 → hq_S vwCl SLx D cA YC B s.heap M H locs → lv_has ls 4 [(0, .ref (B + v0)), (1, .ref (B + v1)), (2, .int (w3 v2))] → W p l e ({ frames := 1, cells := 0, slots := 0, locals := 22 } : Room) s m args below meth c H locs 0 0 (MQ below (hq_Q vwCl SLx D cA YC B (hq_qi (fun z M' => M' = M ∧ k z))) args s 0 0 (hq_in B YC.length)) (F0 m 2 ls []) := by
  have hx := C.1.1
  have hb := C.1.2.1
  intro n
  induction n with
  | zero => intro v2 rv2 H locs ls hw hs hl; exact hw.elim
  | succ n ih =>
    intro v2 rv2 H locs ls hw hs hl
    unfold l_X3_lowestNamed_2 at hw
    refine lv_iload_n hx hb dX3_lowestNamed_2 rfl (lv_at hl 2 rfl) ?_
    refine lv_aload_n hx hb dX3_lowestNamed_3 rfl (lv_at hl 0 rfl) ?_
    refine hq_getI (o := v0) C hs fX3_lowestNamed_24 hv0 (by decide) rfl dX3_lowestNamed_4 (fun g1 => ?_)
    refine hq_icmp_ge (tgt := 42) C rv2 g1 dX3_lowestNamed_7 (by decide) (fun h => ?_) (fun h => ?_)
    · have hw := hw.1 h
      refine hq_bipush C dX3_lowestNamed_42 (by decide) ?_
      exact hq_iret C hs (by decide : rg (-9)) ⟨rfl, hw⟩ dX3_lowestNamed_44
    · have hw := hw.2 h
      refine lv_aload_n hx hb dX3_lowestNamed_10 rfl (lv_at hl 0 rfl) ?_
      refine lv_iload_n hx hb dX3_lowestNamed_11 rfl (lv_at hl 2 rfl) ?_
      refine hq_cV (n := 1) (ci := 3) (o := v0) (qc := (TX3, 2)) C hs (c_X3_at l C.2.2.2.2.1 v0 hv0 v2 rv2 _ _ hw) gX3_lowestNamed_X3_at rfl ⟨rfl, rfl⟩ (by decide +kernel) ⟨Nat.le_of_ble_eq_true rfl, Nat.le_of_ble_eq_true rfl⟩ hv0 (by decide) rfl rfl hl.1 rfl (Nat.le_of_ble_eq_true rfl) dX3_lowestNamed_12 (hq_kr (fun M9 H locs hw hs => ?_) (fun o2 M9 H locs ho2 hw hs => ?_))
      · obtain ⟨e9, hw⟩ := hw; rw [e9] at hs
        have hw := hw.1 rfl
        refine lv_astore_nN (lv' := [(3, .null), (0, .ref (B + v0)), (1, .ref (B + v1)), (2, .int (w3 v2))]) hx hb dX3_lowestNamed_15 rfl hl (by decide) rfl (fun ls hl => ?_)
        refine lv_aload_nN hx hb dX3_lowestNamed_16 rfl (lv_at hl 0 rfl) ?_
        refine lv_ifnullN (tgt := 36) hx hb dX3_lowestNamed_17 (by decide) ?_
        refine cb_X3_lowestNamed_36 v0 hv0 v1 hv1 v2 rv2 C hw hs (lv_sub hl [1, 2, 3] rfl) ?_
        · intro y2 ry2 H locs ls hw hs hl
          exact ih y2 ry2 _ _ _ hw hs (lv_sub hl [0, 1, 2] rfl)
      · obtain ⟨e9, hw⟩ := hw; rw [e9] at hs
        have hw := hw.2 o2 rfl
        refine lv_astore_n (lv' := [(3, .ref (B + o2)), (0, .ref (B + v0)), (1, .ref (B + v1)), (2, .int (w3 v2))]) hx hb dX3_lowestNamed_15 rfl hl (by decide) rfl (fun ls hl => ?_)
        refine lv_aload_n hx hb dX3_lowestNamed_16 rfl (lv_at hl 0 rfl) ?_
        refine lv_ifnull hx hb dX3_lowestNamed_17 ?_
        refine lv_aload_n hx hb dX3_lowestNamed_20 rfl (lv_at hl 0 rfl) ?_
        refine hq_getR (o := o2) C hs fX3_lowestNamed_32 ho2 (by decide) rfl dX3_lowestNamed_21 ?_
        refine lv_aload_n hx hb dX3_lowestNamed_24 rfl (lv_at hl 2 rfl) ?_
        refine hq_getR (o := v1) C hs fX3_lowestNamed_32 hv1 (by decide) rfl dX3_lowestNamed_25 ?_
        refine hq_cV (n := 1) (ci := 6) (o := (o2 + 1)) (qc := (TX6, 2)) C hs (c_X6_same l C.2.2.2.2.1 (o2 + 1) (tc_2_0 ho2) (v1 + 1) (tc_2_0 hv1) _ _ hw) gX3_lowestNamed_X6_same rfl ⟨rfl, rfl⟩ (by decide +kernel) ⟨Nat.le_of_ble_eq_true rfl, Nat.le_of_ble_eq_true rfl⟩ (tc_2_0 ho2) (by decide) rfl rfl hl.1 rfl (Nat.le_of_ble_eq_true rfl) dX3_lowestNamed_28 (hq_kz (fun x4 M9 H locs rx4 hw hs => ?_))
        obtain ⟨e9, hw⟩ := hw; rw [e9] at hs
        refine hq_if_eq (tgt := 36) C (rb_rg rx4) dX3_lowestNamed_31 (by decide) (fun h => ?_) (fun h => ?_)
        · have hw := hw.1 h
          refine cb_X3_lowestNamed_36 v0 hv0 v1 hv1 v2 rv2 C hw hs (lv_sub hl [1, 2, 3] rfl) ?_
          · intro y2 ry2 H locs ls hw hs hl
            exact ih y2 ry2 _ _ _ hw hs (lv_sub hl [0, 1, 2] rfl)
        · have hw := hw.2 h
          refine lv_iload_n hx hb dX3_lowestNamed_34 rfl (lv_at hl 3 rfl) ?_
          exact hq_iret C hs rv2 ⟨rfl, hw⟩ dX3_lowestNamed_35
set_option maxHeartbeats 4000000 in
set_option maxRecDepth 100000 in
theorem c_X3_lowestNamed (l : Launch) {D : va_G} {cA : Nat → ClassId} {B : Nat} {Z : State → Prop} (hZ : hq_Zo Z (hq_in B YC.length)) (v0 : Nat) (hv0 : YC[v0]? = some (3, 0)) (v1 : Nat) (hv1 : YC[v1]? = some (2, 0)) (M : hq_M) (k : Int → Prop) (hw : w_X3_lowestNamed v0 v1 M k) : hq_T vwCl SLx l yX3_lowestNamed wsX3_lowestNamed ({ frames := 1, cells := 0, slots := 0, locals := 22 } : Room) D cA YC B Z [.ref (B + v0), .ref (B + v1)] M (hq_qi (fun z M' => M' = M ∧ k z)) := by
  refine hq_meth (cc := cX3_lowestNamed) (maxL := 4) (ret := (some .int)) (own := RX3) hZ rfl (by decide +kernel) rfl (Nat.le_of_ble_eq_true rfl) ?_
  intro p e s m below meth c ls C hs hl
  have hx := C.1.1
  have hb := C.1.2.1
  unfold w_X3_lowestNamed at hw
  have hl : lv_has ls 4 [(0, .ref (B + v0)), (1, .ref (B + v1))] := hl
  refine hq_iconst C dX3_lowestNamed_0 ?_
  refine lv_istore_n (lv' := [(2, .int (w3 0)), (0, .ref (B + v0)), (1, .ref (B + v1))]) hx hb dX3_lowestNamed_1 rfl hl (by decide) rfl (fun ls hl => ?_)
  obtain ⟨n9, hw⟩ := hw
  refine cl_X3_lowestNamed_2 v0 hv0 v1 hv1 C  n9 0 (by decide : rg 0) _ _ _ hw hs (lv_sub hl [1, 2, 0] rfl)
theorem iX3_lowestLike_2 : ∀ w ∈ u_ws RX2 TX2 2, w ∈ wsX3_lowestLike := fun w h => List.mem_cons_of_mem _ (List.mem_append_left _ (List.mem_append_right _ h))
theorem iX3_lowestLike_3 : ∀ w ∈ u_ws RX3 TX3 2, w ∈ wsX3_lowestLike := fun w h => List.mem_cons_of_mem _ (List.mem_append_left _ (List.mem_append_left _ (List.mem_append_right _ h)))
set_option maxRecDepth 20000 in
theorem fX3_lowestLike_24 : hq_fl vwCl wsX3_lowestLike RX3 24 3 1 false .int := ⟨RX3, TX3, 2, tyX3, rfl, by decide, iX3_lowestLike_3, by decide +kernel, rfl, tyX3_ok 1 (by decide), tyX3_ok, nmX3⟩
set_option maxRecDepth 20000 in
theorem fX3_lowestLike_32 : hq_fl vwCl wsX3_lowestLike RX3 32 2 0 true (.object "HeadTables$Row") := ⟨RX2, TX2, 2, tyX2, rfl, by decide, iX3_lowestLike_2, by decide +kernel, rfl, tyX2_ok 0 (by decide), tyX2_ok, nmX2⟩
set_option maxRecDepth 20000 in
theorem fX3_lowestLike_42 : hq_fl vwCl wsX3_lowestLike RX3 42 2 1 true (.object "HeadTables$Row") := ⟨RX2, TX2, 2, tyX2, rfl, by decide, iX3_lowestLike_2, by decide +kernel, rfl, tyX2_ok 1 (by decide), tyX2_ok, nmX2⟩
set_option maxHeartbeats 4000000 in
set_option maxRecDepth 100000 in
theorem cb_X3_lowestLike_50 {p : Program} {l : Launch} {e : Env} {s : State} {m : MethodId} {args : Array Value} {below : List Frame} {meth : Method} {c : Code} {D : va_G} {cA : Nat → ClassId} {B : Nat} {Z : State → Prop} (v0 : Nat) (hv0 : YC[v0]? = some (3, 0)) (v1 : Nat) (hv1 : YC[v1]? = some (2, 0)) (v2 : Int) (rv2 : rg v2) {k_2 : Int → Prop} {k : Int → Prop} {M : hq_M} {H : Heap} {locs : List Loc} {ls : Array Slot} (C : hq_C vwCl p m c cX3_lowestLike 4 s args wsX3_lowestLike RX3 meth (some .int) D cA (hq_in B YC.length) Z)
    (hw : b_X3_lowestLike_50 v0 v1 v2 k_2 k M) (hs : hq_S vwCl SLx D cA YC B s.heap M H locs) (hl : lv_has ls 4 [(0, .ref (B + v0)), (1, .ref (B + v1)), (2, .int (w3 v2))])
    (hk_2 : ∀ (y2 : Int) (ry2 : rg y2) (H : Heap) (locs : List Loc) (ls : Array Slot), k_2 y2 → hq_S vwCl SLx D cA YC B s.heap M H locs → lv_has ls 4 [(0, .ref (B + v0)), (1, .ref (B + v1)), (2, .int (w3 y2))] → W p l e ({ frames := 1, cells := 0, slots := 0, locals := 22 } : Room) s m args below meth c H locs 0 0 (MQ below (hq_Q vwCl SLx D cA YC B (hq_qi (fun z M' => M' = M ∧ k z))) args s 0 0 (hq_in B YC.length)) (F0 m 2 ls [])) : W p l e ({ frames := 1, cells := 0, slots := 0, locals := 22 } : Room) s m args below meth c H locs 0 0 (MQ below (hq_Q vwCl SLx D cA YC B (hq_qi (fun z M' => M' = M ∧ k z))) args s 0 0 (hq_in B YC.length)) (F0 m 50 ls []) := by
  have hx := C.1.1
  have hb := C.1.2.1
  unfold b_X3_lowestLike_50 at hw
  obtain ⟨g2, hw⟩ := hw
  refine hq_iinc (k := 2) C dX3_lowestLike_50 hl rfl (by decide) (fun x1 ex1 ls hl => ?_)
  have hw := hw x1 ex1
  have rx1 : rg x1 := by rw [ex1]; exact g2
  have hl : lv_has ls 4 [(2, .int (w3 x1)), (0, .ref (B + v0)), (1, .ref (B + v1))] := hl
  refine hq_goto (tgt := 2) C dX3_lowestLike_53 (by decide) ?_
  exact hk_2 x1 rx1 _ _ _ hw hs (lv_sub hl [1, 2, 0] rfl)
set_option maxHeartbeats 4000000 in
set_option maxRecDepth 100000 in
theorem cl_X3_lowestLike_2 {p : Program} {l : Launch} {e : Env} {s : State} {m : MethodId} {args : Array Value} {below : List Frame} {meth : Method} {c : Code} {D : va_G} {cA : Nat → ClassId} {B : Nat} {Z : State → Prop} (v0 : Nat) (hv0 : YC[v0]? = some (3, 0)) (v1 : Nat) (hv1 : YC[v1]? = some (2, 0))  {k : Int → Prop} {M : hq_M} (C : hq_C vwCl p m c cX3_lowestLike 4 s args wsX3_lowestLike RX3 meth (some .int) D cA (hq_in B YC.length) Z)
     : ∀ (n : Nat) (v2 : Int) (rv2 : rg v2) (H : Heap) (locs : List Loc) (ls : Array Slot), l_X3_lowestLike_2 v0 v1 k M n v2 → hq_S vwCl SLx D cA YC B s.heap M H locs → lv_has ls 4 [(0, .ref (B + v0)), (1, .ref (B + v1)), (2, .int (w3 v2))] → W p l e ({ frames := 1, cells := 0, slots := 0, locals := 22 } : Room) s m args below meth c H locs 0 0 (MQ below (hq_Q vwCl SLx D cA YC B (hq_qi (fun z M' => M' = M ∧ k z))) args s 0 0 (hq_in B YC.length)) (F0 m 2 ls []) := by
  have hx := C.1.1
  have hb := C.1.2.1
  intro n
  induction n with
  | zero => intro v2 rv2 H locs ls hw hs hl; exact hw.elim
  | succ n ih =>
    intro v2 rv2 H locs ls hw hs hl
    unfold l_X3_lowestLike_2 at hw
    refine lv_iload_n hx hb dX3_lowestLike_2 rfl (lv_at hl 2 rfl) ?_
    refine lv_aload_n hx hb dX3_lowestLike_3 rfl (lv_at hl 0 rfl) ?_
    refine hq_getI (o := v0) C hs fX3_lowestLike_24 hv0 (by decide) rfl dX3_lowestLike_4 (fun g1 => ?_)
    refine hq_icmp_ge (tgt := 56) C rv2 g1 dX3_lowestLike_7 (by decide) (fun h => ?_) (fun h => ?_)
    · have hw := hw.1 h
      refine hq_bipush C dX3_lowestLike_56 (by decide) ?_
      exact hq_iret C hs (by decide : rg (-9)) ⟨rfl, hw⟩ dX3_lowestLike_58
    · have hw := hw.2 h
      refine lv_aload_n hx hb dX3_lowestLike_10 rfl (lv_at hl 0 rfl) ?_
      refine lv_iload_n hx hb dX3_lowestLike_11 rfl (lv_at hl 2 rfl) ?_
      refine hq_cV (n := 1) (ci := 3) (o := v0) (qc := (TX3, 2)) C hs (c_X3_at l C.2.2.2.2.1 v0 hv0 v2 rv2 _ _ hw) gX3_lowestLike_X3_at rfl ⟨rfl, rfl⟩ (by decide +kernel) ⟨Nat.le_of_ble_eq_true rfl, Nat.le_of_ble_eq_true rfl⟩ hv0 (by decide) rfl rfl hl.1 rfl (Nat.le_of_ble_eq_true rfl) dX3_lowestLike_12 (hq_kr (fun M9 H locs hw hs => ?_) (fun o2 M9 H locs ho2 hw hs => ?_))
      · obtain ⟨e9, hw⟩ := hw; rw [e9] at hs
        have hw := hw.1 rfl
        refine lv_astore_nN (lv' := [(3, .null), (0, .ref (B + v0)), (1, .ref (B + v1)), (2, .int (w3 v2))]) hx hb dX3_lowestLike_15 rfl hl (by decide) rfl (fun ls hl => ?_)
        refine lv_aload_nN hx hb dX3_lowestLike_16 rfl (lv_at hl 0 rfl) ?_
        refine lv_ifnullN (tgt := 50) hx hb dX3_lowestLike_17 (by decide) ?_
        refine cb_X3_lowestLike_50 v0 hv0 v1 hv1 v2 rv2 C hw hs (lv_sub hl [1, 2, 3] rfl) ?_
        · intro y2 ry2 H locs ls hw hs hl
          exact ih y2 ry2 _ _ _ hw hs (lv_sub hl [0, 1, 2] rfl)
      · obtain ⟨e9, hw⟩ := hw; rw [e9] at hs
        have hw := hw.2 o2 rfl
        refine lv_astore_n (lv' := [(3, .ref (B + o2)), (0, .ref (B + v0)), (1, .ref (B + v1)), (2, .int (w3 v2))]) hx hb dX3_lowestLike_15 rfl hl (by decide) rfl (fun ls hl => ?_)
        refine lv_aload_n hx hb dX3_lowestLike_16 rfl (lv_at hl 0 rfl) ?_
        refine lv_ifnull hx hb dX3_lowestLike_17 ?_
        refine lv_aload_n hx hb dX3_lowestLike_20 rfl (lv_at hl 0 rfl) ?_
        refine hq_getR (o := o2) C hs fX3_lowestLike_32 ho2 (by decide) rfl dX3_lowestLike_21 ?_
        refine lv_aload_n hx hb dX3_lowestLike_24 rfl (lv_at hl 2 rfl) ?_
        refine hq_getR (o := v1) C hs fX3_lowestLike_32 hv1 (by decide) rfl dX3_lowestLike_25 ?_
        refine hq_cV (n := 1) (ci := 6) (o := (o2 + 1)) (qc := (TX6, 2)) C hs (c_X6_same l C.2.2.2.2.1 (o2 + 1) (tc_2_0 ho2) (v1 + 1) (tc_2_0 hv1) _ _ hw) gX3_lowestLike_X6_same rfl ⟨rfl, rfl⟩ (by decide +kernel) ⟨Nat.le_of_ble_eq_true rfl, Nat.le_of_ble_eq_true rfl⟩ (tc_2_0 ho2) (by decide) rfl rfl hl.1 rfl (Nat.le_of_ble_eq_true rfl) dX3_lowestLike_28 (hq_kz (fun x4 M9 H locs rx4 hw hs => ?_))
        obtain ⟨e9, hw⟩ := hw; rw [e9] at hs
        refine hq_if_eq (tgt := 50) C (rb_rg rx4) dX3_lowestLike_31 (by decide) (fun h => ?_) (fun h => ?_)
        · have hw := hw.1 h
          refine cb_X3_lowestLike_50 v0 hv0 v1 hv1 v2 rv2 C hw hs (lv_sub hl [1, 2, 3] rfl) ?_
          · intro y2 ry2 H locs ls hw hs hl
            exact ih y2 ry2 _ _ _ hw hs (lv_sub hl [0, 1, 2] rfl)
        · have hw := hw.2 h
          refine lv_aload_n hx hb dX3_lowestLike_34 rfl (lv_at hl 0 rfl) ?_
          refine hq_getR (o := o2) C hs fX3_lowestLike_42 ho2 (by decide) rfl dX3_lowestLike_35 ?_
          refine lv_aload_n hx hb dX3_lowestLike_38 rfl (lv_at hl 2 rfl) ?_
          refine hq_getR (o := v1) C hs fX3_lowestLike_42 hv1 (by decide) rfl dX3_lowestLike_39 ?_
          refine hq_cV (n := 1) (ci := 6) (o := (o2 + 3)) (qc := (TX6, 2)) C hs (c_X6_same l C.2.2.2.2.1 (o2 + 3) (tc_2_1 ho2) (v1 + 3) (tc_2_1 hv1) _ _ hw) gX3_lowestLike_X6_same rfl ⟨rfl, rfl⟩ (by decide +kernel) ⟨Nat.le_of_ble_eq_true rfl, Nat.le_of_ble_eq_true rfl⟩ (tc_2_1 ho2) (by decide) rfl rfl hl.1 rfl (Nat.le_of_ble_eq_true rfl) dX3_lowestLike_42 (hq_kz (fun x5 M9 H locs rx5 hw hs => ?_))
          obtain ⟨e9, hw⟩ := hw; rw [e9] at hs
          refine hq_if_eq (tgt := 50) C (rb_rg rx5) dX3_lowestLike_45 (by decide) (fun h => ?_) (fun h => ?_)
          · have hw := hw.1 h
            refine cb_X3_lowestLike_50 v0 hv0 v1 hv1 v2 rv2 C hw hs (lv_sub hl [1, 2, 3] rfl) ?_
            · intro y2 ry2 H locs ls hw hs hl
              exact ih y2 ry2 _ _ _ hw hs (lv_sub hl [0, 1, 2] rfl)
          · have hw := hw.2 h
            refine lv_iload_n hx hb dX3_lowestLike_48 rfl (lv_at hl 3 rfl) ?_
            exact hq_iret C hs rv2 ⟨rfl, hw⟩ dX3_lowestLike_49
set_option maxHeartbeats 4000000 in
set_option maxRecDepth 100000 in
theorem c_X3_lowestLike (l : Launch) {D : va_G} {cA : Nat → ClassId} {B : Nat} {Z : State → Prop} (hZ : hq_Zo Z (hq_in B YC.length)) (v0 : Nat) (hv0 : YC[v0]? = some (3, 0)) (v1 : Nat) (hv1 : YC[v1]? = some (2, 0)) (M : hq_M) (k : Int → Prop) (hw : w_X3_lowestLike v0 v1 M k) : hq_T vwCl SLx l yX3_lowestLike wsX3_lowestLike ({ frames := 1, cells := 0, slots := 0, locals := 22 } : Room) D cA YC B Z [.ref (B + v0), .ref (B + v1)] M (hq_qi (fun z M' => M' = M ∧ k z)) := by
  refine hq_meth (cc := cX3_lowestLike) (maxL := 4) (ret := (some .int)) (own := RX3) hZ rfl (by decide +kernel) rfl (Nat.le_of_ble_eq_true rfl) ?_
  intro p e s m below meth c ls C hs hl
  have hx := C.1.1
  have hb := C.1.2.1
  unfold w_X3_lowestLike at hw
  have hl : lv_has ls 4 [(0, .ref (B + v0)), (1, .ref (B + v1))] := hl
  refine hq_iconst C dX3_lowestLike_0 ?_
  refine lv_istore_n (lv' := [(2, .int (w3 0)), (0, .ref (B + v0)), (1, .ref (B + v1))]) hx hb dX3_lowestLike_1 rfl hl (by decide) rfl (fun ls hl => ?_)
  obtain ⟨n9, hw⟩ := hw
  refine cl_X3_lowestLike_2 v0 hv0 v1 hv1 C  n9 0 (by decide : rg 0) _ _ _ hw hs (lv_sub hl [1, 2, 0] rfl)
theorem iX7_restart_3 : ∀ w ∈ u_ws RX3 TX3 2, w ∈ wsX7_restart := fun w h => List.mem_cons_of_mem _ (List.mem_append_right _ h)
theorem iX7_restart_7 : ∀ w ∈ u_ws RX7 TX7 4, w ∈ wsX7_restart := fun w h => List.mem_cons_of_mem _ (List.mem_append_left _ (List.mem_append_right _ h))
set_option maxRecDepth 20000 in
theorem fX7_restart_14 : hq_fl vwCl wsX7_restart RX7 14 7 0 true (.object "HeadTables$Pairs") := ⟨RX7, TX7, 4, tyX7, rfl, by decide, iX7_restart_7, by decide +kernel, rfl, tyX7_ok 0 (by decide), tyX7_ok, nmX7⟩
set_option maxRecDepth 20000 in
theorem fX7_restart_20 : hq_fl vwCl wsX7_restart RX7 20 7 1 true (.object "HeadTables$Pairs") := ⟨RX7, TX7, 4, tyX7, rfl, by decide, iX7_restart_7, by decide +kernel, rfl, tyX7_ok 1 (by decide), tyX7_ok, nmX7⟩
set_option maxRecDepth 20000 in
theorem fX7_restart_23 : hq_fl vwCl wsX7_restart RX7 23 7 2 false .int := ⟨RX7, TX7, 4, tyX7, rfl, by decide, iX7_restart_7, by decide +kernel, rfl, tyX7_ok 2 (by decide), tyX7_ok, nmX7⟩
set_option maxRecDepth 20000 in
theorem fX7_restart_27 : hq_fl vwCl wsX7_restart RX7 27 7 3 false .int := ⟨RX7, TX7, 4, tyX7, rfl, by decide, iX7_restart_7, by decide +kernel, rfl, tyX7_ok 3 (by decide), tyX7_ok, nmX7⟩
set_option maxRecDepth 20000 in
theorem fX7_restart_30 : hq_fl vwCl wsX7_restart RX7 30 3 1 false .int := ⟨RX3, TX3, 2, tyX3, rfl, by decide, iX7_restart_3, by decide +kernel, rfl, tyX3_ok 1 (by decide), tyX3_ok, nmX3⟩
set_option maxHeartbeats 4000000 in
set_option maxRecDepth 100000 in
theorem c_X7_restart (l : Launch) {D : va_G} {cA : Nat → ClassId} {B : Nat} {Z : State → Prop} (hZ : hq_Zo Z (hq_in B YC.length)) (v0 : Nat) (hv0 : YC[v0]? = some (7, 0)) (M : hq_M) (k : hq_M → Prop) (hw : w_X7_restart v0 M k) : hq_T vwCl SLx l yX7_restart wsX7_restart ({ frames := 0, cells := 0, slots := 0, locals := 0 } : Room) D cA YC B Z [.ref (B + v0)] M (hq_qv k) := by
  refine hq_meth (cc := cX7_restart) (maxL := 1) (ret := none) (own := RX7) hZ rfl (by decide +kernel) rfl (Nat.le_of_ble_eq_true rfl) ?_
  intro p e s m below meth c ls C hs hl
  have hx := C.1.1
  have hb := C.1.2.1
  unfold w_X7_restart at hw
  have hl : lv_has ls 1 [(0, .ref (B + v0))] := hl
  refine lv_aload_n hx hb dX7_restart_0 rfl (lv_at hl 0 rfl) ?_
  refine hq_getR (o := v0) C hs fX7_restart_14 hv0 (by decide) rfl dX7_restart_1 ?_
  refine hq_iconst C dX7_restart_4 ?_
  refine hq_putI (o := (v0 + 1)) C hs fX7_restart_30 (tc_7_0 hv0) (by decide) rfl (by decide : rg 0) dX7_restart_5 (fun M1 eM1 H locs hs => ?_)
  have hw := hw M1 eM1
  refine lv_aload_n hx hb dX7_restart_8 rfl (lv_at hl 0 rfl) ?_
  refine hq_getR (o := v0) C hs fX7_restart_20 hv0 (by decide) rfl dX7_restart_9 ?_
  refine hq_iconst C dX7_restart_12 ?_
  refine hq_putI (o := (v0 + 38)) C hs fX7_restart_30 (tc_7_1 hv0) (by decide) rfl (by decide : rg 0) dX7_restart_13 (fun M2 eM2 H locs hs => ?_)
  have hw := hw M2 eM2
  refine lv_aload_n hx hb dX7_restart_16 rfl (lv_at hl 0 rfl) ?_
  refine hq_bipush C dX7_restart_17 (by decide) ?_
  refine hq_putI (o := v0) C hs fX7_restart_23 hv0 (by decide) rfl (by decide : rg 60) dX7_restart_19 (fun M3 eM3 H locs hs => ?_)
  have hw := hw M3 eM3
  refine lv_aload_n hx hb dX7_restart_22 rfl (lv_at hl 0 rfl) ?_
  refine hq_iconst C dX7_restart_23 ?_
  refine hq_putI (o := v0) C hs fX7_restart_27 hv0 (by decide) rfl (by decide : rg 2) dX7_restart_24 (fun M4 eM4 H locs hs => ?_)
  have hw := hw M4 eM4
  exact hq_vret C hs hw dX7_restart_27
theorem iX6_at_6 : ∀ w ∈ u_ws RX6 TX6 2, w ∈ wsX6_at := fun w h => List.mem_cons_of_mem _ (List.mem_append_right _ h)
set_option maxRecDepth 20000 in
theorem fX6_at_15 : hq_fl vwCl wsX6_at RX6 15 6 0 true (.array .int) := ⟨RX6, TX6, 2, tyX6, rfl, by decide, iX6_at_6, by decide +kernel, rfl, tyX6_ok 0 (by decide), tyX6_ok, nmX6⟩
set_option maxRecDepth 20000 in
theorem fX6_at_21 : hq_fl vwCl wsX6_at RX6 21 6 1 false .int := ⟨RX6, TX6, 2, tyX6, rfl, by decide, iX6_at_6, by decide +kernel, rfl, tyX6_ok 1 (by decide), tyX6_ok, nmX6⟩
set_option maxHeartbeats 4000000 in
set_option maxRecDepth 100000 in
theorem c_X6_at (l : Launch) {D : va_G} {cA : Nat → ClassId} {B : Nat} {Z : State → Prop} (hZ : hq_Zo Z (hq_in B YC.length)) (v0 : Nat) (hv0 : YC[v0]? = some (6, 0)) (v1 : Int) (rv1 : rg v1) (M : hq_M) (k : Int → Prop) (hw : w_X6_at v0 v1 M k) : hq_T vwCl SLx l yX6_at wsX6_at ({ frames := 0, cells := 0, slots := 0, locals := 0 } : Room) D cA YC B Z [.ref (B + v0), .int (w3 v1)] M (hq_qi (fun z M' => M' = M ∧ k z)) := by
  refine hq_meth (cc := cX6_at) (maxL := 2) (ret := (some .int)) (own := RX6) hZ rfl (by decide +kernel) rfl (Nat.le_of_ble_eq_true rfl) ?_
  intro p e s m below meth c ls C hs hl
  have hx := C.1.1
  have hb := C.1.2.1
  unfold w_X6_at at hw
  have hl : lv_has ls 2 [(0, .ref (B + v0)), (1, .int (w3 v1))] := hl
  refine lv_iload_n hx hb dX6_at_0 rfl (lv_at hl 1 rfl) ?_
  refine hq_if_lt (tgt := 21) C rv1 dX6_at_1 (by decide) (fun h => ?_) (fun h => ?_)
  · have hw := hw.1 h
    refine hq_bipush C dX6_at_21 (by decide) ?_
    refine hq_goto (tgt := 32) C dX6_at_23 (by decide) ?_
    exact hq_iret C hs (by decide : rg (-9)) ⟨rfl, hw⟩ dX6_at_32
  · have hw := hw.2 h
    refine lv_iload_n hx hb dX6_at_4 rfl (lv_at hl 1 rfl) ?_
    refine lv_aload_n hx hb dX6_at_5 rfl (lv_at hl 0 rfl) ?_
    refine hq_getI (o := v0) C hs fX6_at_21 hv0 (by decide) rfl dX6_at_6 (fun g1 => ?_)
    refine hq_icmp_ge (tgt := 21) C rv1 g1 dX6_at_9 (by decide) (fun h => ?_) (fun h => ?_)
    · have hw := hw.1 h
      refine hq_bipush C dX6_at_21 (by decide) ?_
      refine hq_goto (tgt := 32) C dX6_at_23 (by decide) ?_
      exact hq_iret C hs (by decide : rg (-9)) ⟨rfl, hw⟩ dX6_at_32
    · have hw := hw.2 h
      refine lv_iload_n hx hb dX6_at_12 rfl (lv_at hl 1 rfl) ?_
      refine lv_aload_n hx hb dX6_at_13 rfl (lv_at hl 0 rfl) ?_
      refine hq_getR (o := v0) C hs fX6_at_15 hv0 (by decide) rfl dX6_at_14 ?_
      refine hq_alen (o := (v0 + 1)) C hs (tc_6_0 hv0) (by decide) dX6_at_17 ?_
      refine hq_icmp_lt (tgt := 26) C rv1 (hq_lenrg _) dX6_at_18 (by decide) (fun h => ?_) (fun h => ?_)
      · have hw := hw.1 h
        refine lv_aload_n hx hb dX6_at_26 rfl (lv_at hl 0 rfl) ?_
        refine hq_getR (o := v0) C hs fX6_at_15 hv0 (by decide) rfl dX6_at_27 ?_
        refine lv_iload_n hx hb dX6_at_30 rfl (lv_at hl 1 rfl) ?_
        obtain ⟨g2, hw⟩ := hw
        refine hq_iald (o := (v0 + 1)) C hs (tc_6_0 hv0) rv1 g2 dX6_at_31 (fun g3 => ?_)
        exact hq_iret C hs g3 ⟨rfl, hw⟩ dX6_at_32
      · have hw := hw.2 h
        refine hq_bipush C dX6_at_21 (by decide) ?_
        refine hq_goto (tgt := 32) C dX6_at_23 (by decide) ?_
        exact hq_iret C hs (by decide : rg (-9)) ⟨rfl, hw⟩ dX6_at_32
set_option maxHeartbeats 4000000 in
set_option maxRecDepth 100000 in
theorem c_X4_isLetter (l : Launch) {D : va_G} {cA : Nat → ClassId} {B : Nat} {Z : State → Prop} (hZ : hq_Zo Z (hq_in B YC.length)) (v0 : Int) (rv0 : rg v0) (M : hq_M) (k : Int → Prop) (hw : w_X4_isLetter v0 M k) : hq_T vwCl SLx l yX4_isLetter wsX4_isLetter ({ frames := 0, cells := 0, slots := 0, locals := 0 } : Room) D cA YC B Z [.int (w3 v0)] M (hq_qz (fun z M' => M' = M ∧ k z)) := by
  refine hq_meth (cc := cX4_isLetter) (maxL := 1) (ret := (some .boolean)) (own := RX4) hZ rfl (by decide +kernel) rfl (Nat.le_of_ble_eq_true rfl) ?_
  intro p e s m below meth c ls C hs hl
  have hx := C.1.1
  have hb := C.1.2.1
  unfold w_X4_isLetter at hw
  have hl : lv_has ls 1 [(0, .int (w3 v0))] := hl
  refine lv_iload_n hx hb dX4_isLetter_0 rfl (lv_at hl 0 rfl) ?_
  refine hq_bipush C dX4_isLetter_1 (by decide) ?_
  refine hq_icmp_lt (tgt := 16) C rv0 (by decide : rg 97) dX4_isLetter_3 (by decide) (fun h => ?_) (fun h => ?_)
  · have hw := hw.1 h
    refine hq_iconst C dX4_isLetter_16 ?_
    exact hq_zret C hs (by decide) ⟨rfl, hw⟩ dX4_isLetter_17
  · have hw := hw.2 h
    refine lv_iload_n hx hb dX4_isLetter_6 rfl (lv_at hl 0 rfl) ?_
    refine hq_bipush C dX4_isLetter_7 (by decide) ?_
    refine hq_icmp_gt (tgt := 16) C rv0 (by decide : rg 122) dX4_isLetter_9 (by decide) (fun h => ?_) (fun h => ?_)
    · have hw := hw.1 h
      refine hq_iconst C dX4_isLetter_16 ?_
      exact hq_zret C hs (by decide) ⟨rfl, hw⟩ dX4_isLetter_17
    · have hw := hw.2 h
      refine hq_iconst C dX4_isLetter_12 ?_
      refine hq_goto (tgt := 17) C dX4_isLetter_13 (by decide) ?_
      exact hq_zret C hs (by decide) ⟨rfl, hw⟩ dX4_isLetter_17
set_option maxHeartbeats 4000000 in
set_option maxRecDepth 100000 in
theorem c_X4_isDigit (l : Launch) {D : va_G} {cA : Nat → ClassId} {B : Nat} {Z : State → Prop} (hZ : hq_Zo Z (hq_in B YC.length)) (v0 : Int) (rv0 : rg v0) (M : hq_M) (k : Int → Prop) (hw : w_X4_isDigit v0 M k) : hq_T vwCl SLx l yX4_isDigit wsX4_isDigit ({ frames := 0, cells := 0, slots := 0, locals := 0 } : Room) D cA YC B Z [.int (w3 v0)] M (hq_qz (fun z M' => M' = M ∧ k z)) := by
  refine hq_meth (cc := cX4_isDigit) (maxL := 1) (ret := (some .boolean)) (own := RX4) hZ rfl (by decide +kernel) rfl (Nat.le_of_ble_eq_true rfl) ?_
  intro p e s m below meth c ls C hs hl
  have hx := C.1.1
  have hb := C.1.2.1
  unfold w_X4_isDigit at hw
  have hl : lv_has ls 1 [(0, .int (w3 v0))] := hl
  refine lv_iload_n hx hb dX4_isDigit_0 rfl (lv_at hl 0 rfl) ?_
  refine hq_bipush C dX4_isDigit_1 (by decide) ?_
  refine hq_icmp_lt (tgt := 16) C rv0 (by decide : rg 48) dX4_isDigit_3 (by decide) (fun h => ?_) (fun h => ?_)
  · have hw := hw.1 h
    refine hq_iconst C dX4_isDigit_16 ?_
    exact hq_zret C hs (by decide) ⟨rfl, hw⟩ dX4_isDigit_17
  · have hw := hw.2 h
    refine lv_iload_n hx hb dX4_isDigit_6 rfl (lv_at hl 0 rfl) ?_
    refine hq_bipush C dX4_isDigit_7 (by decide) ?_
    refine hq_icmp_gt (tgt := 16) C rv0 (by decide : rg 57) dX4_isDigit_9 (by decide) (fun h => ?_) (fun h => ?_)
    · have hw := hw.1 h
      refine hq_iconst C dX4_isDigit_16 ?_
      exact hq_zret C hs (by decide) ⟨rfl, hw⟩ dX4_isDigit_17
    · have hw := hw.2 h
      refine hq_iconst C dX4_isDigit_12 ?_
      refine hq_goto (tgt := 17) C dX4_isDigit_13 (by decide) ?_
      exact hq_zret C hs (by decide) ⟨rfl, hw⟩ dX4_isDigit_17
theorem iX4_advance_4 : ∀ w ∈ u_ws RX4 TX4 6, w ∈ wsX4_advance := fun w h => List.mem_cons_of_mem _ (List.mem_append_left _ (List.mem_append_right _ h))
theorem iX4_advance_6 : ∀ w ∈ u_ws RX6 TX6 2, w ∈ wsX4_advance := fun w h => List.mem_cons_of_mem _ (List.mem_append_right _ h)
set_option maxRecDepth 20000 in
theorem fX4_advance_9 : hq_fl vwCl wsX4_advance RX4 9 4 0 true (.object "HeadTables$Row") := ⟨RX4, TX4, 6, tyX4, rfl, by decide, iX4_advance_4, by decide +kernel, rfl, tyX4_ok 0 (by decide), tyX4_ok, nmX4⟩
set_option maxRecDepth 20000 in
theorem fX4_advance_31 : hq_fl vwCl wsX4_advance RX4 31 4 5 false .int := ⟨RX4, TX4, 6, tyX4, rfl, by decide, iX4_advance_4, by decide +kernel, rfl, tyX4_ok 5 (by decide), tyX4_ok, nmX4⟩
set_option maxRecDepth 20000 in
theorem fX4_advance_37 : hq_fl vwCl wsX4_advance RX4 37 4 4 false .int := ⟨RX4, TX4, 6, tyX4, rfl, by decide, iX4_advance_4, by decide +kernel, rfl, tyX4_ok 4 (by decide), tyX4_ok, nmX4⟩
set_option maxRecDepth 20000 in
theorem fX4_advance_40 : hq_fl vwCl wsX4_advance RX4 40 6 1 false .int := ⟨RX6, TX6, 2, tyX6, rfl, by decide, iX4_advance_6, by decide +kernel, rfl, tyX6_ok 1 (by decide), tyX6_ok, nmX6⟩
set_option maxHeartbeats 4000000 in
set_option maxRecDepth 100000 in
theorem cl_X4_advance_5 {p : Program} {l : Launch} {e : Env} {s : State} {m : MethodId} {args : Array Value} {below : List Frame} {meth : Method} {c : Code} {D : va_G} {cA : Nat → ClassId} {B : Nat} {Z : State → Prop}  {k_35 : Int → hq_M → Prop} {k : hq_M → Prop} (C : hq_C vwCl p m c cX4_advance 2 s args wsX4_advance RX4 meth none D cA (hq_in B YC.length) Z)
    (hk_35 : ∀ (y1 : Int) (ry1 : rg y1) (M1 : hq_M) (H : Heap) (locs : List Loc) (ls : Array Slot), k_35 y1 M1 → hq_S vwCl SLx D cA YC B s.heap M1 H locs → lv_has ls 2 [(0, .ref (B + 7)), (1, .int (w3 y1))] → W p l e ({ frames := 1, cells := 0, slots := 0, locals := 21 } : Room) s m args below meth c H locs 0 0 (MQ below (hq_Q vwCl SLx D cA YC B (hq_qv k)) args s 0 0 (hq_in B YC.length)) (F0 m 35 ls [])) : ∀ (n : Nat) (v1 : Int) (rv1 : rg v1) (M : hq_M) (H : Heap) (locs : List Loc) (ls : Array Slot), l_X4_advance_5 k_35 k n v1 M → hq_S vwCl SLx D cA YC B s.heap M H locs → lv_has ls 2 [(0, .ref (B + 7)), (1, .int (w3 v1))] → W p l e ({ frames := 1, cells := 0, slots := 0, locals := 21 } : Room) s m args below meth c H locs 0 0 (MQ below (hq_Q vwCl SLx D cA YC B (hq_qv k)) args s 0 0 (hq_in B YC.length)) (F0 m 5 ls []) := by
  have hx := C.1.1
  have hb := C.1.2.1
  intro n
  induction n with
  | zero => intro v1 rv1 M H locs ls hw hs hl; exact hw.elim
  | succ n ih =>
    intro v1 rv1 M H locs ls hw hs hl
    unfold l_X4_advance_5 at hw
    refine lv_iload_n hx hb dX4_advance_5 rfl (lv_at hl 1 rfl) ?_
    refine lv_aload_n hx hb dX4_advance_6 rfl (lv_at hl 0 rfl) ?_
    refine hq_getA (o := 7) C hs fX4_advance_9 tkC_7 (by decide) rfl dX4_advance_7 ?_
    refine hq_getI (o := 1) C hs fX4_advance_40 tkC_1 (by decide) rfl dX4_advance_10 (fun g1 => ?_)
    refine hq_icmp_ge (tgt := 35) C rv1 g1 dX4_advance_13 (by decide) (fun h => ?_) (fun h => ?_)
    · have hw := hw.1 h
      exact hk_35 v1 rv1 _ _ _ _ hw hs (lv_sub hl [0, 1] rfl)
    · have hw := hw.2 h
      refine lv_aload_n hx hb dX4_advance_16 rfl (lv_at hl 0 rfl) ?_
      refine hq_getA (o := 7) C hs fX4_advance_9 tkC_7 (by decide) rfl dX4_advance_17 ?_
      refine lv_iload_n hx hb dX4_advance_20 rfl (lv_at hl 1 rfl) ?_
      refine hq_cV (n := 1) (ci := 6) (o := 1) (qc := (TX6, 2)) C hs (c_X6_at l C.2.2.2.2.1 1 tkC_1 v1 rv1 _ _ hw) gX4_advance_X6_at rfl ⟨rfl, rfl⟩ (by decide +kernel) ⟨Nat.le_of_ble_eq_true rfl, Nat.le_of_ble_eq_true rfl⟩ tkC_1 (by decide) rfl rfl hl.1 rfl (Nat.le_of_ble_eq_true rfl) dX4_advance_21 (hq_ki (fun x2 M9 H locs rx2 hw hs => ?_))
      obtain ⟨e9, hw⟩ := hw; rw [e9] at hs
      refine hq_bipush C dX4_advance_24 (by decide) ?_
      refine hq_icmp_ne (tgt := 35) C rx2 (by decide : rg 32) dX4_advance_26 (by decide) (fun h => ?_) (fun h => ?_)
      · have hw := hw.1 h
        exact hk_35 v1 rv1 _ _ _ _ hw hs (lv_sub hl [0, 1] rfl)
      · have hw := hw.2 h
        obtain ⟨g4, hw⟩ := hw
        refine hq_iinc (k := 1) C dX4_advance_29 hl rfl (by decide) (fun x3 ex3 ls hl => ?_)
        have hw := hw x3 ex3
        have rx3 : rg x3 := by rw [ex3]; exact g4
        have hl : lv_has ls 2 [(1, .int (w3 x3)), (0, .ref (B + 7))] := hl
        refine hq_goto (tgt := 5) C dX4_advance_32 (by decide) ?_
        exact ih x3 rx3 _ _ _ _ hw hs (lv_sub hl [1, 0] rfl)
set_option maxHeartbeats 4000000 in
set_option maxRecDepth 100000 in
theorem cb_X4_advance_79 {p : Program} {l : Launch} {e : Env} {s : State} {m : MethodId} {args : Array Value} {below : List Frame} {meth : Method} {c : Code} {D : va_G} {cA : Nat → ClassId} {B : Nat} {Z : State → Prop} (v1 : Int) (rv1 : rg v1) {k_40 : Int → hq_M → Prop} {k : hq_M → Prop} {M : hq_M} {H : Heap} {locs : List Loc} {ls : Array Slot} (C : hq_C vwCl p m c cX4_advance 2 s args wsX4_advance RX4 meth none D cA (hq_in B YC.length) Z)
    (hw : b_X4_advance_79 v1 k_40 k M) (hs : hq_S vwCl SLx D cA YC B s.heap M H locs) (hl : lv_has ls 2 [(0, .ref (B + 7)), (1, .int (w3 v1))])
    (hk_40 : ∀ (y1 : Int) (ry1 : rg y1) (M1 : hq_M) (H : Heap) (locs : List Loc) (ls : Array Slot), k_40 y1 M1 → hq_S vwCl SLx D cA YC B s.heap M1 H locs → lv_has ls 2 [(0, .ref (B + 7)), (1, .int (w3 y1))] → W p l e ({ frames := 1, cells := 0, slots := 0, locals := 21 } : Room) s m args below meth c H locs 0 0 (MQ below (hq_Q vwCl SLx D cA YC B (hq_qv k)) args s 0 0 (hq_in B YC.length)) (F0 m 40 ls [])) : W p l e ({ frames := 1, cells := 0, slots := 0, locals := 21 } : Room) s m args below meth c H locs 0 0 (MQ below (hq_Q vwCl SLx D cA YC B (hq_qv k)) args s 0 0 (hq_in B YC.length)) (F0 m 79 ls []) := by
  have hx := C.1.1
  have hb := C.1.2.1
  unfold b_X4_advance_79 at hw
  obtain ⟨g2, hw⟩ := hw
  refine hq_iinc (k := 1) C dX4_advance_79 hl rfl (by decide) (fun x1 ex1 ls hl => ?_)
  have hw := hw x1 ex1
  have rx1 : rg x1 := by rw [ex1]; exact g2
  have hl : lv_has ls 2 [(1, .int (w3 x1)), (0, .ref (B + 7))] := hl
  refine hq_goto (tgt := 40) C dX4_advance_82 (by decide) ?_
  exact hk_40 x1 rx1 _ _ _ _ hw hs (lv_sub hl [1, 0] rfl)
set_option maxHeartbeats 4000000 in
set_option maxRecDepth 100000 in
theorem cl_X4_advance_40 {p : Program} {l : Launch} {e : Env} {s : State} {m : MethodId} {args : Array Value} {below : List Frame} {meth : Method} {c : Code} {D : va_G} {cA : Nat → ClassId} {B : Nat} {Z : State → Prop}  {k_85 : Int → hq_M → Prop} {k : hq_M → Prop} (C : hq_C vwCl p m c cX4_advance 2 s args wsX4_advance RX4 meth none D cA (hq_in B YC.length) Z)
    (hk_85 : ∀ (y1 : Int) (ry1 : rg y1) (M1 : hq_M) (H : Heap) (locs : List Loc) (ls : Array Slot), k_85 y1 M1 → hq_S vwCl SLx D cA YC B s.heap M1 H locs → lv_has ls 2 [(0, .ref (B + 7)), (1, .int (w3 y1))] → W p l e ({ frames := 1, cells := 0, slots := 0, locals := 21 } : Room) s m args below meth c H locs 0 0 (MQ below (hq_Q vwCl SLx D cA YC B (hq_qv k)) args s 0 0 (hq_in B YC.length)) (F0 m 85 ls [])) : ∀ (n : Nat) (v1 : Int) (rv1 : rg v1) (M : hq_M) (H : Heap) (locs : List Loc) (ls : Array Slot), l_X4_advance_40 k_85 k n v1 M → hq_S vwCl SLx D cA YC B s.heap M H locs → lv_has ls 2 [(0, .ref (B + 7)), (1, .int (w3 v1))] → W p l e ({ frames := 1, cells := 0, slots := 0, locals := 21 } : Room) s m args below meth c H locs 0 0 (MQ below (hq_Q vwCl SLx D cA YC B (hq_qv k)) args s 0 0 (hq_in B YC.length)) (F0 m 40 ls []) := by
  have hx := C.1.1
  have hb := C.1.2.1
  intro n
  induction n with
  | zero => intro v1 rv1 M H locs ls hw hs hl; exact hw.elim
  | succ n ih =>
    intro v1 rv1 M H locs ls hw hs hl
    unfold l_X4_advance_40 at hw
    refine lv_iload_n hx hb dX4_advance_40 rfl (lv_at hl 1 rfl) ?_
    refine lv_aload_n hx hb dX4_advance_41 rfl (lv_at hl 0 rfl) ?_
    refine hq_getA (o := 7) C hs fX4_advance_9 tkC_7 (by decide) rfl dX4_advance_42 ?_
    refine hq_getI (o := 1) C hs fX4_advance_40 tkC_1 (by decide) rfl dX4_advance_45 (fun g1 => ?_)
    refine hq_icmp_ge (tgt := 85) C rv1 g1 dX4_advance_48 (by decide) (fun h => ?_) (fun h => ?_)
    · have hw := hw.1 h
      exact hk_85 v1 rv1 _ _ _ _ hw hs (lv_sub hl [0, 1] rfl)
    · have hw := hw.2 h
      refine lv_aload_n hx hb dX4_advance_51 rfl (lv_at hl 0 rfl) ?_
      refine hq_getA (o := 7) C hs fX4_advance_9 tkC_7 (by decide) rfl dX4_advance_52 ?_
      refine lv_iload_n hx hb dX4_advance_55 rfl (lv_at hl 1 rfl) ?_
      refine hq_cV (n := 1) (ci := 6) (o := 1) (qc := (TX6, 2)) C hs (c_X6_at l C.2.2.2.2.1 1 tkC_1 v1 rv1 _ _ hw) gX4_advance_X6_at rfl ⟨rfl, rfl⟩ (by decide +kernel) ⟨Nat.le_of_ble_eq_true rfl, Nat.le_of_ble_eq_true rfl⟩ tkC_1 (by decide) rfl rfl hl.1 rfl (Nat.le_of_ble_eq_true rfl) dX4_advance_56 (hq_ki (fun x2 M9 H locs rx2 hw hs => ?_))
      obtain ⟨e9, hw⟩ := hw; rw [e9] at hs
      refine hq_cS (n := 1) C hs (c_X4_isLetter l C.2.2.2.2.1 x2 rx2 _ _ hw) gX4_advance_X4_isLetter rfl ⟨rfl, rfl⟩ (by decide +kernel) ⟨Nat.le_of_ble_eq_true rfl, Nat.le_of_ble_eq_true rfl⟩ rfl hl.1 rfl (Nat.le_of_ble_eq_true rfl) dX4_advance_59 (hq_kz (fun x3 M9 H locs rx3 hw hs => ?_))
      obtain ⟨e9, hw⟩ := hw; rw [e9] at hs
      refine hq_if_ne (tgt := 79) C (rb_rg rx3) dX4_advance_62 (by decide) (fun h => ?_) (fun h => ?_)
      · have hw := hw.1 h
        refine cb_X4_advance_79 v1 rv1 C hw hs (lv_sub hl [0, 1] rfl) ?_
        · intro y1 ry1 M H locs ls hw hs hl
          exact ih y1 ry1 _ _ _ _ hw hs (lv_sub hl [0, 1] rfl)
      · have hw := hw.2 h
        refine lv_aload_n hx hb dX4_advance_65 rfl (lv_at hl 0 rfl) ?_
        refine hq_getA (o := 7) C hs fX4_advance_9 tkC_7 (by decide) rfl dX4_advance_66 ?_
        refine lv_iload_n hx hb dX4_advance_69 rfl (lv_at hl 1 rfl) ?_
        refine hq_cV (n := 1) (ci := 6) (o := 1) (qc := (TX6, 2)) C hs (c_X6_at l C.2.2.2.2.1 1 tkC_1 v1 rv1 _ _ hw) gX4_advance_X6_at rfl ⟨rfl, rfl⟩ (by decide +kernel) ⟨Nat.le_of_ble_eq_true rfl, Nat.le_of_ble_eq_true rfl⟩ tkC_1 (by decide) rfl rfl hl.1 rfl (Nat.le_of_ble_eq_true rfl) dX4_advance_70 (hq_ki (fun x4 M9 H locs rx4 hw hs => ?_))
        obtain ⟨e9, hw⟩ := hw; rw [e9] at hs
        refine hq_cS (n := 1) C hs (c_X4_isDigit l C.2.2.2.2.1 x4 rx4 _ _ hw) gX4_advance_X4_isDigit rfl ⟨rfl, rfl⟩ (by decide +kernel) ⟨Nat.le_of_ble_eq_true rfl, Nat.le_of_ble_eq_true rfl⟩ rfl hl.1 rfl (Nat.le_of_ble_eq_true rfl) dX4_advance_73 (hq_kz (fun x5 M9 H locs rx5 hw hs => ?_))
        obtain ⟨e9, hw⟩ := hw; rw [e9] at hs
        refine hq_if_eq (tgt := 85) C (rb_rg rx5) dX4_advance_76 (by decide) (fun h => ?_) (fun h => ?_)
        · have hw := hw.1 h
          exact hk_85 v1 rv1 _ _ _ _ hw hs (lv_sub hl [0, 1] rfl)
        · have hw := hw.2 h
          refine cb_X4_advance_79 v1 rv1 C hw hs (lv_sub hl [0, 1] rfl) ?_
          · intro y1 ry1 M H locs ls hw hs hl
            exact ih y1 ry1 _ _ _ _ hw hs (lv_sub hl [0, 1] rfl)
set_option maxHeartbeats 4000000 in
set_option maxRecDepth 100000 in
theorem c_X4_advance (l : Launch) {D : va_G} {cA : Nat → ClassId} {B : Nat} {Z : State → Prop} (hZ : hq_Zo Z (hq_in B YC.length))  (M : hq_M) (k : hq_M → Prop) (hw : w_X4_advance  M k) : hq_T vwCl SLx l yX4_advance wsX4_advance ({ frames := 1, cells := 0, slots := 0, locals := 21 } : Room) D cA YC B Z [.ref (B + 7)] M (hq_qv k) := by
  refine hq_meth (cc := cX4_advance) (maxL := 2) (ret := none) (own := RX4) hZ rfl (by decide +kernel) rfl (Nat.le_of_ble_eq_true rfl) ?_
  intro p e s m below meth c ls C hs hl
  have hx := C.1.1
  have hb := C.1.2.1
  unfold w_X4_advance at hw
  have hl : lv_has ls 2 [(0, .ref (B + 7))] := hl
  refine lv_aload_n hx hb dX4_advance_0 rfl (lv_at hl 0 rfl) ?_
  refine hq_getI (o := 7) C hs fX4_advance_31 tkC_7 (by decide) rfl dX4_advance_1 (fun g1 => ?_)
  refine hq_nm (fun x2 ex2 => ?_)
  have hw := hw x2 ex2
  have rx2 : rg x2 := by rw [ex2]; exact g1
  refine lv_istore_n (lv' := [(1, .int (w3 x2)), (0, .ref (B + 7))]) hx hb dX4_advance_4 rfl hl (by decide) rfl (fun ls hl => ?_)
  obtain ⟨n9, hw⟩ := hw
  refine cl_X4_advance_5  C ?_ n9 x2 rx2 _ _ _ _ hw hs (lv_sub hl [1, 0] rfl)
  · intro x4 rx4 M3 H locs ls hw hs hl
    refine lv_aload_n hx hb dX4_advance_35 rfl (lv_at hl 0 rfl) ?_
    refine lv_iload_n hx hb dX4_advance_36 rfl (lv_at hl 1 rfl) ?_
    refine hq_putI (o := 7) C hs fX4_advance_37 tkC_7 (by decide) rfl rx4 dX4_advance_37 (fun M5 eM5 H locs hs => ?_)
    have hw := hw M5 eM5
    obtain ⟨n9, hw⟩ := hw
    refine cl_X4_advance_40  C ?_ n9 x4 rx4 _ _ _ _ hw hs (lv_sub hl [0, 1] rfl)
    · intro x7 rx7 M6 H locs ls hw hs hl
      refine lv_aload_n hx hb dX4_advance_85 rfl (lv_at hl 0 rfl) ?_
      refine lv_iload_n hx hb dX4_advance_86 rfl (lv_at hl 1 rfl) ?_
      refine hq_putI (o := 7) C hs fX4_advance_31 tkC_7 (by decide) rfl rx7 dX4_advance_87 (fun M8 eM8 H locs hs => ?_)
      have hw := hw M8 eM8
      exact hq_vret C hs hw dX4_advance_90
theorem iX4_isPiece_4 : ∀ w ∈ u_ws RX4 TX4 6, w ∈ wsX4_isPiece := fun w h => List.mem_cons_of_mem _ (List.mem_append_left _ (List.mem_append_right _ h))
set_option maxRecDepth 20000 in
theorem fX4_isPiece_9 : hq_fl vwCl wsX4_isPiece RX4 9 4 0 true (.object "HeadTables$Row") := ⟨RX4, TX4, 6, tyX4, rfl, by decide, iX4_isPiece_4, by decide +kernel, rfl, tyX4_ok 0 (by decide), tyX4_ok, nmX4⟩
set_option maxRecDepth 20000 in
theorem fX4_isPiece_31 : hq_fl vwCl wsX4_isPiece RX4 31 4 5 false .int := ⟨RX4, TX4, 6, tyX4, rfl, by decide, iX4_isPiece_4, by decide +kernel, rfl, tyX4_ok 5 (by decide), tyX4_ok, nmX4⟩
set_option maxRecDepth 20000 in
theorem fX4_isPiece_37 : hq_fl vwCl wsX4_isPiece RX4 37 4 4 false .int := ⟨RX4, TX4, 6, tyX4, rfl, by decide, iX4_isPiece_4, by decide +kernel, rfl, tyX4_ok 4 (by decide), tyX4_ok, nmX4⟩
set_option maxHeartbeats 4000000 in
set_option maxRecDepth 100000 in
theorem cl_X4_isPiece_20 {p : Program} {l : Launch} {e : Env} {s : State} {m : MethodId} {args : Array Value} {below : List Frame} {meth : Method} {c : Code} {D : va_G} {cA : Nat → ClassId} {B : Nat} {Z : State → Prop} {hqS hqV : Nat → Nat} (hSt : hq_St Z hqS hqV (hq_in B YC.length)) (v1 : Nat) (hv1 : v1 < 4)  {k : Int → Prop} {M : hq_M} (C : hq_C vwCl p m c cX4_isPiece 3 s args wsX4_isPiece RX4 meth (some .boolean) D cA (hq_in B YC.length) Z)
     : ∀ (n : Nat) (v2 : Int) (rv2 : rg v2) (H : Heap) (locs : List Loc) (ls : Array Slot), l_X4_isPiece_20 v1 k M n v2 → hq_S vwCl SLx D cA YC B s.heap M H locs → lv_has ls 3 [(0, .ref (B + 7)), (1, .ref (hqS v1)), (2, .int (w3 v2))] → W p l e ({ frames := 4, cells := 0, slots := 0, locals := 85 } : Room) s m args below meth c H locs 0 0 (MQ below (hq_Q vwCl SLx D cA YC B (hq_qz (fun z M' => M' = M ∧ k z))) args s 0 0 (hq_in B YC.length)) (F0 m 20 ls []) := by
  have hx := C.1.1
  have hb := C.1.2.1
  intro n
  induction n with
  | zero => intro v2 rv2 H locs ls hw hs hl; exact hw.elim
  | succ n ih =>
    intro v2 rv2 H locs ls hw hs hl
    unfold l_X4_isPiece_20 at hw
    refine lv_iload_n hx hb dX4_isPiece_20 rfl (lv_at hl 2 rfl) ?_
    refine lv_aload_n hx hb dX4_isPiece_21 rfl (lv_at hl 1 rfl) ?_
    refine hq_cStr (n := 0) hSt hv1 C hs (c_J0_length l C.2.2.2.2.1 hSt v1 hv1 _) gX4_isPiece_J0_length_8abf5 rfl ⟨rfl, rfl⟩ (by decide +kernel) ⟨Nat.le_of_ble_eq_true rfl, Nat.le_of_ble_eq_true rfl⟩ rfl hl.1 rfl (Nat.le_of_ble_eq_true rfl) dX4_isPiece_22 (hq_ki (fun x1 M9 H locs rx1 hz hs => ?_))
    obtain ⟨e9, ez⟩ := hz; rw [e9] at hs
    have hw := hw x1 ez
    refine hq_icmp_ge (tgt := 57) C rv2 rx1 dX4_isPiece_25 (by decide) (fun h => ?_) (fun h => ?_)
    · have hw := hw.1 h
      refine hq_iconst C dX4_isPiece_57 ?_
      exact hq_zret C hs (by decide) ⟨rfl, hw⟩ dX4_isPiece_58
    · have hw := hw.2 h
      refine lv_aload_n hx hb dX4_isPiece_28 rfl (lv_at hl 0 rfl) ?_
      refine hq_getA (o := 7) C hs fX4_isPiece_9 tkC_7 (by decide) rfl dX4_isPiece_29 ?_
      refine lv_aload_n hx hb dX4_isPiece_32 rfl (lv_at hl 0 rfl) ?_
      refine hq_getI (o := 7) C hs fX4_isPiece_37 tkC_7 (by decide) rfl dX4_isPiece_33 (fun g2 => ?_)
      refine lv_iload_n hx hb dX4_isPiece_36 rfl (lv_at hl 2 rfl) ?_
      obtain ⟨g3, hw⟩ := hw
      refine hq_iadd C dX4_isPiece_37 ?_
      refine hq_cV (n := 1) (ci := 6) (o := 1) (qc := (TX6, 2)) C hs (c_X6_at l C.2.2.2.2.1 1 tkC_1 ((M 7 4) + v2) g3 _ _ hw) gX4_isPiece_X6_at rfl ⟨rfl, rfl⟩ (by decide +kernel) ⟨Nat.le_of_ble_eq_true rfl, Nat.le_of_ble_eq_true rfl⟩ tkC_1 (by decide) rfl rfl hl.1 rfl (Nat.le_of_ble_eq_true rfl) dX4_isPiece_38 (hq_ki (fun x4 M9 H locs rx4 hw hs => ?_))
      obtain ⟨e9, hw⟩ := hw; rw [e9] at hs
      refine lv_aload_n hx hb dX4_isPiece_41 rfl (lv_at hl 1 rfl) ?_
      refine lv_iload_n hx hb dX4_isPiece_42 rfl (lv_at hl 2 rfl) ?_
      obtain ⟨g6, hw⟩ := hw
      refine hq_cStr (n := 1) hSt hv1 C hs (c_J0_charAt l C.2.2.2.2.1 hSt v1 hv1 v2 rv2 g6 _) gX4_isPiece_J0_charAt_5068e rfl ⟨rfl, rfl⟩ (by decide +kernel) ⟨Nat.le_of_ble_eq_true rfl, Nat.le_of_ble_eq_true rfl⟩ rfl hl.1 rfl (Nat.le_of_ble_eq_true rfl) dX4_isPiece_43 (hq_ki (fun x5 M9 H locs rx5 hz hs => ?_))
      obtain ⟨e9, ez⟩ := hz; rw [e9] at hs
      have hw := hw x5 ez
      refine hq_icmp_eq (tgt := 51) C rx4 rx5 dX4_isPiece_46 (by decide) (fun h => ?_) (fun h => ?_)
      · have hw := hw.1 h
        obtain ⟨g8, hw⟩ := hw
        refine hq_iinc (k := 2) C dX4_isPiece_51 hl rfl (by decide) (fun x7 ex7 ls hl => ?_)
        have hw := hw x7 ex7
        have rx7 : rg x7 := by rw [ex7]; exact g8
        have hl : lv_has ls 3 [(2, .int (w3 x7)), (0, .ref (B + 7)), (1, .ref (hqS v1))] := hl
        refine hq_goto (tgt := 20) C dX4_isPiece_54 (by decide) ?_
        exact ih x7 rx7 _ _ _ hw hs (lv_sub hl [1, 2, 0] rfl)
      · have hw := hw.2 h
        refine hq_iconst C dX4_isPiece_49 ?_
        exact hq_zret C hs (by decide) ⟨rfl, hw⟩ dX4_isPiece_50
set_option maxHeartbeats 4000000 in
set_option maxRecDepth 100000 in
theorem c_X4_isPiece (l : Launch) {D : va_G} {cA : Nat → ClassId} {B : Nat} {Z : State → Prop} (hZ : hq_Zo Z (hq_in B YC.length)) {hqS hqV : Nat → Nat} (hSt : hq_St Z hqS hqV (hq_in B YC.length)) (v1 : Nat) (hv1 : v1 < 4) (M : hq_M) (k : Int → Prop) (hw : w_X4_isPiece v1 M k) : hq_T vwCl SLx l yX4_isPiece wsX4_isPiece ({ frames := 4, cells := 0, slots := 0, locals := 85 } : Room) D cA YC B Z [.ref (B + 7), .ref (hqS v1)] M (hq_qz (fun z M' => M' = M ∧ k z)) := by
  refine hq_meth (cc := cX4_isPiece) (maxL := 3) (ret := (some .boolean)) (own := RX4) hZ rfl (by decide +kernel) rfl (Nat.le_of_ble_eq_true rfl) ?_
  intro p e s m below meth c ls C hs hl
  have hx := C.1.1
  have hb := C.1.2.1
  unfold w_X4_isPiece at hw
  have hl : lv_has ls 3 [(0, .ref (B + 7)), (1, .ref (hqS v1))] := hl
  refine lv_aload_n hx hb dX4_isPiece_0 rfl (lv_at hl 0 rfl) ?_
  refine hq_getI (o := 7) C hs fX4_isPiece_31 tkC_7 (by decide) rfl dX4_isPiece_1 (fun g1 => ?_)
  refine lv_aload_n hx hb dX4_isPiece_4 rfl (lv_at hl 0 rfl) ?_
  refine hq_getI (o := 7) C hs fX4_isPiece_37 tkC_7 (by decide) rfl dX4_isPiece_5 (fun g2 => ?_)
  obtain ⟨g3, hw⟩ := hw
  refine hq_isub C dX4_isPiece_8 ?_
  refine lv_aload_n hx hb dX4_isPiece_9 rfl (lv_at hl 1 rfl) ?_
  refine hq_cStr (n := 0) hSt hv1 C hs (c_J0_length l C.2.2.2.2.1 hSt v1 hv1 _) gX4_isPiece_J0_length_8abf5 rfl ⟨rfl, rfl⟩ (by decide +kernel) ⟨Nat.le_of_ble_eq_true rfl, Nat.le_of_ble_eq_true rfl⟩ rfl hl.1 rfl (Nat.le_of_ble_eq_true rfl) dX4_isPiece_10 (hq_ki (fun x4 M9 H locs rx4 hz hs => ?_))
  obtain ⟨e9, ez⟩ := hz; rw [e9] at hs
  have hw := hw x4 ez
  refine hq_icmp_eq (tgt := 18) C g3 rx4 dX4_isPiece_13 (by decide) (fun h => ?_) (fun h => ?_)
  · have hw := hw.1 h
    refine hq_iconst C dX4_isPiece_18 ?_
    refine lv_istore_n (lv' := [(2, .int (w3 0)), (0, .ref (B + 7)), (1, .ref (hqS v1))]) hx hb dX4_isPiece_19 rfl hl (by decide) rfl (fun ls hl => ?_)
    obtain ⟨n9, hw⟩ := hw
    refine cl_X4_isPiece_20 hSt v1 hv1 C  n9 0 (by decide : rg 0) _ _ _ hw hs (lv_sub hl [1, 2, 0] rfl)
  · have hw := hw.2 h
    refine hq_iconst C dX4_isPiece_16 ?_
    exact hq_zret C hs (by decide) ⟨rfl, hw⟩ dX4_isPiece_17
