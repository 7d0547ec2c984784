theorem iX9_changeCapacity_9 : ∀ w ∈ u_ws RX9 TX9 7, w ∈ wsX9_changeCapacity := fun w h => List.mem_cons_of_mem _ (List.mem_append_right _ h)
set_option maxRecDepth 20000 in
theorem fX9_changeCapacity_32 : hq_fl vwCl wsX9_changeCapacity RX9 32 9 6 false .int := ⟨RX9, TX9, 7, tyX9, rfl, by decide, iX9_changeCapacity_9, by decide +kernel, rfl, tyX9_ok 6 (by decide), tyX9_ok, nmX9⟩
set_option maxHeartbeats 4000000 in
set_option maxRecDepth 100000 in
theorem c_X9_changeCapacity (l : Launch) {D : va_G} {cA : Nat → ClassId} {B : Nat} {Z : State → Prop} (hZ : hq_Zo Z (hq_in B YC.length)) (v0 : Nat) (hv0 : YC[v0]? = some (9, 0)) (v1 : Int) (rv1 : rg v1) (M : hq_M) (k : hq_M → Prop) (hw : w_X9_changeCapacity v0 v1 M k) : hq_T vwCl SLx l yX9_changeCapacity wsX9_changeCapacity ({ frames := 1, cells := 0, slots := 0, locals := 21 } : Room) D cA YC B Z [.ref (B + v0), .int (w3 v1)] M (hq_qv k) := by
  refine hq_meth (cc := cX9_changeCapacity) (maxL := 2) (ret := none) (own := RX9) hZ rfl (by decide +kernel) rfl (Nat.le_of_ble_eq_true rfl) ?_
  intro p e s m below meth c ls C hs hl
  have hx := C.1.1
  have hb := C.1.2.1
  unfold w_X9_changeCapacity at hw
  have hl : lv_has ls 2 [(0, .ref (B + v0)), (1, .int (w3 v1))] := hl
  refine lv_aload_n hx hb dX9_changeCapacity_0 rfl (lv_at hl 0 rfl) ?_
  refine lv_iload_n hx hb dX9_changeCapacity_1 rfl (lv_at hl 1 rfl) ?_
  refine hq_cV (n := 1) (ci := 9) (o := v0) (qc := (TX9, 7)) C hs (c_X9_shrink l C.2.2.2.2.1 v0 hv0 v1 rv1 _ _ hw) gX9_changeCapacity_X9_shrink rfl ⟨rfl, rfl⟩ (by decide +kernel) ⟨Nat.le_of_ble_eq_true rfl, Nat.le_of_ble_eq_true rfl⟩ hv0 (by decide) rfl rfl hl.1 rfl (Nat.le_of_ble_eq_true rfl) dX9_changeCapacity_2 (hq_kv (fun M1 H locs hw hs => ?_))
  refine lv_aload_n hx hb dX9_changeCapacity_5 rfl (lv_at hl 0 rfl) ?_
  refine lv_iload_n hx hb dX9_changeCapacity_6 rfl (lv_at hl 1 rfl) ?_
  refine hq_putI (o := v0) C hs fX9_changeCapacity_32 hv0 (by decide) rfl rv1 dX9_changeCapacity_7 (fun M2 eM2 H locs hs => ?_)
  have hw := hw M2 eM2
  exact hq_vret C hs hw dX9_changeCapacity_10
theorem iX9_insert_9 : ∀ w ∈ u_ws RX9 TX9 7, w ∈ wsX9_insert := fun w h => List.mem_cons_of_mem _ (List.mem_append_right _ h)
set_option maxRecDepth 20000 in
theorem fX9_insert_11 : hq_fl vwCl wsX9_insert RX9 11 9 0 true (.array .int) := ⟨RX9, TX9, 7, tyX9, rfl, by decide, iX9_insert_9, by decide +kernel, rfl, tyX9_ok 0 (by decide), tyX9_ok, nmX9⟩
set_option maxRecDepth 20000 in
theorem fX9_insert_15 : hq_fl vwCl wsX9_insert RX9 15 9 1 true (.array .int) := ⟨RX9, TX9, 7, tyX9, rfl, by decide, iX9_insert_9, by decide +kernel, rfl, tyX9_ok 1 (by decide), tyX9_ok, nmX9⟩
set_option maxRecDepth 20000 in
theorem fX9_insert_18 : hq_fl vwCl wsX9_insert RX9 18 9 2 true (.array .long) := ⟨RX9, TX9, 7, tyX9, rfl, by decide, iX9_insert_9, by decide +kernel, rfl, tyX9_ok 2 (by decide), tyX9_ok, nmX9⟩
set_option maxRecDepth 20000 in
theorem fX9_insert_22 : hq_fl vwCl wsX9_insert RX9 22 9 3 false .int := ⟨RX9, TX9, 7, tyX9, rfl, by decide, iX9_insert_9, by decide +kernel, rfl, tyX9_ok 3 (by decide), tyX9_ok, nmX9⟩
set_option maxRecDepth 20000 in
theorem fX9_insert_29 : hq_fl vwCl wsX9_insert RX9 29 9 5 false .int := ⟨RX9, TX9, 7, tyX9, rfl, by decide, iX9_insert_9, by decide +kernel, rfl, tyX9_ok 5 (by decide), tyX9_ok, nmX9⟩
set_option maxRecDepth 20000 in
theorem fX9_insert_32 : hq_fl vwCl wsX9_insert RX9 32 9 6 false .int := ⟨RX9, TX9, 7, tyX9, rfl, by decide, iX9_insert_9, by decide +kernel, rfl, tyX9_ok 6 (by decide), tyX9_ok, nmX9⟩
set_option maxHeartbeats 4000000 in
set_option maxRecDepth 100000 in
theorem c_X9_insert (l : Launch) {D : va_G} {cA : Nat → ClassId} {B : Nat} {Z : State → Prop} (hZ : hq_Zo Z (hq_in B YC.length)) (v0 : Nat) (hv0 : YC[v0]? = some (9, 0)) (v1 : Int) (rv1 : rg v1) (v2 : Int) (rv2 : rg v2) (M : hq_M) (k : Int → hq_M → Prop) (hw : w_X9_insert v0 v1 v2 M k) : hq_T vwCl SLx l yX9_insert wsX9_insert ({ frames := 1, cells := 0, slots := 0, locals := 21 } : Room) D cA YC B Z [.ref (B + v0), .int (w3 v1), .int (w3 v2)] M (hq_qi k) := by
  refine hq_meth (cc := cX9_insert) (maxL := 4) (ret := (some .int)) (own := RX9) hZ rfl (by decide +kernel) rfl (Nat.le_of_ble_eq_true rfl) ?_
  intro p e s m below meth c ls C hs hl
  have hx := C.1.1
  have hb := C.1.2.1
  unfold w_X9_insert at hw
  have hl : lv_has ls 4 [(0, .ref (B + v0)), (1, .int (w3 v1)), (2, .int (w3 v2))] := hl
  refine lv_aload_n hx hb dX9_insert_0 rfl (lv_at hl 0 rfl) ?_
  refine lv_aload_n hx hb dX9_insert_1 rfl (lv_at hl 0 rfl) ?_
  refine hq_getI (o := v0) C hs fX9_insert_32 hv0 (by decide) rfl dX9_insert_2 (fun g1 => ?_)
  refine lv_iload_n hx hb dX9_insert_5 rfl (lv_at hl 2 rfl) ?_
  obtain ⟨g2, hw⟩ := hw
  refine hq_isub C dX9_insert_6 ?_
  refine hq_cV (n := 1) (ci := 9) (o := v0) (qc := (TX9, 7)) C hs (c_X9_shrink l C.2.2.2.2.1 v0 hv0 ((M v0 6) - v2) g2 _ _ hw) gX9_insert_X9_shrink rfl ⟨rfl, rfl⟩ (by decide +kernel) ⟨Nat.le_of_ble_eq_true rfl, Nat.le_of_ble_eq_true rfl⟩ hv0 (by decide) rfl rfl hl.1 rfl (Nat.le_of_ble_eq_true rfl) dX9_insert_7 (hq_kv (fun M3 H locs hw hs => ?_))
  refine lv_aload_n hx hb dX9_insert_10 rfl (lv_at hl 0 rfl) ?_
  refine hq_getI (o := v0) C hs fX9_insert_22 hv0 (by decide) rfl dX9_insert_11 (fun g4 => ?_)
  refine hq_nm (fun x5 ex5 => ?_)
  have hw := hw x5 ex5
  have rx5 : rg x5 := by rw [ex5]; exact g4
  refine lv_istore_n (lv' := [(3, .int (w3 x5)), (0, .ref (B + v0)), (1, .int (w3 v1)), (2, .int (w3 v2))]) hx hb dX9_insert_14 rfl hl (by decide) rfl (fun ls hl => ?_)
  refine lv_aload_n hx hb dX9_insert_15 rfl (lv_at hl 1 rfl) ?_
  refine hq_getR (o := v0) C hs fX9_insert_11 hv0 (by decide) rfl dX9_insert_16 ?_
  refine lv_iload_n hx hb dX9_insert_19 rfl (lv_at hl 0 rfl) ?_
  refine hq_bipush C dX9_insert_20 (by decide) ?_
  refine hq_iand (n := 64) 6 C (by decide) rx5 dX9_insert_22 ?_
  refine lv_iload_n hx hb dX9_insert_23 rfl (lv_at hl 2 rfl) ?_
  obtain ⟨g6, hw⟩ := hw
  refine hq_iast (o := (v0 + 1)) C hs (tc_9_0 hv0) (hq_rmask (by decide) (by decide)) g6 rv1 dX9_insert_24 (fun M7 eM7 H locs hs => ?_)
  have hw := hw M7 eM7
  refine lv_aload_n hx hb dX9_insert_25 rfl (lv_at hl 1 rfl) ?_
  refine hq_getR (o := v0) C hs fX9_insert_15 hv0 (by decide) rfl dX9_insert_26 ?_
  refine lv_iload_n hx hb dX9_insert_29 rfl (lv_at hl 0 rfl) ?_
  refine hq_bipush C dX9_insert_30 (by decide) ?_
  refine hq_iand (n := 64) 6 C (by decide) rx5 dX9_insert_32 ?_
  refine lv_iload_n hx hb dX9_insert_33 rfl (lv_at hl 3 rfl) ?_
  obtain ⟨g8, hw⟩ := hw
  refine hq_iast (o := (v0 + 2)) C hs (tc_9_1 hv0) (hq_rmask (by decide) (by decide)) g8 rv2 dX9_insert_34 (fun M9 eM9 H locs hs => ?_)
  have hw := hw M9 eM9
  refine lv_aload_n hx hb dX9_insert_35 rfl (lv_at hl 1 rfl) ?_
  refine hq_getR (o := v0) C hs fX9_insert_18 hv0 (by decide) rfl dX9_insert_36 ?_
  refine lv_iload_n hx hb dX9_insert_39 rfl (lv_at hl 0 rfl) ?_
  refine hq_bipush C dX9_insert_40 (by decide) ?_
  refine hq_iand (n := 64) 6 C (by decide) rx5 dX9_insert_42 ?_
  refine hq_lconst (z := 0) C dX9_insert_43 rfl ?_
  obtain ⟨g10, hw⟩ := hw
  refine hq_last (o := (v0 + 3)) C hs (tc_9_2 hv0) (hq_rmask (by decide) (by decide)) g10 (by decide : rl 0) dX9_insert_44 (fun M11 eM11 H locs hs => ?_)
  have hw := hw M11 eM11
  refine lv_aload_n hx hb dX9_insert_45 rfl (lv_at hl 1 rfl) ?_
  refine lv_dup hx hb dX9_insert_46 rfl ?_
  refine hq_getI (o := v0) C hs fX9_insert_29 hv0 (by decide) rfl dX9_insert_47 (fun g12 => ?_)
  refine lv_iload_n hx hb dX9_insert_50 rfl (lv_at hl 3 rfl) ?_
  obtain ⟨g13, hw⟩ := hw
  refine hq_iadd C dX9_insert_51 ?_
  refine hq_putI (o := v0) C hs fX9_insert_29 hv0 (by decide) rfl g13 dX9_insert_52 (fun M14 eM14 H locs hs => ?_)
  have hw := hw M14 eM14
  refine lv_aload_n hx hb dX9_insert_55 rfl (lv_at hl 1 rfl) ?_
  refine lv_dup hx hb dX9_insert_56 rfl ?_
  refine hq_getI (o := v0) C hs fX9_insert_22 hv0 (by decide) rfl dX9_insert_57 (fun g15 => ?_)
  refine hq_iconst C dX9_insert_60 ?_
  obtain ⟨g16, hw⟩ := hw
  refine hq_iadd C dX9_insert_61 ?_
  refine hq_putI (o := v0) C hs fX9_insert_22 hv0 (by decide) rfl g16 dX9_insert_62 (fun M17 eM17 H locs hs => ?_)
  have hw := hw M17 eM17
  refine lv_iload_n hx hb dX9_insert_65 rfl (lv_at hl 0 rfl) ?_
  exact hq_iret C hs rx5 hw dX9_insert_66
theorem iX8_deliverTo_7 : ∀ w ∈ u_ws RX7 TX7 4, w ∈ wsX8_deliverTo := fun w h => List.mem_cons_of_mem _ (List.mem_append_left _ (List.mem_append_left _ (List.mem_append_left _ (List.mem_append_left _ (List.mem_append_right _ h)))))
theorem iX8_deliverTo_8 : ∀ w ∈ u_ws RX8 TX8 5, w ∈ wsX8_deliverTo := fun w h => List.mem_cons_of_mem _ (List.mem_append_left _ (List.mem_append_left _ (List.mem_append_left _ (List.mem_append_left _ (List.mem_append_left _ (List.mem_append_right _ h))))))
set_option maxRecDepth 20000 in
theorem fX8_deliverTo_20 : hq_fl vwCl wsX8_deliverTo RX8 20 8 1 true (.array .int) := ⟨RX8, TX8, 5, tyX8, rfl, by decide, iX8_deliverTo_8, by decide +kernel, rfl, tyX8_ok 1 (by decide), tyX8_ok, nmX8⟩
set_option maxRecDepth 20000 in
theorem fX8_deliverTo_24 : hq_fl vwCl wsX8_deliverTo RX8 24 8 2 true (.array .int) := ⟨RX8, TX8, 5, tyX8, rfl, by decide, iX8_deliverTo_8, by decide +kernel, rfl, tyX8_ok 2 (by decide), tyX8_ok, nmX8⟩
set_option maxRecDepth 20000 in
theorem fX8_deliverTo_30 : hq_fl vwCl wsX8_deliverTo RX8 30 8 3 false .int := ⟨RX8, TX8, 5, tyX8, rfl, by decide, iX8_deliverTo_8, by decide +kernel, rfl, tyX8_ok 3 (by decide), tyX8_ok, nmX8⟩
set_option maxRecDepth 20000 in
theorem fX8_deliverTo_34 : hq_fl vwCl wsX8_deliverTo RX8 34 8 4 false .int := ⟨RX8, TX8, 5, tyX8, rfl, by decide, iX8_deliverTo_8, by decide +kernel, rfl, tyX8_ok 4 (by decide), tyX8_ok, nmX8⟩
set_option maxRecDepth 20000 in
theorem fX8_deliverTo_49 : hq_fl vwCl wsX8_deliverTo RX8 49 7 0 true (.object "HeadTables$Pairs") := ⟨RX7, TX7, 4, tyX7, rfl, by decide, iX8_deliverTo_7, by decide +kernel, rfl, tyX7_ok 0 (by decide), tyX7_ok, nmX7⟩
set_option maxHeartbeats 4000000 in
set_option maxRecDepth 100000 in
theorem c_X8_deliverTo (l : Launch) {D : va_G} {cA : Nat → ClassId} {B : Nat} {Z : State → Prop} (hZ : hq_Zo Z (hq_in B YC.length)) (v0 : Nat) (hv0 : YC[v0]? = some (8, 0)) (v1 : Nat) (hv1 : YC[v1]? = some (9, 0)) (v2 : Nat) (hv2 : YC[v2]? = some (7, 0)) (M : hq_M) (k : Int → hq_M → Prop) (hw : w_X8_deliverTo v0 v1 v2 M k) : hq_T vwCl SLx l yX8_deliverTo wsX8_deliverTo ({ frames := 2, cells := 0, slots := 0, locals := 44 } : Room) D cA YC B Z [.ref (B + v0), .ref (B + v1), .ref (B + v2)] M (hq_qz k) := by
  refine hq_meth (cc := cX8_deliverTo) (maxL := 6) (ret := (some .boolean)) (own := RX8) hZ rfl (by decide +kernel) rfl (Nat.le_of_ble_eq_true rfl) ?_
  intro p e s m below meth c ls C hs hl
  have hx := C.1.1
  have hb := C.1.2.1
  unfold w_X8_deliverTo at hw
  have hl : lv_has ls 6 [(0, .ref (B + v0)), (1, .ref (B + v1)), (2, .ref (B + v2))] := hl
  refine lv_aload_n hx hb dX8_deliverTo_0 rfl (lv_at hl 0 rfl) ?_
  refine hq_getI (o := v0) C hs fX8_deliverTo_34 hv0 (by decide) rfl dX8_deliverTo_1 (fun g1 => ?_)
  refine lv_aload_n hx hb dX8_deliverTo_4 rfl (lv_at hl 0 rfl) ?_
  refine hq_getI (o := v0) C hs fX8_deliverTo_30 hv0 (by decide) rfl dX8_deliverTo_5 (fun g2 => ?_)
  refine hq_icmp_lt (tgt := 13) C g1 g2 dX8_deliverTo_8 (by decide) (fun h => ?_) (fun h => ?_)
  · have hw := hw.1 h
    refine lv_aload_n hx hb dX8_deliverTo_13 rfl (lv_at hl 0 rfl) ?_
    refine hq_getI (o := v0) C hs fX8_deliverTo_34 hv0 (by decide) rfl dX8_deliverTo_14 (fun g3 => ?_)
    refine hq_sipush C dX8_deliverTo_17 (by decide) ?_
    refine hq_iand (n := 256) 8 C (by decide) g3 dX8_deliverTo_20 ?_
    refine hq_nm (fun x4 ex4 => ?_)
    have hw := hw x4 ex4
    have rx4 : rg x4 := by rw [ex4]; exact (hq_rmask (by decide) (by decide))
    refine lv_istore_n (lv' := [(3, .int (w3 x4)), (0, .ref (B + v0)), (1, .ref (B + v1)), (2, .ref (B + v2))]) hx hb dX8_deliverTo_21 rfl hl (by decide) rfl (fun ls hl => ?_)
    refine lv_aload_n hx hb dX8_deliverTo_22 rfl (lv_at hl 1 rfl) ?_
    refine hq_getR (o := v0) C hs fX8_deliverTo_24 hv0 (by decide) rfl dX8_deliverTo_23 ?_
    refine lv_iload_n hx hb dX8_deliverTo_26 rfl (lv_at hl 0 rfl) ?_
    refine lv_dup2_11 hx hb dX8_deliverTo_27 rfl rfl ?_
    obtain ⟨g5, hw⟩ := hw
    refine hq_iald (o := (v0 + 4)) C hs (tc_8_2 hv0) rx4 g5 dX8_deliverTo_28 (fun g6 => ?_)
    refine hq_iconst C dX8_deliverTo_29 ?_
    obtain ⟨g7, hw⟩ := hw
    refine hq_isub C dX8_deliverTo_30 ?_
    obtain ⟨g8, hw⟩ := hw
    refine hq_iast (o := (v0 + 4)) C hs (tc_8_2 hv0) rx4 g8 g7 dX8_deliverTo_31 (fun M9 eM9 H locs hs => ?_)
    have hw := hw M9 eM9
    refine lv_aload_n hx hb dX8_deliverTo_32 rfl (lv_at hl 1 rfl) ?_
    refine hq_getR (o := v0) C hs fX8_deliverTo_24 hv0 (by decide) rfl dX8_deliverTo_33 ?_
    refine lv_iload_n hx hb dX8_deliverTo_36 rfl (lv_at hl 0 rfl) ?_
    obtain ⟨g10, hw⟩ := hw
    refine hq_iald (o := (v0 + 4)) C hs (tc_8_2 hv0) rx4 g10 dX8_deliverTo_37 (fun g11 => ?_)
    refine hq_if_le (tgt := 43) C g11 dX8_deliverTo_38 (by decide) (fun h => ?_) (fun h => ?_)
    · have hw := hw.1 h
      refine lv_aload_n hx hb dX8_deliverTo_43 rfl (lv_at hl 1 rfl) ?_
      refine lv_dup hx hb dX8_deliverTo_44 rfl ?_
      refine hq_getI (o := v0) C hs fX8_deliverTo_34 hv0 (by decide) rfl dX8_deliverTo_45 (fun g12 => ?_)
      refine hq_iconst C dX8_deliverTo_48 ?_
      obtain ⟨g13, hw⟩ := hw
      refine hq_iadd C dX8_deliverTo_49 ?_
      refine hq_putI (o := v0) C hs fX8_deliverTo_34 hv0 (by decide) rfl g13 dX8_deliverTo_50 (fun M14 eM14 H locs hs => ?_)
      have hw := hw M14 eM14
      refine lv_aload_n hx hb dX8_deliverTo_53 rfl (lv_at hl 1 rfl) ?_
      refine hq_getR (o := v0) C hs fX8_deliverTo_20 hv0 (by decide) rfl dX8_deliverTo_54 ?_
      refine lv_iload_n hx hb dX8_deliverTo_57 rfl (lv_at hl 0 rfl) ?_
      obtain ⟨g15, hw⟩ := hw
      refine hq_iald (o := (v0 + 3)) C hs (tc_8_1 hv0) rx4 g15 dX8_deliverTo_58 (fun g16 => ?_)
      refine hq_nm (fun x17 ex17 => ?_)
      have hw := hw x17 ex17
      have rx17 : rg x17 := by rw [ex17]; exact g16
      refine lv_istore (lv' := [(4, .int (w3 x17)), (3, .int (w3 x4)), (0, .ref (B + v0)), (1, .ref (B + v1)), (2, .ref (B + v2))]) hx hb dX8_deliverTo_59 hl (by decide) rfl (fun ls hl => ?_)
      refine lv_iload hx hb dX8_deliverTo_61 (lv_at hl 0 rfl) ?_
      refine hq_if_ge (tgt := 76) C rx17 dX8_deliverTo_63 (by decide) (fun h => ?_) (fun h => ?_)
      · have hw := hw.1 h
        refine lv_aload_n hx hb dX8_deliverTo_76 rfl (lv_at hl 4 rfl) ?_
        refine hq_getR (o := v2) C hs fX8_deliverTo_49 hv2 (by decide) rfl dX8_deliverTo_77 ?_
        refine lv_iload hx hb dX8_deliverTo_80 (lv_at hl 0 rfl) ?_
        refine hq_cV (n := 1) (ci := 3) (o := (v2 + 1)) (qc := (TX3, 2)) C hs (c_X3_at l C.2.2.2.2.1 (v2 + 1) (tc_7_0 hv2) x17 rx17 _ _ hw) gX8_deliverTo_X3_at rfl ⟨rfl, rfl⟩ (by decide +kernel) ⟨Nat.le_of_ble_eq_true rfl, Nat.le_of_ble_eq_true rfl⟩ (tc_7_0 hv2) (by decide) rfl rfl hl.1 rfl (Nat.le_of_ble_eq_true rfl) dX8_deliverTo_82 (hq_kr (fun M9 H locs hw hs => ?_) (fun o18 M9 H locs ho18 hw hs => ?_))
        · obtain ⟨e9, hw⟩ := hw; rw [e9] at hs
          have hw := hw.1 rfl
          refine lv_astoreN (lv' := [(5, .null), (4, .int (w3 x17)), (3, .int (w3 x4)), (0, .ref (B + v0)), (1, .ref (B + v1)), (2, .ref (B + v2))]) hx hb dX8_deliverTo_85 hl (by decide) rfl (fun ls hl => ?_)
          refine lv_aloadN hx hb dX8_deliverTo_87 (lv_at hl 0 rfl) ?_
          refine lv_ifnullN (tgt := 104) hx hb dX8_deliverTo_89 (by decide) ?_
          refine hq_iconst C dX8_deliverTo_104 ?_
          exact hq_zret C hs (by decide) hw dX8_deliverTo_105
        · obtain ⟨e9, hw⟩ := hw; rw [e9] at hs
          have hw := hw.2 o18 rfl
          refine lv_astore (lv' := [(5, .ref (B + o18)), (4, .int (w3 x17)), (3, .int (w3 x4)), (0, .ref (B + v0)), (1, .ref (B + v1)), (2, .ref (B + v2))]) hx hb dX8_deliverTo_85 hl (by decide) rfl (fun ls hl => ?_)
          refine lv_aload hx hb dX8_deliverTo_87 (lv_at hl 0 rfl) ?_
          refine lv_ifnull hx hb dX8_deliverTo_89 ?_
          refine lv_aload_n hx hb dX8_deliverTo_92 rfl (lv_at hl 4 rfl) ?_
          refine lv_iload hx hb dX8_deliverTo_93 (lv_at hl 1 rfl) ?_
          refine lv_aload hx hb dX8_deliverTo_95 (lv_at hl 0 rfl) ?_
          refine hq_cV (n := 0) (ci := 2) (o := o18) (qc := (TX2, 2)) C hs (c_X2_entrySize l C.2.2.2.2.1 o18 ho18 _ _ hw) gX8_deliverTo_X2_entrySize rfl ⟨rfl, rfl⟩ (by decide +kernel) ⟨Nat.le_of_ble_eq_true rfl, Nat.le_of_ble_eq_true rfl⟩ ho18 (by decide) rfl rfl hl.1 rfl (Nat.le_of_ble_eq_true rfl) dX8_deliverTo_97 (hq_ki (fun x20 M9 H locs rx20 hw hs => ?_))
          obtain ⟨e9, hw⟩ := hw; rw [e9] at hs
          refine hq_cV (n := 2) (ci := 9) (o := v1) (qc := (TX9, 7)) C hs (c_X9_insert l C.2.2.2.2.1 v1 hv1 x17 rx17 x20 rx20 _ _ hw) gX8_deliverTo_X9_insert rfl ⟨rfl, rfl⟩ (by decide +kernel) ⟨Nat.le_of_ble_eq_true rfl, Nat.le_of_ble_eq_true rfl⟩ hv1 (by decide) rfl rfl hl.1 rfl (Nat.le_of_ble_eq_true rfl) dX8_deliverTo_100 (hq_ki (fun x22 M21 H locs rx22 hw hs => ?_))
          refine lv_pop hx hb dX8_deliverTo_103 rfl ?_
          refine hq_iconst C dX8_deliverTo_104 ?_
          exact hq_zret C hs (by decide) hw dX8_deliverTo_105
      · have hw := hw.2 h
        refine lv_aload_n hx hb dX8_deliverTo_66 rfl (lv_at hl 3 rfl) ?_
        refine hq_iconst C dX8_deliverTo_67 ?_
        refine lv_iload hx hb dX8_deliverTo_68 (lv_at hl 0 rfl) ?_
        obtain ⟨g23, hw⟩ := hw
        refine hq_isub C dX8_deliverTo_70 ?_
        refine hq_cV (n := 1) (ci := 9) (o := v1) (qc := (TX9, 7)) C hs (c_X9_changeCapacity l C.2.2.2.2.1 v1 hv1 ((-1) - x17) g23 _ _ hw) gX8_deliverTo_X9_changeCapacity rfl ⟨rfl, rfl⟩ (by decide +kernel) ⟨Nat.le_of_ble_eq_true rfl, Nat.le_of_ble_eq_true rfl⟩ hv1 (by decide) rfl rfl hl.1 rfl (Nat.le_of_ble_eq_true rfl) dX8_deliverTo_71 (hq_kv (fun M24 H locs hw hs => ?_))
        refine hq_iconst C dX8_deliverTo_74 ?_
        exact hq_zret C hs (by decide) hw dX8_deliverTo_75
    · have hw := hw.2 h
      refine hq_iconst C dX8_deliverTo_41 ?_
      exact hq_zret C hs (by decide) hw dX8_deliverTo_42
  · have hw := hw.2 h
    refine hq_iconst C dX8_deliverTo_11 ?_
    exact hq_zret C hs (by decide) hw dX8_deliverTo_12
theorem iX9_copyOf_9 : ∀ w ∈ u_ws RX9 TX9 7, w ∈ wsX9_copyOf := fun w h => List.mem_cons_of_mem _ (List.mem_append_right _ h)
set_option maxRecDepth 20000 in
theorem fX9_copyOf_11 : hq_fl vwCl wsX9_copyOf RX9 11 9 0 true (.array .int) := ⟨RX9, TX9, 7, tyX9, rfl, by decide, iX9_copyOf_9, by decide +kernel, rfl, tyX9_ok 0 (by decide), tyX9_ok, nmX9⟩
set_option maxRecDepth 20000 in
theorem fX9_copyOf_15 : hq_fl vwCl wsX9_copyOf RX9 15 9 1 true (.array .int) := ⟨RX9, TX9, 7, tyX9, rfl, by decide, iX9_copyOf_9, by decide +kernel, rfl, tyX9_ok 1 (by decide), tyX9_ok, nmX9⟩
set_option maxRecDepth 20000 in
theorem fX9_copyOf_18 : hq_fl vwCl wsX9_copyOf RX9 18 9 2 true (.array .long) := ⟨RX9, TX9, 7, tyX9, rfl, by decide, iX9_copyOf_9, by decide +kernel, rfl, tyX9_ok 2 (by decide), tyX9_ok, nmX9⟩
set_option maxRecDepth 20000 in
theorem fX9_copyOf_22 : hq_fl vwCl wsX9_copyOf RX9 22 9 3 false .int := ⟨RX9, TX9, 7, tyX9, rfl, by decide, iX9_copyOf_9, by decide +kernel, rfl, tyX9_ok 3 (by decide), tyX9_ok, nmX9⟩
set_option maxRecDepth 20000 in
theorem fX9_copyOf_26 : hq_fl vwCl wsX9_copyOf RX9 26 9 4 false .int := ⟨RX9, TX9, 7, tyX9, rfl, by decide, iX9_copyOf_9, by decide +kernel, rfl, tyX9_ok 4 (by decide), tyX9_ok, nmX9⟩
set_option maxRecDepth 20000 in
theorem fX9_copyOf_29 : hq_fl vwCl wsX9_copyOf RX9 29 9 5 false .int := ⟨RX9, TX9, 7, tyX9, rfl, by decide, iX9_copyOf_9, by decide +kernel, rfl, tyX9_ok 5 (by decide), tyX9_ok, nmX9⟩
set_option maxRecDepth 20000 in
theorem fX9_copyOf_32 : hq_fl vwCl wsX9_copyOf RX9 32 9 6 false .int := ⟨RX9, TX9, 7, tyX9, rfl, by decide, iX9_copyOf_9, by decide +kernel, rfl, tyX9_ok 6 (by decide), tyX9_ok, nmX9⟩
set_option maxHeartbeats 4000000 in
set_option maxRecDepth 100000 in
theorem cl_X9_copyOf_2 {p : Program} {l : Launch} {e : Env} {s : State} {m : MethodId} {args : Array Value} {below : List Frame} {meth : Method} {c : Code} {D : va_G} {cA : Nat → ClassId} {B : Nat} {Z : State → Prop} (v0 : Nat) (hv0 : YC[v0]? = some (9, 0)) (v1 : Nat) (hv1 : YC[v1]? = some (9, 0)) {k_50 : hq_M → Prop} {k : hq_M → Prop} (C : hq_C vwCl p m c cX9_copyOf 3 s args wsX9_copyOf RX9 meth none D cA (hq_in B YC.length) Z)
    (hk_50 : ∀ (M1 : hq_M) (H : Heap) (locs : List Loc) (ls : Array Slot), k_50 M1 → hq_S vwCl SLx D cA YC B s.heap M1 H locs → lv_has ls 3 [(0, .ref (B + v0)), (1, .ref (B + v1))] → W p l e ({ frames := 0, cells := 0, slots := 0, locals := 0 } : Room) s m args below meth c H locs 0 0 (MQ below (hq_Q vwCl SLx D cA YC B (hq_qv k)) args s 0 0 (hq_in B YC.length)) (F0 m 50 ls [])) : ∀ (n : Nat) (v2 : Int) (rv2 : rg v2) (M : hq_M) (H : Heap) (locs : List Loc) (ls : Array Slot), l_X9_copyOf_2 v0 v1 k_50 k n v2 M → hq_S vwCl SLx D cA YC B s.heap M H locs → lv_has ls 3 [(0, .ref (B + v0)), (1, .ref (B + v1)), (2, .int (w3 v2))] → W p l e ({ frames := 0, cells := 0, slots := 0, locals := 0 } : Room) s m args below meth c H locs 0 0 (MQ below (hq_Q vwCl SLx D cA YC B (hq_qv k)) args s 0 0 (hq_in B YC.length)) (F0 m 2 ls []) := by
  have hx := C.1.1
  have hb := C.1.2.1
  intro n
  induction n with
  | zero => intro v2 rv2 M H locs ls hw hs hl; exact hw.elim
  | succ n ih =>
    intro v2 rv2 M H locs ls hw hs hl
    unfold l_X9_copyOf_2 at hw
    refine lv_iload_n hx hb dX9_copyOf_2 rfl (lv_at hl 2 rfl) ?_
    refine hq_bipush C dX9_copyOf_3 (by decide) ?_
    refine hq_icmp_ge (tgt := 50) C rv2 (by decide : rg 64) dX9_copyOf_5 (by decide) (fun h => ?_) (fun h => ?_)
    · have hw := hw.1 h
      exact hk_50 _ _ _ _ hw hs (lv_sub hl [0, 1] rfl)
    · have hw := hw.2 h
      refine lv_aload_n hx hb dX9_copyOf_8 rfl (lv_at hl 0 rfl) ?_
      refine hq_getR (o := v0) C hs fX9_copyOf_11 hv0 (by decide) rfl dX9_copyOf_9 ?_
      refine lv_iload_n hx hb dX9_copyOf_12 rfl (lv_at hl 2 rfl) ?_
      refine lv_aload_n hx hb dX9_copyOf_13 rfl (lv_at hl 1 rfl) ?_
      refine hq_getR (o := v1) C hs fX9_copyOf_11 hv1 (by decide) rfl dX9_copyOf_14 ?_
      refine lv_iload_n hx hb dX9_copyOf_17 rfl (lv_at hl 2 rfl) ?_
      obtain ⟨g1, hw⟩ := hw
      refine hq_iald (o := (v1 + 1)) C hs (tc_9_0 hv1) rv2 g1 dX9_copyOf_18 (fun g2 => ?_)
      obtain ⟨g3, hw⟩ := hw
      refine hq_iast (o := (v0 + 1)) C hs (tc_9_0 hv0) rv2 g3 g2 dX9_copyOf_19 (fun M4 eM4 H locs hs => ?_)
      have hw := hw M4 eM4
      refine lv_aload_n hx hb dX9_copyOf_20 rfl (lv_at hl 0 rfl) ?_
      refine hq_getR (o := v0) C hs fX9_copyOf_15 hv0 (by decide) rfl dX9_copyOf_21 ?_
      refine lv_iload_n hx hb dX9_copyOf_24 rfl (lv_at hl 2 rfl) ?_
      refine lv_aload_n hx hb dX9_copyOf_25 rfl (lv_at hl 1 rfl) ?_
      refine hq_getR (o := v1) C hs fX9_copyOf_15 hv1 (by decide) rfl dX9_copyOf_26 ?_
      refine lv_iload_n hx hb dX9_copyOf_29 rfl (lv_at hl 2 rfl) ?_
      obtain ⟨g5, hw⟩ := hw
      refine hq_iald (o := (v1 + 2)) C hs (tc_9_1 hv1) rv2 g5 dX9_copyOf_30 (fun g6 => ?_)
      obtain ⟨g7, hw⟩ := hw
      refine hq_iast (o := (v0 + 2)) C hs (tc_9_1 hv0) rv2 g7 g6 dX9_copyOf_31 (fun M8 eM8 H locs hs => ?_)
      have hw := hw M8 eM8
      refine lv_aload_n hx hb dX9_copyOf_32 rfl (lv_at hl 0 rfl) ?_
      refine hq_getR (o := v0) C hs fX9_copyOf_18 hv0 (by decide) rfl dX9_copyOf_33 ?_
      refine lv_iload_n hx hb dX9_copyOf_36 rfl (lv_at hl 2 rfl) ?_
      refine lv_aload_n hx hb dX9_copyOf_37 rfl (lv_at hl 1 rfl) ?_
      refine hq_getR (o := v1) C hs fX9_copyOf_18 hv1 (by decide) rfl dX9_copyOf_38 ?_
      refine lv_iload_n hx hb dX9_copyOf_41 rfl (lv_at hl 2 rfl) ?_
      obtain ⟨g9, hw⟩ := hw
      refine hq_lald (o := (v1 + 3)) C hs (tc_9_2 hv1) rv2 g9 dX9_copyOf_42 (fun g10 => ?_)
      obtain ⟨g11, hw⟩ := hw
      refine hq_last (o := (v0 + 3)) C hs (tc_9_2 hv0) rv2 g11 g10 dX9_copyOf_43 (fun M12 eM12 H locs hs => ?_)
      have hw := hw M12 eM12
      obtain ⟨g14, hw⟩ := hw
      refine hq_iinc (k := 2) C dX9_copyOf_44 hl rfl (by decide) (fun x13 ex13 ls hl => ?_)
      have hw := hw x13 ex13
      have rx13 : rg x13 := by rw [ex13]; exact g14
      have hl : lv_has ls 3 [(2, .int (w3 x13)), (0, .ref (B + v0)), (1, .ref (B + v1))] := hl
      refine hq_goto (tgt := 2) C dX9_copyOf_47 (by decide) ?_
      exact ih x13 rx13 _ _ _ _ hw hs (lv_sub hl [1, 2, 0] rfl)
set_option maxHeartbeats 4000000 in
set_option maxRecDepth 100000 in
theorem c_X9_copyOf (l : Launch) {D : va_G} {cA : Nat → ClassId} {B : Nat} {Z : State → Prop} (hZ : hq_Zo Z (hq_in B YC.length)) (v0 : Nat) (hv0 : YC[v0]? = some (9, 0)) (v1 : Nat) (hv1 : YC[v1]? = some (9, 0)) (M : hq_M) (k : hq_M → Prop) (hw : w_X9_copyOf v0 v1 M k) : hq_T vwCl SLx l yX9_copyOf wsX9_copyOf ({ frames := 0, cells := 0, slots := 0, locals := 0 } : Room) D cA YC B Z [.ref (B + v0), .ref (B + v1)] M (hq_qv k) := by
  refine hq_meth (cc := cX9_copyOf) (maxL := 3) (ret := none) (own := RX9) hZ rfl (by decide +kernel) rfl (Nat.le_of_ble_eq_true rfl) ?_
  intro p e s m below meth c ls C hs hl
  have hx := C.1.1
  have hb := C.1.2.1
  unfold w_X9_copyOf at hw
  have hl : lv_has ls 3 [(0, .ref (B + v0)), (1, .ref (B + v1))] := hl
  refine hq_iconst C dX9_copyOf_0 ?_
  refine lv_istore_n (lv' := [(2, .int (w3 0)), (0, .ref (B + v0)), (1, .ref (B + v1))]) hx hb dX9_copyOf_1 rfl hl (by decide) rfl (fun ls hl => ?_)
  obtain ⟨n9, hw⟩ := hw
  refine cl_X9_copyOf_2 v0 hv0 v1 hv1 C ?_ n9 0 (by decide : rg 0) _ _ _ _ hw hs (lv_sub hl [1, 2, 0] rfl)
  · intro M1 H locs ls hw hs hl
    refine lv_aload_n hx hb dX9_copyOf_50 rfl (lv_at hl 0 rfl) ?_
    refine lv_aload_n hx hb dX9_copyOf_51 rfl (lv_at hl 1 rfl) ?_
    refine hq_getI (o := v1) C hs fX9_copyOf_22 hv1 (by decide) rfl dX9_copyOf_52 (fun g2 => ?_)
    refine hq_putI (o := v0) C hs fX9_copyOf_22 hv0 (by decide) rfl g2 dX9_copyOf_55 (fun M3 eM3 H locs hs => ?_)
    have hw := hw M3 eM3
    refine lv_aload_n hx hb dX9_copyOf_58 rfl (lv_at hl 0 rfl) ?_
    refine lv_aload_n hx hb dX9_copyOf_59 rfl (lv_at hl 1 rfl) ?_
    refine hq_getI (o := v1) C hs fX9_copyOf_26 hv1 (by decide) rfl dX9_copyOf_60 (fun g4 => ?_)
    refine hq_putI (o := v0) C hs fX9_copyOf_26 hv0 (by decide) rfl g4 dX9_copyOf_63 (fun M5 eM5 H locs hs => ?_)
    have hw := hw M5 eM5
    refine lv_aload_n hx hb dX9_copyOf_66 rfl (lv_at hl 0 rfl) ?_
    refine lv_aload_n hx hb dX9_copyOf_67 rfl (lv_at hl 1 rfl) ?_
    refine hq_getI (o := v1) C hs fX9_copyOf_29 hv1 (by decide) rfl dX9_copyOf_68 (fun g6 => ?_)
    refine hq_putI (o := v0) C hs fX9_copyOf_29 hv0 (by decide) rfl g6 dX9_copyOf_71 (fun M7 eM7 H locs hs => ?_)
    have hw := hw M7 eM7
    refine lv_aload_n hx hb dX9_copyOf_74 rfl (lv_at hl 0 rfl) ?_
    refine lv_aload_n hx hb dX9_copyOf_75 rfl (lv_at hl 1 rfl) ?_
    refine hq_getI (o := v1) C hs fX9_copyOf_32 hv1 (by decide) rfl dX9_copyOf_76 (fun g8 => ?_)
    refine hq_putI (o := v0) C hs fX9_copyOf_32 hv0 (by decide) rfl g8 dX9_copyOf_79 (fun M9 eM9 H locs hs => ?_)
    have hw := hw M9 eM9
    exact hq_vret C hs hw dX9_copyOf_82
theorem iX9_has_9 : ∀ w ∈ u_ws RX9 TX9 7, w ∈ wsX9_has := fun w h => List.mem_cons_of_mem _ (List.mem_append_right _ h)
set_option maxRecDepth 20000 in
theorem fX9_has_22 : hq_fl vwCl wsX9_has RX9 22 9 3 false .int := ⟨RX9, TX9, 7, tyX9, rfl, by decide, iX9_has_9, by decide +kernel, rfl, tyX9_ok 3 (by decide), tyX9_ok, nmX9⟩
set_option maxRecDepth 20000 in
theorem fX9_has_26 : hq_fl vwCl wsX9_has RX9 26 9 4 false .int := ⟨RX9, TX9, 7, tyX9, rfl, by decide, iX9_has_9, by decide +kernel, rfl, tyX9_ok 4 (by decide), tyX9_ok, nmX9⟩
set_option maxHeartbeats 4000000 in
set_option maxRecDepth 100000 in
theorem c_X9_has (l : Launch) {D : va_G} {cA : Nat → ClassId} {B : Nat} {Z : State → Prop} (hZ : hq_Zo Z (hq_in B YC.length)) (v0 : Nat) (hv0 : YC[v0]? = some (9, 0)) (v1 : Int) (rv1 : rg v1) (M : hq_M) (k : Int → Prop) (hw : w_X9_has v0 v1 M k) : hq_T vwCl SLx l yX9_has wsX9_has ({ frames := 0, cells := 0, slots := 0, locals := 0 } : Room) D cA YC B Z [.ref (B + v0), .int (w3 v1)] M (hq_qz (fun z M' => M' = M ∧ k z)) := by
  refine hq_meth (cc := cX9_has) (maxL := 2) (ret := (some .boolean)) (own := RX9) hZ rfl (by decide +kernel) rfl (Nat.le_of_ble_eq_true rfl) ?_
  intro p e s m below meth c ls C hs hl
  have hx := C.1.1
  have hb := C.1.2.1
  unfold w_X9_has at hw
  have hl : lv_has ls 2 [(0, .ref (B + v0)), (1, .int (w3 v1))] := hl
  refine lv_iload_n hx hb dX9_has_0 rfl (lv_at hl 1 rfl) ?_
  refine lv_aload_n hx hb dX9_has_1 rfl (lv_at hl 0 rfl) ?_
  refine hq_getI (o := v0) C hs fX9_has_26 hv0 (by decide) rfl dX9_has_2 (fun g1 => ?_)
  refine hq_icmp_lt (tgt := 20) C rv1 g1 dX9_has_5 (by decide) (fun h => ?_) (fun h => ?_)
  · have hw := hw.1 h
    refine hq_iconst C dX9_has_20 ?_
    exact hq_zret C hs (by decide) ⟨rfl, hw⟩ dX9_has_21
  · have hw := hw.2 h
    refine lv_iload_n hx hb dX9_has_8 rfl (lv_at hl 1 rfl) ?_
    refine lv_aload_n hx hb dX9_has_9 rfl (lv_at hl 0 rfl) ?_
    refine hq_getI (o := v0) C hs fX9_has_22 hv0 (by decide) rfl dX9_has_10 (fun g2 => ?_)
    refine hq_icmp_ge (tgt := 20) C rv1 g2 dX9_has_13 (by decide) (fun h => ?_) (fun h => ?_)
    · have hw := hw.1 h
      refine hq_iconst C dX9_has_20 ?_
      exact hq_zret C hs (by decide) ⟨rfl, hw⟩ dX9_has_21
    · have hw := hw.2 h
      refine hq_iconst C dX9_has_16 ?_
      refine hq_goto (tgt := 21) C dX9_has_17 (by decide) ?_
      exact hq_zret C hs (by decide) ⟨rfl, hw⟩ dX9_has_21
theorem iX9_fieldAt_9 : ∀ w ∈ u_ws RX9 TX9 7, w ∈ wsX9_fieldAt := fun w h => List.mem_cons_of_mem _ (List.mem_append_right _ h)
set_option maxRecDepth 20000 in
theorem fX9_fieldAt_11 : hq_fl vwCl wsX9_fieldAt RX9 11 9 0 true (.array .int) := ⟨RX9, TX9, 7, tyX9, rfl, by decide, iX9_fieldAt_9, by decide +kernel, rfl, tyX9_ok 0 (by decide), tyX9_ok, nmX9⟩
set_option maxHeartbeats 4000000 in
set_option maxRecDepth 100000 in
theorem c_X9_fieldAt (l : Launch) {D : va_G} {cA : Nat → ClassId} {B : Nat} {Z : State → Prop} (hZ : hq_Zo Z (hq_in B YC.length)) (v0 : Nat) (hv0 : YC[v0]? = some (9, 0)) (v1 : Int) (rv1 : rg v1) (M : hq_M) (k : Int → Prop) (hw : w_X9_fieldAt v0 v1 M k) : hq_T vwCl SLx l yX9_fieldAt wsX9_fieldAt ({ frames := 0, cells := 0, slots := 0, locals := 0 } : Room) D cA YC B Z [.ref (B + v0), .int (w3 v1)] M (hq_qi (fun z M' => M' = M ∧ k z)) := by
  refine hq_meth (cc := cX9_fieldAt) (maxL := 2) (ret := (some .int)) (own := RX9) hZ rfl (by decide +kernel) rfl (Nat.le_of_ble_eq_true rfl) ?_
  intro p e s m below meth c ls C hs hl
  have hx := C.1.1
  have hb := C.1.2.1
  unfold w_X9_fieldAt at hw
  have hl : lv_has ls 2 [(0, .ref (B + v0)), (1, .int (w3 v1))] := hl
  refine lv_aload_n hx hb dX9_fieldAt_0 rfl (lv_at hl 0 rfl) ?_
  refine hq_getR (o := v0) C hs fX9_fieldAt_11 hv0 (by decide) rfl dX9_fieldAt_1 ?_
  refine lv_iload_n hx hb dX9_fieldAt_4 rfl (lv_at hl 1 rfl) ?_
  refine hq_bipush C dX9_fieldAt_5 (by decide) ?_
  refine hq_iand (n := 64) 6 C (by decide) rv1 dX9_fieldAt_7 ?_
  obtain ⟨g1, hw⟩ := hw
  refine hq_iald (o := (v0 + 1)) C hs (tc_9_0 hv0) (hq_rmask (by decide) (by decide)) g1 dX9_fieldAt_8 (fun g2 => ?_)
  exact hq_iret C hs g2 ⟨rfl, hw⟩ dX9_fieldAt_9
theorem iX9_sizeAt_9 : ∀ w ∈ u_ws RX9 TX9 7, w ∈ wsX9_sizeAt := fun w h => List.mem_cons_of_mem _ (List.mem_append_right _ h)
set_option maxRecDepth 20000 in
theorem fX9_sizeAt_15 : hq_fl vwCl wsX9_sizeAt RX9 15 9 1 true (.array .int) := ⟨RX9, TX9, 7, tyX9, rfl, by decide, iX9_sizeAt_9, by decide +kernel, rfl, tyX9_ok 1 (by decide), tyX9_ok, nmX9⟩
set_option maxHeartbeats 4000000 in
set_option maxRecDepth 100000 in
theorem c_X9_sizeAt (l : Launch) {D : va_G} {cA : Nat → ClassId} {B : Nat} {Z : State → Prop} (hZ : hq_Zo Z (hq_in B YC.length)) (v0 : Nat) (hv0 : YC[v0]? = some (9, 0)) (v1 : Int) (rv1 : rg v1) (M : hq_M) (k : Int → Prop) (hw : w_X9_sizeAt v0 v1 M k) : hq_T vwCl SLx l yX9_sizeAt wsX9_sizeAt ({ frames := 0, cells := 0, slots := 0, locals := 0 } : Room) D cA YC B Z [.ref (B + v0), .int (w3 v1)] M (hq_qi (fun z M' => M' = M ∧ k z)) := by
  refine hq_meth (cc := cX9_sizeAt) (maxL := 2) (ret := (some .int)) (own := RX9) hZ rfl (by decide +kernel) rfl (Nat.le_of_ble_eq_true rfl) ?_
  intro p e s m below meth c ls C hs hl
  have hx := C.1.1
  have hb := C.1.2.1
  unfold w_X9_sizeAt at hw
  have hl : lv_has ls 2 [(0, .ref (B + v0)), (1, .int (w3 v1))] := hl
  refine lv_aload_n hx hb dX9_sizeAt_0 rfl (lv_at hl 0 rfl) ?_
  refine hq_getR (o := v0) C hs fX9_sizeAt_15 hv0 (by decide) rfl dX9_sizeAt_1 ?_
  refine lv_iload_n hx hb dX9_sizeAt_4 rfl (lv_at hl 1 rfl) ?_
  refine hq_bipush C dX9_sizeAt_5 (by decide) ?_
  refine hq_iand (n := 64) 6 C (by decide) rv1 dX9_sizeAt_7 ?_
  obtain ⟨g1, hw⟩ := hw
  refine hq_iald (o := (v0 + 2)) C hs (tc_9_1 hv0) (hq_rmask (by decide) (by decide)) g1 dX9_sizeAt_8 (fun g2 => ?_)
  exact hq_iret C hs g2 ⟨rfl, hw⟩ dX9_sizeAt_9
theorem iX9_holdersAt_9 : ∀ w ∈ u_ws RX9 TX9 7, w ∈ wsX9_holdersAt := fun w h => List.mem_cons_of_mem _ (List.mem_append_right _ h)
set_option maxRecDepth 20000 in
theorem fX9_holdersAt_18 : hq_fl vwCl wsX9_holdersAt RX9 18 9 2 true (.array .long) := ⟨RX9, TX9, 7, tyX9, rfl, by decide, iX9_holdersAt_9, by decide +kernel, rfl, tyX9_ok 2 (by decide), tyX9_ok, nmX9⟩
set_option maxHeartbeats 4000000 in
set_option maxRecDepth 100000 in
theorem c_X9_holdersAt (l : Launch) {D : va_G} {cA : Nat → ClassId} {B : Nat} {Z : State → Prop} (hZ : hq_Zo Z (hq_in B YC.length)) (v0 : Nat) (hv0 : YC[v0]? = some (9, 0)) (v1 : Int) (rv1 : rg v1) (M : hq_M) (k : Int → Prop) (hw : w_X9_holdersAt v0 v1 M k) : hq_T vwCl SLx l yX9_holdersAt wsX9_holdersAt ({ frames := 0, cells := 0, slots := 0, locals := 0 } : Room) D cA YC B Z [.ref (B + v0), .int (w3 v1)] M (hq_ql (fun z M' => M' = M ∧ k z)) := by
  refine hq_meth (cc := cX9_holdersAt) (maxL := 2) (ret := (some .long)) (own := RX9) hZ rfl (by decide +kernel) rfl (Nat.le_of_ble_eq_true rfl) ?_
  intro p e s m below meth c ls C hs hl
  have hx := C.1.1
  have hb := C.1.2.1
  unfold w_X9_holdersAt at hw
  have hl : lv_has ls 2 [(0, .ref (B + v0)), (1, .int (w3 v1))] := hl
  refine lv_aload_n hx hb dX9_holdersAt_0 rfl (lv_at hl 0 rfl) ?_
  refine hq_getR (o := v0) C hs fX9_holdersAt_18 hv0 (by decide) rfl dX9_holdersAt_1 ?_
  refine lv_iload_n hx hb dX9_holdersAt_4 rfl (lv_at hl 1 rfl) ?_
  refine hq_bipush C dX9_holdersAt_5 (by decide) ?_
  refine hq_iand (n := 64) 6 C (by decide) rv1 dX9_holdersAt_7 ?_
  obtain ⟨g1, hw⟩ := hw
  refine hq_lald (o := (v0 + 3)) C hs (tc_9_2 hv0) (hq_rmask (by decide) (by decide)) g1 dX9_holdersAt_8 (fun g2 => ?_)
  exact hq_lret C hs g2 ⟨rfl, hw⟩ dX9_holdersAt_9
theorem iX9_hold_9 : ∀ w ∈ u_ws RX9 TX9 7, w ∈ wsX9_hold := fun w h => List.mem_cons_of_mem _ (List.mem_append_right _ h)
set_option maxRecDepth 20000 in
theorem fX9_hold_18 : hq_fl vwCl wsX9_hold RX9 18 9 2 true (.array .long) := ⟨RX9, TX9, 7, tyX9, rfl, by decide, iX9_hold_9, by decide +kernel, rfl, tyX9_ok 2 (by decide), tyX9_ok, nmX9⟩
set_option maxHeartbeats 4000000 in
set_option maxRecDepth 100000 in
theorem c_X9_hold (l : Launch) {D : va_G} {cA : Nat → ClassId} {B : Nat} {Z : State → Prop} (hZ : hq_Zo Z (hq_in B YC.length)) (v0 : Nat) (hv0 : YC[v0]? = some (9, 0)) (v1 : Int) (rv1 : rg v1) (v2 : Int) (rv2 : rg v2) (M : hq_M) (k : hq_M → Prop) (hw : w_X9_hold v0 v1 v2 M k) : hq_T vwCl SLx l yX9_hold wsX9_hold ({ frames := 0, cells := 0, slots := 0, locals := 0 } : Room) D cA YC B Z [.ref (B + v0), .int (w3 v1), .int (w3 v2)] M (hq_qv k) := by
  refine hq_meth (cc := cX9_hold) (maxL := 3) (ret := none) (own := RX9) hZ rfl (by decide +kernel) rfl (Nat.le_of_ble_eq_true rfl) ?_
  intro p e s m below meth c ls C hs hl
  have hx := C.1.1
  have hb := C.1.2.1
  unfold w_X9_hold at hw
  have hl : lv_has ls 3 [(0, .ref (B + v0)), (1, .int (w3 v1)), (2, .int (w3 v2))] := hl
  refine lv_aload_n hx hb dX9_hold_0 rfl (lv_at hl 0 rfl) ?_
  refine hq_getR (o := v0) C hs fX9_hold_18 hv0 (by decide) rfl dX9_hold_1 ?_
  refine lv_iload_n hx hb dX9_hold_4 rfl (lv_at hl 1 rfl) ?_
  refine hq_bipush C dX9_hold_5 (by decide) ?_
  refine hq_iand (n := 64) 6 C (by decide) rv1 dX9_hold_7 ?_
  refine lv_dup2_11 hx hb dX9_hold_8 rfl rfl ?_
  obtain ⟨g1, hw⟩ := hw
  refine hq_lald (o := (v0 + 3)) C hs (tc_9_2 hv0) (hq_rmask (by decide) (by decide)) g1 dX9_hold_9 (fun g2 => ?_)
  refine hq_lconst (z := 1) C dX9_hold_10 rfl ?_
  refine lv_iload_n hx hb dX9_hold_11 rfl (lv_at hl 2 rfl) ?_
  refine hq_lshl C dX9_hold_12 ?_
  refine hq_lor C dX9_hold_13 ?_
  obtain ⟨g3, hw⟩ := hw
  refine hq_last (o := (v0 + 3)) C hs (tc_9_2 hv0) (hq_rmask (by decide) (by decide)) g3 (w6_rl _) dX9_hold_14 (fun M4 eM4 H locs hs => ?_)
  have hw := hw M4 eM4
  exact hq_vret C hs hw dX9_hold_15
theorem iX9_release_9 : ∀ w ∈ u_ws RX9 TX9 7, w ∈ wsX9_release := fun w h => List.mem_cons_of_mem _ (List.mem_append_right _ h)
set_option maxRecDepth 20000 in
theorem fX9_release_18 : hq_fl vwCl wsX9_release RX9 18 9 2 true (.array .long) := ⟨RX9, TX9, 7, tyX9, rfl, by decide, iX9_release_9, by decide +kernel, rfl, tyX9_ok 2 (by decide), tyX9_ok, nmX9⟩
set_option maxRecDepth 20000 in
theorem kX9_release_35 : Cond.constantLong RX9 35 (-1) ∈ wsX9_release := by decide +kernel
set_option maxHeartbeats 4000000 in
set_option maxRecDepth 100000 in
theorem cl_X9_release_2 {p : Program} {l : Launch} {e : Env} {s : State} {m : MethodId} {args : Array Value} {below : List Frame} {meth : Method} {c : Code} {D : va_G} {cA : Nat → ClassId} {B : Nat} {Z : State → Prop} (v0 : Nat) (hv0 : YC[v0]? = some (9, 0)) (v1 : Int) (rv1 : rg v1)  {k : hq_M → Prop} (C : hq_C vwCl p m c cX9_release 3 s args wsX9_release RX9 meth none D cA (hq_in B YC.length) Z)
     : ∀ (n : Nat) (v2 : Int) (rv2 : rg v2) (M : hq_M) (H : Heap) (locs : List Loc) (ls : Array Slot), l_X9_release_2 v0 v1 k n v2 M → hq_S vwCl SLx D cA YC B s.heap M H locs → lv_has ls 3 [(0, .ref (B + v0)), (1, .int (w3 v1)), (2, .int (w3 v2))] → W p l e ({ frames := 0, cells := 0, slots := 0, locals := 0 } : Room) s m args below meth c H locs 0 0 (MQ below (hq_Q vwCl SLx D cA YC B (hq_qv k)) args s 0 0 (hq_in B YC.length)) (F0 m 2 ls []) := by
  have hx := C.1.1
  have hb := C.1.2.1
  intro n
  induction n with
  | zero => intro v2 rv2 M H locs ls hw hs hl; exact hw.elim
  | succ n ih =>
    intro v2 rv2 M H locs ls hw hs hl
    unfold l_X9_release_2 at hw
    refine lv_iload_n hx hb dX9_release_2 rfl (lv_at hl 2 rfl) ?_
    refine hq_bipush C dX9_release_3 (by decide) ?_
    refine hq_icmp_ge (tgt := 30) C rv2 (by decide : rg 64) dX9_release_5 (by decide) (fun h => ?_) (fun h => ?_)
    · have hw := hw.1 h
      exact hq_vret C hs hw dX9_release_30
    · have hw := hw.2 h
      refine lv_aload_n hx hb dX9_release_8 rfl (lv_at hl 0 rfl) ?_
      refine hq_getR (o := v0) C hs fX9_release_18 hv0 (by decide) rfl dX9_release_9 ?_
      refine lv_iload_n hx hb dX9_release_12 rfl (lv_at hl 2 rfl) ?_
      refine lv_dup2_11 hx hb dX9_release_13 rfl rfl ?_
      obtain ⟨g1, hw⟩ := hw
      refine hq_lald (o := (v0 + 3)) C hs (tc_9_2 hv0) rv2 g1 dX9_release_14 (fun g2 => ?_)
      refine hq_lconst (z := 1) C dX9_release_15 rfl ?_
      refine lv_iload_n hx hb dX9_release_16 rfl (lv_at hl 1 rfl) ?_
      refine hq_lshl C dX9_release_17 ?_
      refine hq_ldc2 (z := (-1)) C kX9_release_35 (by decide) dX9_release_18 ?_
      refine hq_lxor C dX9_release_21 ?_
      refine hq_land C dX9_release_22 ?_
      obtain ⟨g3, hw⟩ := hw
      refine hq_last (o := (v0 + 3)) C hs (tc_9_2 hv0) rv2 g3 (w6_rl _) dX9_release_23 (fun M4 eM4 H locs hs => ?_)
      have hw := hw M4 eM4
      obtain ⟨g6, hw⟩ := hw
      refine hq_iinc (k := 2) C dX9_release_24 hl rfl (by decide) (fun x5 ex5 ls hl => ?_)
      have hw := hw x5 ex5
      have rx5 : rg x5 := by rw [ex5]; exact g6
      have hl : lv_has ls 3 [(2, .int (w3 x5)), (0, .ref (B + v0)), (1, .int (w3 v1))] := hl
      refine hq_goto (tgt := 2) C dX9_release_27 (by decide) ?_
      exact ih x5 rx5 _ _ _ _ hw hs (lv_sub hl [1, 2, 0] rfl)
set_option maxHeartbeats 4000000 in
set_option maxRecDepth 100000 in
theorem c_X9_release (l : Launch) {D : va_G} {cA : Nat → ClassId} {B : Nat} {Z : State → Prop} (hZ : hq_Zo Z (hq_in B YC.length)) (v0 : Nat) (hv0 : YC[v0]? = some (9, 0)) (v1 : Int) (rv1 : rg v1) (M : hq_M) (k : hq_M → Prop) (hw : w_X9_release v0 v1 M k) : hq_T vwCl SLx l yX9_release wsX9_release ({ frames := 0, cells := 0, slots := 0, locals := 0 } : Room) D cA YC B Z [.ref (B + v0), .int (w3 v1)] M (hq_qv k) := by
  refine hq_meth (cc := cX9_release) (maxL := 3) (ret := none) (own := RX9) hZ rfl (by decide +kernel) rfl (Nat.le_of_ble_eq_true rfl) ?_
  intro p e s m below meth c ls C hs hl
  have hx := C.1.1
  have hb := C.1.2.1
  unfold w_X9_release at hw
  have hl : lv_has ls 3 [(0, .ref (B + v0)), (1, .int (w3 v1))] := hl
  refine hq_iconst C dX9_release_0 ?_
  refine lv_istore_n (lv' := [(2, .int (w3 0)), (0, .ref (B + v0)), (1, .int (w3 v1))]) hx hb dX9_release_1 rfl hl (by decide) rfl (fun ls hl => ?_)
  obtain ⟨n9, hw⟩ := hw
  refine cl_X9_release_2 v0 hv0 v1 rv1 C  n9 0 (by decide : rg 0) _ _ _ _ hw hs (lv_sub hl [1, 2, 0] rfl)
theorem iX9_tooMany_9 : ∀ w ∈ u_ws RX9 TX9 7, w ∈ wsX9_tooMany := fun w h => List.mem_cons_of_mem _ (List.mem_append_right _ h)
set_option maxRecDepth 20000 in
theorem fX9_tooMany_15 : hq_fl vwCl wsX9_tooMany RX9 15 9 1 true (.array .int) := ⟨RX9, TX9, 7, tyX9, rfl, by decide, iX9_tooMany_9, by decide +kernel, rfl, tyX9_ok 1 (by decide), tyX9_ok, nmX9⟩
set_option maxRecDepth 20000 in
theorem fX9_tooMany_22 : hq_fl vwCl wsX9_tooMany RX9 22 9 3 false .int := ⟨RX9, TX9, 7, tyX9, rfl, by decide, iX9_tooMany_9, by decide +kernel, rfl, tyX9_ok 3 (by decide), tyX9_ok, nmX9⟩
set_option maxRecDepth 20000 in
theorem fX9_tooMany_26 : hq_fl vwCl wsX9_tooMany RX9 26 9 4 false .int := ⟨RX9, TX9, 7, tyX9, rfl, by decide, iX9_tooMany_9, by decide +kernel, rfl, tyX9_ok 4 (by decide), tyX9_ok, nmX9⟩
set_option maxRecDepth 20000 in
theorem fX9_tooMany_29 : hq_fl vwCl wsX9_tooMany RX9 29 9 5 false .int := ⟨RX9, TX9, 7, tyX9, rfl, by decide, iX9_tooMany_9, by decide +kernel, rfl, tyX9_ok 5 (by decide), tyX9_ok, nmX9⟩
set_option maxHeartbeats 4000000 in
set_option maxRecDepth 100000 in
theorem cl_X9_tooMany_13 {p : Program} {l : Launch} {e : Env} {s : State} {m : MethodId} {args : Array Value} {below : List Frame} {meth : Method} {c : Code} {D : va_G} {cA : Nat → ClassId} {B : Nat} {Z : State → Prop} (v0 : Nat) (hv0 : YC[v0]? = some (9, 0)) (v1 : Int) (rv1 : rg v1)  {k : Int → Prop} {M : hq_M} (C : hq_C vwCl p m c cX9_tooMany 5 s args wsX9_tooMany RX9 meth (some .int) D cA (hq_in B YC.length) Z)
     : ∀ (n : Nat) (v2 : Int) (rv2 : rg v2) (v3 : Int) (rv3 : rg v3) (v4 : Int) (rv4 : rg v4) (H : Heap) (locs : List Loc) (ls : Array Slot), l_X9_tooMany_13 v0 v1 k M n v2 v3 v4 → hq_S vwCl SLx D cA YC B s.heap M H locs → lv_has ls 5 [(0, .ref (B + v0)), (1, .int (w3 v1)), (2, .int (w3 v2)), (3, .int (w3 v3)), (4, .int (w3 v4))] → W p l e ({ frames := 0, cells := 0, slots := 0, locals := 0 } : Room) s m args below meth c H locs 0 0 (MQ below (hq_Q vwCl SLx D cA YC B (hq_qi (fun z M' => M' = M ∧ k z))) args s 0 0 (hq_in B YC.length)) (F0 m 13 ls []) := by
  have hx := C.1.1
  have hb := C.1.2.1
  intro n
  induction n with
  | zero => intro v2 rv2 v3 rv3 v4 rv4 H locs ls hw hs hl; exact hw.elim
  | succ n ih =>
    intro v2 rv2 v3 rv3 v4 rv4 H locs ls hw hs hl
    unfold l_X9_tooMany_13 at hw
    refine lv_iload hx hb dX9_tooMany_13 (lv_at hl 4 rfl) ?_
    refine lv_aload_n hx hb dX9_tooMany_15 rfl (lv_at hl 0 rfl) ?_
    refine hq_getI (o := v0) C hs fX9_tooMany_22 hv0 (by decide) rfl dX9_tooMany_16 (fun g1 => ?_)
    refine hq_icmp_ge (tgt := 49) C rv4 g1 dX9_tooMany_19 (by decide) (fun h => ?_) (fun h => ?_)
    · have hw := hw.1 h
      refine lv_iload_n hx hb dX9_tooMany_49 rfl (lv_at hl 3 rfl) ?_
      exact hq_iret C hs rv3 ⟨rfl, hw⟩ dX9_tooMany_50
    · have hw := hw.2 h
      refine lv_iload_n hx hb dX9_tooMany_22 rfl (lv_at hl 2 rfl) ?_
      refine lv_iload_n hx hb dX9_tooMany_23 rfl (lv_at hl 1 rfl) ?_
      refine hq_icmp_le (tgt := 49) C rv2 rv1 dX9_tooMany_24 (by decide) (fun h => ?_) (fun h => ?_)
      · have hw := hw.1 h
        refine lv_iload_n hx hb dX9_tooMany_49 rfl (lv_at hl 3 rfl) ?_
        exact hq_iret C hs rv3 ⟨rfl, hw⟩ dX9_tooMany_50
      · have hw := hw.2 h
        refine lv_iload_n hx hb dX9_tooMany_27 rfl (lv_at hl 2 rfl) ?_
        refine lv_aload_n hx hb dX9_tooMany_28 rfl (lv_at hl 0 rfl) ?_
        refine hq_getR (o := v0) C hs fX9_tooMany_15 hv0 (by decide) rfl dX9_tooMany_29 ?_
        refine lv_iload hx hb dX9_tooMany_32 (lv_at hl 4 rfl) ?_
        refine hq_bipush C dX9_tooMany_34 (by decide) ?_
        refine hq_iand (n := 64) 6 C (by decide) rv4 dX9_tooMany_36 ?_
        obtain ⟨g2, hw⟩ := hw
        refine hq_iald (o := (v0 + 2)) C hs (tc_9_1 hv0) (hq_rmask (by decide) (by decide)) g2 dX9_tooMany_37 (fun g3 => ?_)
        obtain ⟨g4, hw⟩ := hw
        refine hq_isub C dX9_tooMany_38 ?_
        refine hq_nm (fun x5 ex5 => ?_)
        have hw := hw x5 ex5
        have rx5 : rg x5 := by rw [ex5]; exact g4
        refine lv_istore_n (lv' := [(2, .int (w3 x5)), (0, .ref (B + v0)), (1, .int (w3 v1)), (3, .int (w3 v3)), (4, .int (w3 v4))]) hx hb dX9_tooMany_39 rfl hl (by decide) rfl (fun ls hl => ?_)
        obtain ⟨g7, hw⟩ := hw
        refine hq_iinc (k := 3) C dX9_tooMany_40 hl rfl (by decide) (fun x6 ex6 ls hl => ?_)
        have hw := hw x6 ex6
        have rx6 : rg x6 := by rw [ex6]; exact g7
        have hl : lv_has ls 5 [(3, .int (w3 x6)), (2, .int (w3 x5)), (0, .ref (B + v0)), (1, .int (w3 v1)), (4, .int (w3 v4))] := hl
        obtain ⟨g9, hw⟩ := hw
        refine hq_iinc (k := 4) C dX9_tooMany_43 hl rfl (by decide) (fun x8 ex8 ls hl => ?_)
        have hw := hw x8 ex8
        have rx8 : rg x8 := by rw [ex8]; exact g9
        have hl : lv_has ls 5 [(4, .int (w3 x8)), (3, .int (w3 x6)), (2, .int (w3 x5)), (0, .ref (B + v0)), (1, .int (w3 v1))] := hl
        refine hq_goto (tgt := 13) C dX9_tooMany_46 (by decide) ?_
        exact ih x5 rx5 x6 rx6 x8 rx8 _ _ _ hw hs (lv_sub hl [3, 4, 2, 1, 0] rfl)
set_option maxHeartbeats 4000000 in
set_option maxRecDepth 100000 in
theorem c_X9_tooMany (l : Launch) {D : va_G} {cA : Nat → ClassId} {B : Nat} {Z : State → Prop} (hZ : hq_Zo Z (hq_in B YC.length)) (v0 : Nat) (hv0 : YC[v0]? = some (9, 0)) (v1 : Int) (rv1 : rg v1) (M : hq_M) (k : Int → Prop) (hw : w_X9_tooMany v0 v1 M k) : hq_T vwCl SLx l yX9_tooMany wsX9_tooMany ({ frames := 0, cells := 0, slots := 0, locals := 0 } : Room) D cA YC B Z [.ref (B + v0), .int (w3 v1)] M (hq_qi (fun z M' => M' = M ∧ k z)) := by
  refine hq_meth (cc := cX9_tooMany) (maxL := 5) (ret := (some .int)) (own := RX9) hZ rfl (by decide +kernel) rfl (Nat.le_of_ble_eq_true rfl) ?_
  intro p e s m below meth c ls C hs hl
  have hx := C.1.1
  have hb := C.1.2.1
  unfold w_X9_tooMany at hw
  have hl : lv_has ls 5 [(0, .ref (B + v0)), (1, .int (w3 v1))] := hl
  refine lv_aload_n hx hb dX9_tooMany_0 rfl (lv_at hl 0 rfl) ?_
  refine hq_getI (o := v0) C hs fX9_tooMany_29 hv0 (by decide) rfl dX9_tooMany_1 (fun g1 => ?_)
  refine hq_nm (fun x2 ex2 => ?_)
  have hw := hw x2 ex2
  have rx2 : rg x2 := by rw [ex2]; exact g1
  refine lv_istore_n (lv' := [(2, .int (w3 x2)), (0, .ref (B + v0)), (1, .int (w3 v1))]) hx hb dX9_tooMany_4 rfl hl (by decide) rfl (fun ls hl => ?_)
  refine hq_iconst C dX9_tooMany_5 ?_
  refine lv_istore_n (lv' := [(3, .int (w3 0)), (2, .int (w3 x2)), (0, .ref (B + v0)), (1, .int (w3 v1))]) hx hb dX9_tooMany_6 rfl hl (by decide) rfl (fun ls hl => ?_)
  refine lv_aload_n hx hb dX9_tooMany_7 rfl (lv_at hl 2 rfl) ?_
  refine hq_getI (o := v0) C hs fX9_tooMany_26 hv0 (by decide) rfl dX9_tooMany_8 (fun g3 => ?_)
  refine hq_nm (fun x4 ex4 => ?_)
  have hw := hw x4 ex4
  have rx4 : rg x4 := by rw [ex4]; exact g3
  refine lv_istore (lv' := [(4, .int (w3 x4)), (3, .int (w3 0)), (2, .int (w3 x2)), (0, .ref (B + v0)), (1, .int (w3 v1))]) hx hb dX9_tooMany_11 hl (by decide) rfl (fun ls hl => ?_)
  obtain ⟨n9, hw⟩ := hw
  refine cl_X9_tooMany_13 v0 hv0 v1 rv1 C  n9 x2 rx2 0 (by decide : rg 0) x4 rx4 _ _ _ hw hs (lv_sub hl [3, 4, 2, 1, 0] rfl)
theorem iX9_evictable_9 : ∀ w ∈ u_ws RX9 TX9 7, w ∈ wsX9_evictable := fun w h => List.mem_cons_of_mem _ (List.mem_append_right _ h)
set_option maxRecDepth 20000 in
theorem fX9_evictable_18 : hq_fl vwCl wsX9_evictable RX9 18 9 2 true (.array .long) := ⟨RX9, TX9, 7, tyX9, rfl, by decide, iX9_evictable_9, by decide +kernel, rfl, tyX9_ok 2 (by decide), tyX9_ok, nmX9⟩
set_option maxRecDepth 20000 in
theorem fX9_evictable_22 : hq_fl vwCl wsX9_evictable RX9 22 9 3 false .int := ⟨RX9, TX9, 7, tyX9, rfl, by decide, iX9_evictable_9, by decide +kernel, rfl, tyX9_ok 3 (by decide), tyX9_ok, nmX9⟩
set_option maxRecDepth 20000 in
theorem fX9_evictable_26 : hq_fl vwCl wsX9_evictable RX9 26 9 4 false .int := ⟨RX9, TX9, 7, tyX9, rfl, by decide, iX9_evictable_9, by decide +kernel, rfl, tyX9_ok 4 (by decide), tyX9_ok, nmX9⟩
set_option maxRecDepth 20000 in
theorem mX9_evictable_37 : Cond.methodLink RX9 37 Lib.Math.min.name ∈ wsX9_evictable ∧ Cond.static Lib.Math.min.name ∈ wsX9_evictable ∧ Cond.initialized "java/lang/Math" ∈ wsX9_evictable ∧ Cond.code Lib.Math.min.name Lib.Math.min.code 2 (some .int) ∈ wsX9_evictable := ⟨by decide +kernel, by decide +kernel, by decide +kernel, by decide +kernel⟩
set_option maxHeartbeats 4000000 in
set_option maxRecDepth 100000 in
theorem cl_X9_evictable_17 {p : Program} {l : Launch} {e : Env} {s : State} {m : MethodId} {args : Array Value} {below : List Frame} {meth : Method} {c : Code} {D : va_G} {cA : Nat → ClassId} {B : Nat} {Z : State → Prop} (v0 : Nat) (hv0 : YC[v0]? = some (9, 0)) (v2 : Int) (rv2 : rg v2)  {k : Int → Prop} {M : hq_M} (C : hq_C vwCl p m c cX9_evictable 5 s args wsX9_evictable RX9 meth (some .int) D cA (hq_in B YC.length) Z)
     : ∀ (n : Nat) (v3 : Int) (rv3 : rg v3) (v4 : Int) (rv4 : rg v4) (H : Heap) (locs : List Loc) (ls : Array Slot), l_X9_evictable_17 v0 v2 k M n v3 v4 → hq_S vwCl SLx D cA YC B s.heap M H locs → lv_has ls 5 [(0, .ref (B + v0)), (2, .int (w3 v2)), (3, .int (w3 v3)), (4, .int (w3 v4))] → W p l e ({ frames := 1, cells := 0, slots := 0, locals := 21 } : Room) s m args below meth c H locs 0 0 (MQ below (hq_Q vwCl SLx D cA YC B (hq_qi (fun z M' => M' = M ∧ k z))) args s 0 0 (hq_in B YC.length)) (F0 m 17 ls []) := by
  have hx := C.1.1
  have hb := C.1.2.1
  intro n
  induction n with
  | zero => intro v3 rv3 v4 rv4 H locs ls hw hs hl; exact hw.elim
  | succ n ih =>
    intro v3 rv3 v4 rv4 H locs ls hw hs hl
    unfold l_X9_evictable_17 at hw
    refine lv_iload hx hb dX9_evictable_17 (lv_at hl 3 rfl) ?_
    refine lv_iload_n hx hb dX9_evictable_19 rfl (lv_at hl 1 rfl) ?_
    refine hq_icmp_ge (tgt := 47) C rv4 rv2 dX9_evictable_20 (by decide) (fun h => ?_) (fun h => ?_)
    · have hw := hw.1 h
      refine lv_iload_n hx hb dX9_evictable_47 rfl (lv_at hl 2 rfl) ?_
      exact hq_iret C hs rv3 ⟨rfl, hw⟩ dX9_evictable_48
    · have hw := hw.2 h
      refine lv_aload_n hx hb dX9_evictable_23 rfl (lv_at hl 0 rfl) ?_
      refine hq_getR (o := v0) C hs fX9_evictable_18 hv0 (by decide) rfl dX9_evictable_24 ?_
      refine lv_iload hx hb dX9_evictable_27 (lv_at hl 3 rfl) ?_
      refine hq_bipush C dX9_evictable_29 (by decide) ?_
      refine hq_iand (n := 64) 6 C (by decide) rv4 dX9_evictable_31 ?_
      obtain ⟨g1, hw⟩ := hw
      refine hq_lald (o := (v0 + 3)) C hs (tc_9_2 hv0) (hq_rmask (by decide) (by decide)) g1 dX9_evictable_32 (fun g2 => ?_)
      refine hq_lconst (z := 0) C dX9_evictable_33 rfl ?_
      refine hq_lcmp_ne (tgt := 47) C g2 (by decide : rl 0) dX9_evictable_34 dX9_evictable_35 (by decide) (fun h => ?_) (fun h => ?_)
      · have hw := hw.1 h
        refine lv_iload_n hx hb dX9_evictable_47 rfl (lv_at hl 2 rfl) ?_
        exact hq_iret C hs rv3 ⟨rfl, hw⟩ dX9_evictable_48
      · have hw := hw.2 h
        obtain ⟨g4, hw⟩ := hw
        refine hq_iinc (k := 2) C dX9_evictable_38 hl rfl (by decide) (fun x3 ex3 ls hl => ?_)
        have hw := hw x3 ex3
        have rx3 : rg x3 := by rw [ex3]; exact g4
        have hl : lv_has ls 5 [(3, .int (w3 x3)), (0, .ref (B + v0)), (2, .int (w3 v2)), (4, .int (w3 v4))] := hl
        obtain ⟨g6, hw⟩ := hw
        refine hq_iinc (k := 3) C dX9_evictable_41 hl rfl (by decide) (fun x5 ex5 ls hl => ?_)
        have hw := hw x5 ex5
        have rx5 : rg x5 := by rw [ex5]; exact g6
        have hl : lv_has ls 5 [(4, .int (w3 x5)), (3, .int (w3 x3)), (0, .ref (B + v0)), (2, .int (w3 v2))] := hl
        refine hq_goto (tgt := 17) C dX9_evictable_44 (by decide) ?_
        exact ih x3 rx3 x5 rx5 _ _ _ hw hs (lv_sub hl [2, 3, 1, 0] rfl)
set_option maxHeartbeats 4000000 in
set_option maxRecDepth 100000 in
theorem c_X9_evictable (l : Launch) {D : va_G} {cA : Nat → ClassId} {B : Nat} {Z : State → Prop} (hZ : hq_Zo Z (hq_in B YC.length)) (v0 : Nat) (hv0 : YC[v0]? = some (9, 0)) (v1 : Int) (rv1 : rg v1) (M : hq_M) (k : Int → Prop) (hw : w_X9_evictable v0 v1 M k) : hq_T vwCl SLx l yX9_evictable wsX9_evictable ({ frames := 1, cells := 0, slots := 0, locals := 21 } : Room) D cA YC B Z [.ref (B + v0), .int (w3 v1)] M (hq_qi (fun z M' => M' = M ∧ k z)) := by
  refine hq_meth (cc := cX9_evictable) (maxL := 5) (ret := (some .int)) (own := RX9) hZ rfl (by decide +kernel) rfl (Nat.le_of_ble_eq_true rfl) ?_
  intro p e s m below meth c ls C hs hl
  have hx := C.1.1
  have hb := C.1.2.1
  unfold w_X9_evictable at hw
  have hl : lv_has ls 5 [(0, .ref (B + v0)), (1, .int (w3 v1))] := hl
  refine lv_aload_n hx hb dX9_evictable_0 rfl (lv_at hl 0 rfl) ?_
  refine hq_getI (o := v0) C hs fX9_evictable_22 hv0 (by decide) rfl dX9_evictable_1 (fun g1 => ?_)
  refine lv_iload_n hx hb dX9_evictable_4 rfl (lv_at hl 1 rfl) ?_
  refine hq_mmin C mX9_evictable_37 hl.1 ⟨Nat.le_of_ble_eq_true rfl, Nat.le_of_ble_eq_true rfl, Nat.zero_le _, Nat.zero_le _⟩ g1 rv1 dX9_evictable_5 ?_
  refine hq_nm (fun x2 ex2 => ?_)
  have hw := hw x2 ex2
  have rx2 : rg x2 := by rw [ex2]; exact (hq_rmin g1 rv1)
  refine lv_istore_n (lv' := [(2, .int (w3 x2)), (0, .ref (B + v0)), (1, .int (w3 v1))]) hx hb dX9_evictable_8 rfl hl (by decide) rfl (fun ls hl => ?_)
  refine hq_iconst C dX9_evictable_9 ?_
  refine lv_istore_n (lv' := [(3, .int (w3 0)), (2, .int (w3 x2)), (0, .ref (B + v0)), (1, .int (w3 v1))]) hx hb dX9_evictable_10 rfl hl (by decide) rfl (fun ls hl => ?_)
  refine lv_aload_n hx hb dX9_evictable_11 rfl (lv_at hl 2 rfl) ?_
  refine hq_getI (o := v0) C hs fX9_evictable_26 hv0 (by decide) rfl dX9_evictable_12 (fun g3 => ?_)
  refine hq_nm (fun x4 ex4 => ?_)
  have hw := hw x4 ex4
  have rx4 : rg x4 := by rw [ex4]; exact g3
  refine lv_istore (lv' := [(4, .int (w3 x4)), (3, .int (w3 0)), (2, .int (w3 x2)), (0, .ref (B + v0)), (1, .int (w3 v1))]) hx hb dX9_evictable_15 hl (by decide) rfl (fun ls hl => ?_)
  obtain ⟨n9, hw⟩ := hw
  refine cl_X9_evictable_17 v0 hv0 x2 rx2 C  n9 0 (by decide : rg 0) x4 rx4 _ _ _ hw hs (lv_sub hl [3, 2, 1, 0] rfl)
set_option maxHeartbeats 4000000 in
set_option maxRecDepth 100000 in
theorem c_X9_canShrink (l : Launch) {D : va_G} {cA : Nat → ClassId} {B : Nat} {Z : State → Prop} (hZ : hq_Zo Z (hq_in B YC.length)) (v0 : Nat) (hv0 : YC[v0]? = some (9, 0)) (v1 : Int) (rv1 : rg v1) (v2 : Int) (rv2 : rg v2) (M : hq_M) (k : Int → Prop) (hw : w_X9_canShrink v0 v1 v2 M k) : hq_T vwCl SLx l yX9_canShrink wsX9_canShrink ({ frames := 2, cells := 0, slots := 0, locals := 45 } : Room) D cA YC B Z [.ref (B + v0), .int (w3 v1), .int (w3 v2)] M (hq_qz (fun z M' => M' = M ∧ k z)) := by
  refine hq_meth (cc := cX9_canShrink) (maxL := 3) (ret := (some .boolean)) (own := RX9) hZ rfl (by decide +kernel) rfl (Nat.le_of_ble_eq_true rfl) ?_
  intro p e s m below meth c ls C hs hl
  have hx := C.1.1
  have hb := C.1.2.1
  unfold w_X9_canShrink at hw
  have hl : lv_has ls 3 [(0, .ref (B + v0)), (1, .int (w3 v1)), (2, .int (w3 v2))] := hl
  refine lv_aload_n hx hb dX9_canShrink_0 rfl (lv_at hl 0 rfl) ?_
  refine lv_iload_n hx hb dX9_canShrink_1 rfl (lv_at hl 1 rfl) ?_
  refine hq_cV (n := 1) (ci := 9) (o := v0) (qc := (TX9, 7)) C hs (c_X9_tooMany l C.2.2.2.2.1 v0 hv0 v1 rv1 _ _ hw) gX9_canShrink_X9_tooMany rfl ⟨rfl, rfl⟩ (by decide +kernel) ⟨Nat.le_of_ble_eq_true rfl, Nat.le_of_ble_eq_true rfl⟩ hv0 (by decide) rfl rfl hl.1 rfl (Nat.le_of_ble_eq_true rfl) dX9_canShrink_2 (hq_ki (fun x1 M9 H locs rx1 hw hs => ?_))
  obtain ⟨e9, hw⟩ := hw; rw [e9] at hs
  refine lv_aload_n hx hb dX9_canShrink_5 rfl (lv_at hl 0 rfl) ?_
  refine lv_iload_n hx hb dX9_canShrink_6 rfl (lv_at hl 2 rfl) ?_
  refine hq_cV (n := 1) (ci := 9) (o := v0) (qc := (TX9, 7)) C hs (c_X9_evictable l C.2.2.2.2.1 v0 hv0 v2 rv2 _ _ hw) gX9_canShrink_X9_evictable rfl ⟨rfl, rfl⟩ (by decide +kernel) ⟨Nat.le_of_ble_eq_true rfl, Nat.le_of_ble_eq_true rfl⟩ hv0 (by decide) rfl rfl hl.1 rfl (Nat.le_of_ble_eq_true rfl) dX9_canShrink_7 (hq_ki (fun x2 M9 H locs rx2 hw hs => ?_))
  obtain ⟨e9, hw⟩ := hw; rw [e9] at hs
  refine hq_icmp_gt (tgt := 17) C rx1 rx2 dX9_canShrink_10 (by decide) (fun h => ?_) (fun h => ?_)
  · have hw := hw.1 h
    refine hq_iconst C dX9_canShrink_17 ?_
    exact hq_zret C hs (by decide) ⟨rfl, hw⟩ dX9_canShrink_18
  · have hw := hw.2 h
    refine hq_iconst C dX9_canShrink_13 ?_
    refine hq_goto (tgt := 18) C dX9_canShrink_14 (by decide) ?_
    exact hq_zret C hs (by decide) ⟨rfl, hw⟩ dX9_canShrink_18
theorem iX9_canInsert_9 : ∀ w ∈ u_ws RX9 TX9 7, w ∈ wsX9_canInsert := fun w h => List.mem_cons_of_mem _ (List.mem_append_right _ h)
set_option maxRecDepth 20000 in
theorem fX9_canInsert_32 : hq_fl vwCl wsX9_canInsert RX9 32 9 6 false .int := ⟨RX9, TX9, 7, tyX9, rfl, by decide, iX9_canInsert_9, by decide +kernel, rfl, tyX9_ok 6 (by decide), tyX9_ok, nmX9⟩
set_option maxHeartbeats 4000000 in
set_option maxRecDepth 100000 in
theorem c_X9_canInsert (l : Launch) {D : va_G} {cA : Nat → ClassId} {B : Nat} {Z : State → Prop} (hZ : hq_Zo Z (hq_in B YC.length)) (v0 : Nat) (hv0 : YC[v0]? = some (9, 0)) (v1 : Int) (rv1 : rg v1) (v2 : Int) (rv2 : rg v2) (M : hq_M) (k : Int → Prop) (hw : w_X9_canInsert v0 v1 v2 M k) : hq_T vwCl SLx l yX9_canInsert wsX9_canInsert ({ frames := 2, cells := 0, slots := 0, locals := 45 } : Room) D cA YC B Z [.ref (B + v0), .int (w3 v1), .int (w3 v2)] M (hq_qz (fun z M' => M' = M ∧ k z)) := by
  refine hq_meth (cc := cX9_canInsert) (maxL := 3) (ret := (some .boolean)) (own := RX9) hZ rfl (by decide +kernel) rfl (Nat.le_of_ble_eq_true rfl) ?_
  intro p e s m below meth c ls C hs hl
  have hx := C.1.1
  have hb := C.1.2.1
  unfold w_X9_canInsert at hw
  have hl : lv_has ls 3 [(0, .ref (B + v0)), (1, .int (w3 v1)), (2, .int (w3 v2))] := hl
  refine lv_iload_n hx hb dX9_canInsert_0 rfl (lv_at hl 1 rfl) ?_
  refine lv_aload_n hx hb dX9_canInsert_1 rfl (lv_at hl 0 rfl) ?_
  refine hq_getI (o := v0) C hs fX9_canInsert_32 hv0 (by decide) rfl dX9_canInsert_2 (fun g1 => ?_)
  refine hq_icmp_gt (tgt := 30) C rv1 g1 dX9_canInsert_5 (by decide) (fun h => ?_) (fun h => ?_)
  · have hw := hw.1 h
    refine hq_iconst C dX9_canInsert_30 ?_
    exact hq_zret C hs (by decide) ⟨rfl, hw⟩ dX9_canInsert_31
  · have hw := hw.2 h
    refine lv_aload_n hx hb dX9_canInsert_8 rfl (lv_at hl 0 rfl) ?_
    refine lv_aload_n hx hb dX9_canInsert_9 rfl (lv_at hl 0 rfl) ?_
    refine hq_getI (o := v0) C hs fX9_canInsert_32 hv0 (by decide) rfl dX9_canInsert_10 (fun g2 => ?_)
    refine lv_iload_n hx hb dX9_canInsert_13 rfl (lv_at hl 1 rfl) ?_
    obtain ⟨g3, hw⟩ := hw
    refine hq_isub C dX9_canInsert_14 ?_
    refine hq_cV (n := 1) (ci := 9) (o := v0) (qc := (TX9, 7)) C hs (c_X9_tooMany l C.2.2.2.2.1 v0 hv0 ((M v0 6) - v1) g3 _ _ hw) gX9_canInsert_X9_tooMany rfl ⟨rfl, rfl⟩ (by decide +kernel) ⟨Nat.le_of_ble_eq_true rfl, Nat.le_of_ble_eq_true rfl⟩ hv0 (by decide) rfl rfl hl.1 rfl (Nat.le_of_ble_eq_true rfl) dX9_canInsert_15 (hq_ki (fun x4 M9 H locs rx4 hw hs => ?_))
    obtain ⟨e9, hw⟩ := hw; rw [e9] at hs
    refine lv_aload_n hx hb dX9_canInsert_18 rfl (lv_at hl 0 rfl) ?_
    refine lv_iload_n hx hb dX9_canInsert_19 rfl (lv_at hl 2 rfl) ?_
    refine hq_cV (n := 1) (ci := 9) (o := v0) (qc := (TX9, 7)) C hs (c_X9_evictable l C.2.2.2.2.1 v0 hv0 v2 rv2 _ _ hw) gX9_canInsert_X9_evictable rfl ⟨rfl, rfl⟩ (by decide +kernel) ⟨Nat.le_of_ble_eq_true rfl, Nat.le_of_ble_eq_true rfl⟩ hv0 (by decide) rfl rfl hl.1 rfl (Nat.le_of_ble_eq_true rfl) dX9_canInsert_20 (hq_ki (fun x5 M9 H locs rx5 hw hs => ?_))
    obtain ⟨e9, hw⟩ := hw; rw [e9] at hs
    refine hq_icmp_gt (tgt := 30) C rx4 rx5 dX9_canInsert_23 (by decide) (fun h => ?_) (fun h => ?_)
    · have hw := hw.1 h
      refine hq_iconst C dX9_canInsert_30 ?_
      exact hq_zret C hs (by decide) ⟨rfl, hw⟩ dX9_canInsert_31
    · have hw := hw.2 h
      refine hq_iconst C dX9_canInsert_26 ?_
      refine hq_goto (tgt := 31) C dX9_canInsert_27 (by decide) ?_
      exact hq_zret C hs (by decide) ⟨rfl, hw⟩ dX9_canInsert_31
theorem iX9_highestLike_9 : ∀ w ∈ u_ws RX9 TX9 7, w ∈ wsX9_highestLike := fun w h => List.mem_cons_of_mem _ (List.mem_append_right _ h)
set_option maxRecDepth 20000 in
theorem fX9_highestLike_22 : hq_fl vwCl wsX9_highestLike RX9 22 9 3 false .int := ⟨RX9, TX9, 7, tyX9, rfl, by decide, iX9_highestLike_9, by decide +kernel, rfl, tyX9_ok 3 (by decide), tyX9_ok, nmX9⟩
set_option maxRecDepth 20000 in
theorem fX9_highestLike_26 : hq_fl vwCl wsX9_highestLike RX9 26 9 4 false .int := ⟨RX9, TX9, 7, tyX9, rfl, by decide, iX9_highestLike_9, by decide +kernel, rfl, tyX9_ok 4 (by decide), tyX9_ok, nmX9⟩
set_option maxRecDepth 20000 in
theorem mX9_highestLike_37 : Cond.methodLink RX9 37 Lib.Math.min.name ∈ wsX9_highestLike ∧ Cond.static Lib.Math.min.name ∈ wsX9_highestLike ∧ Cond.initialized "java/lang/Math" ∈ wsX9_highestLike ∧ Cond.code Lib.Math.min.name Lib.Math.min.code 2 (some .int) ∈ wsX9_highestLike := ⟨by decide +kernel, by decide +kernel, by decide +kernel, by decide +kernel⟩
set_option maxHeartbeats 4000000 in
set_option maxRecDepth 100000 in
theorem cl_X9_highestLike_11 {p : Program} {l : Launch} {e : Env} {s : State} {m : MethodId} {args : Array Value} {below : List Frame} {meth : Method} {c : Code} {D : va_G} {cA : Nat → ClassId} {B : Nat} {Z : State → Prop} (v0 : Nat) (hv0 : YC[v0]? = some (9, 0)) (v1 : Int) (rv1 : rg v1)  {k : Int → Prop} {M : hq_M} (C : hq_C vwCl p m c cX9_highestLike 4 s args wsX9_highestLike RX9 meth (some .int) D cA (hq_in B YC.length) Z)
     : ∀ (n : Nat) (v3 : Int) (rv3 : rg v3) (H : Heap) (locs : List Loc) (ls : Array Slot), l_X9_highestLike_11 v0 v1 k M n v3 → hq_S vwCl SLx D cA YC B s.heap M H locs → lv_has ls 4 [(0, .ref (B + v0)), (1, .int (w3 v1)), (3, .int (w3 v3))] → W p l e ({ frames := 1, cells := 0, slots := 0, locals := 21 } : Room) s m args below meth c H locs 0 0 (MQ below (hq_Q vwCl SLx D cA YC B (hq_qi (fun z M' => M' = M ∧ k z))) args s 0 0 (hq_in B YC.length)) (F0 m 11 ls []) := by
  have hx := C.1.1
  have hb := C.1.2.1
  intro n
  induction n with
  | zero => intro v3 rv3 H locs ls hw hs hl; exact hw.elim
  | succ n ih =>
    intro v3 rv3 H locs ls hw hs hl
    unfold l_X9_highestLike_11 at hw
    refine lv_iload_n hx hb dX9_highestLike_11 rfl (lv_at hl 2 rfl) ?_
    refine lv_aload_n hx hb dX9_highestLike_12 rfl (lv_at hl 0 rfl) ?_
    refine hq_getI (o := v0) C hs fX9_highestLike_26 hv0 (by decide) rfl dX9_highestLike_13 (fun g1 => ?_)
    refine hq_icmp_lt (tgt := 36) C rv3 g1 dX9_highestLike_16 (by decide) (fun h => ?_) (fun h => ?_)
    · have hw := hw.1 h
      refine hq_bipush C dX9_highestLike_36 (by decide) ?_
      exact hq_iret C hs (by decide : rg (-9)) ⟨rfl, hw⟩ dX9_highestLike_38
    · have hw := hw.2 h
      refine lv_aload_n hx hb dX9_highestLike_19 rfl (lv_at hl 0 rfl) ?_
      refine lv_iload_n hx hb dX9_highestLike_20 rfl (lv_at hl 2 rfl) ?_
      refine hq_cV (n := 1) (ci := 9) (o := v0) (qc := (TX9, 7)) C hs (c_X9_fieldAt l C.2.2.2.2.1 v0 hv0 v3 rv3 _ _ hw) gX9_highestLike_X9_fieldAt rfl ⟨rfl, rfl⟩ (by decide +kernel) ⟨Nat.le_of_ble_eq_true rfl, Nat.le_of_ble_eq_true rfl⟩ hv0 (by decide) rfl rfl hl.1 rfl (Nat.le_of_ble_eq_true rfl) dX9_highestLike_21 (hq_ki (fun x2 M9 H locs rx2 hw hs => ?_))
      obtain ⟨e9, hw⟩ := hw; rw [e9] at hs
      refine lv_iload_n hx hb dX9_highestLike_24 rfl (lv_at hl 1 rfl) ?_
      refine hq_icmp_ne (tgt := 30) C rx2 rv1 dX9_highestLike_25 (by decide) (fun h => ?_) (fun h => ?_)
      · have hw := hw.1 h
        obtain ⟨g4, hw⟩ := hw
        refine hq_iinc (k := 2) C dX9_highestLike_30 hl rfl (by decide) (fun x3 ex3 ls hl => ?_)
        have hw := hw x3 ex3
        have rx3 : rg x3 := by rw [ex3]; exact g4
        have hl : lv_has ls 4 [(3, .int (w3 x3)), (0, .ref (B + v0)), (1, .int (w3 v1))] := hl
        refine hq_goto (tgt := 11) C dX9_highestLike_33 (by decide) ?_
        exact ih x3 rx3 _ _ _ hw hs (lv_sub hl [1, 2, 0] rfl)
      · have hw := hw.2 h
        refine lv_iload_n hx hb dX9_highestLike_28 rfl (lv_at hl 2 rfl) ?_
        exact hq_iret C hs rv3 ⟨rfl, hw⟩ dX9_highestLike_29
set_option maxHeartbeats 4000000 in
set_option maxRecDepth 100000 in
theorem c_X9_highestLike (l : Launch) {D : va_G} {cA : Nat → ClassId} {B : Nat} {Z : State → Prop} (hZ : hq_Zo Z (hq_in B YC.length)) (v0 : Nat) (hv0 : YC[v0]? = some (9, 0)) (v1 : Int) (rv1 : rg v1) (v2 : Int) (rv2 : rg v2) (M : hq_M) (k : Int → Prop) (hw : w_X9_highestLike v0 v1 v2 M k) : hq_T vwCl SLx l yX9_highestLike wsX9_highestLike ({ frames := 1, cells := 0, slots := 0, locals := 21 } : Room) D cA YC B Z [.ref (B + v0), .int (w3 v1), .int (w3 v2)] M (hq_qi (fun z M' => M' = M ∧ k z)) := by
  refine hq_meth (cc := cX9_highestLike) (maxL := 4) (ret := (some .int)) (own := RX9) hZ rfl (by decide +kernel) rfl (Nat.le_of_ble_eq_true rfl) ?_
  intro p e s m below meth c ls C hs hl
  have hx := C.1.1
  have hb := C.1.2.1
  unfold w_X9_highestLike at hw
  have hl : lv_has ls 4 [(0, .ref (B + v0)), (1, .int (w3 v1)), (2, .int (w3 v2))] := hl
  refine lv_iload_n hx hb dX9_highestLike_0 rfl (lv_at hl 2 rfl) ?_
  refine lv_aload_n hx hb dX9_highestLike_1 rfl (lv_at hl 0 rfl) ?_
  refine hq_getI (o := v0) C hs fX9_highestLike_22 hv0 (by decide) rfl dX9_highestLike_2 (fun g1 => ?_)
  refine hq_mmin C mX9_highestLike_37 hl.1 ⟨Nat.le_of_ble_eq_true rfl, Nat.le_of_ble_eq_true rfl, Nat.zero_le _, Nat.zero_le _⟩ rv2 g1 dX9_highestLike_5 ?_
  refine hq_iconst C dX9_highestLike_8 ?_
  obtain ⟨g2, hw⟩ := hw
  refine hq_isub C dX9_highestLike_9 ?_
  refine hq_nm (fun x3 ex3 => ?_)
  have hw := hw x3 ex3
  have rx3 : rg x3 := by rw [ex3]; exact g2
  refine lv_istore_n (lv' := [(3, .int (w3 x3)), (0, .ref (B + v0)), (1, .int (w3 v1)), (2, .int (w3 v2))]) hx hb dX9_highestLike_10 rfl hl (by decide) rfl (fun ls hl => ?_)
  obtain ⟨n9, hw⟩ := hw
  refine cl_X9_highestLike_11 v0 hv0 v1 rv1 C  n9 x3 rx3 _ _ _ hw hs (lv_sub hl [1, 2, 0] rfl)
theorem iX9_highestNamed_2 : ∀ w ∈ u_ws RX2 TX2 2, w ∈ wsX9_highestNamed := fun w h => List.mem_cons_of_mem _ (List.mem_append_left _ (List.mem_append_left _ (List.mem_append_right _ h)))
theorem iX9_highestNamed_9 : ∀ w ∈ u_ws RX9 TX9 7, w ∈ wsX9_highestNamed := fun w h => List.mem_cons_of_mem _ (List.mem_append_left _ (List.mem_append_left _ (List.mem_append_left _ (List.mem_append_right _ h))))
set_option maxRecDepth 20000 in
theorem fX9_highestNamed_22 : hq_fl vwCl wsX9_highestNamed RX9 22 9 3 false .int := ⟨RX9, TX9, 7, tyX9, rfl, by decide, iX9_highestNamed_9, by decide +kernel, rfl, tyX9_ok 3 (by decide), tyX9_ok, nmX9⟩
set_option maxRecDepth 20000 in
theorem fX9_highestNamed_26 : hq_fl vwCl wsX9_highestNamed RX9 26 9 4 false .int := ⟨RX9, TX9, 7, tyX9, rfl, by decide, iX9_highestNamed_9, by decide +kernel, rfl, tyX9_ok 4 (by decide), tyX9_ok, nmX9⟩
set_option maxRecDepth 20000 in
theorem fX9_highestNamed_63 : hq_fl vwCl wsX9_highestNamed RX9 63 2 0 true (.object "HeadTables$Row") := ⟨RX2, TX2, 2, tyX2, rfl, by decide, iX9_highestNamed_2, by decide +kernel, rfl, tyX2_ok 0 (by decide), tyX2_ok, nmX2⟩
set_option maxRecDepth 20000 in
theorem mX9_highestNamed_37 : Cond.methodLink RX9 37 Lib.Math.min.name ∈ wsX9_highestNamed ∧ Cond.static Lib.Math.min.name ∈ wsX9_highestNamed ∧ Cond.initialized "java/lang/Math" ∈ wsX9_highestNamed ∧ Cond.code Lib.Math.min.name Lib.Math.min.code 2 (some .int) ∈ wsX9_highestNamed := ⟨by decide +kernel, by decide +kernel, by decide +kernel, by decide +kernel⟩
set_option maxHeartbeats 4000000 in
set_option maxRecDepth 100000 in
theorem cb_X9_highestNamed_53 {p : Program} {l : Launch} {e : Env} {s : State} {m : MethodId} {args : Array Value} {below : List Frame} {meth : Method} {c : Code} {D : va_G} {cA : Nat → ClassId} {B : Nat} {Z : State → Prop} (v0 : Nat) (hv0 : YC[v0]? = some (9, 0)) (v1 : Nat) (hv1 : YC[v1]? = some (6, 0)) (v2 : Nat) (hv2 : YC[v2]? = some (3, 0)) (v4 : Int) (rv4 : rg v4) {k_12 : Int → Prop} {k : Int → Prop} {M : hq_M} {H : Heap} {locs : List Loc} {ls : Array Slot} (C : hq_C vwCl p m c cX9_highestNamed 6 s args wsX9_highestNamed RX9 meth (some .int) D cA (hq_in B YC.length) Z)
    (hw : b_X9_highestNamed_53 v0 v1 v2 v4 k_12 k M) (hs : hq_S vwCl SLx D cA YC B s.heap M H locs) (hl : lv_has ls 6 [(0, .ref (B + v0)), (1, .ref (B + v1)), (2, .ref (B + v2)), (4, .int (w3 v4))])
    (hk_12 : ∀ (y4 : Int) (ry4 : rg y4) (H : Heap) (locs : List Loc) (ls : Array Slot), k_12 y4 → hq_S vwCl SLx D cA YC B s.heap M H locs → lv_has ls 6 [(0, .ref (B + v0)), (1, .ref (B + v1)), (2, .ref (B + v2)), (4, .int (w3 y4))] → W p l e ({ frames := 1, cells := 0, slots := 0, locals := 22 } : Room) s m args below meth c H locs 0 0 (MQ below (hq_Q vwCl SLx D cA YC B (hq_qi (fun z M' => M' = M ∧ k z))) args s 0 0 (hq_in B YC.length)) (F0 m 12 ls [])) : W p l e ({ frames := 1, cells := 0, slots := 0, locals := 22 } : Room) s m args below meth c H locs 0 0 (MQ below (hq_Q vwCl SLx D cA YC B (hq_qi (fun z M' => M' = M ∧ k z))) args s 0 0 (hq_in B YC.length)) (F0 m 53 ls []) := by
  have hx := C.1.1
  have hb := C.1.2.1
  unfold b_X9_highestNamed_53 at hw
  obtain ⟨g2, hw⟩ := hw
  refine hq_iinc (k := 3) C dX9_highestNamed_53 hl rfl (by decide) (fun x1 ex1 ls hl => ?_)
  have hw := hw x1 ex1
  have rx1 : rg x1 := by rw [ex1]; exact g2
  have hl : lv_has ls 6 [(4, .int (w3 x1)), (0, .ref (B + v0)), (1, .ref (B + v1)), (2, .ref (B + v2))] := hl
  refine hq_goto (tgt := 12) C dX9_highestNamed_56 (by decide) ?_
  exact hk_12 x1 rx1 _ _ _ hw hs (lv_sub hl [1, 2, 3, 0] rfl)
set_option maxHeartbeats 4000000 in
set_option maxRecDepth 100000 in
theorem cl_X9_highestNamed_12 {p : Program} {l : Launch} {e : Env} {s : State} {m : MethodId} {args : Array Value} {below : List Frame} {meth : Method} {c : Code} {D : va_G} {cA : Nat → ClassId} {B : Nat} {Z : State → Prop} (v0 : Nat) (hv0 : YC[v0]? = some (9, 0)) (v1 : Nat) (hv1 : YC[v1]? = some (6, 0)) (v2 : Nat) (hv2 : YC[v2]? = some (3, 0))  {k : Int → Prop} {M : hq_M} (C : hq_C vwCl p m c cX9_highestNamed 6 s args wsX9_highestNamed RX9 meth (some .int) D cA (hq_in B YC.length) Z)
     : ∀ (n : Nat) (v4 : Int) (rv4 : rg v4) (H : Heap) (locs : List Loc) (ls : Array Slot), l_X9_highestNamed_12 v0 v1 v2 k M n v4 → hq_S vwCl SLx D cA YC B s.heap M H locs → lv_has ls 6 [(0, .ref (B + v0)), (1, .ref (B + v1)), (2, .ref (B + v2)), (4, .int (w3 v4))] → W p l e ({ frames := 1, cells := 0, slots := 0, locals := 22 } : Room) s m args below meth c H locs 0 0 (MQ below (hq_Q vwCl SLx D cA YC B (hq_qi (fun z M' => M' = M ∧ k z))) args s 0 0 (hq_in B YC.length)) (F0 m 12 ls []) := by
  have hx := C.1.1
  have hb := C.1.2.1
  intro n
  induction n with
  | zero => intro v4 rv4 H locs ls hw hs hl; exact hw.elim
  | succ n ih =>
    intro v4 rv4 H locs ls hw hs hl
    unfold l_X9_highestNamed_12 at hw
    refine lv_iload hx hb dX9_highestNamed_12 (lv_at hl 3 rfl) ?_
    refine lv_aload_n hx hb dX9_highestNamed_14 rfl (lv_at hl 0 rfl) ?_
    refine hq_getI (o := v0) C hs fX9_highestNamed_26 hv0 (by decide) rfl dX9_highestNamed_15 (fun g1 => ?_)
    refine hq_icmp_lt (tgt := 59) C rv4 g1 dX9_highestNamed_18 (by decide) (fun h => ?_) (fun h => ?_)
    · have hw := hw.1 h
      refine hq_bipush C dX9_highestNamed_59 (by decide) ?_
      exact hq_iret C hs (by decide : rg (-9)) ⟨rfl, hw⟩ dX9_highestNamed_61
    · have hw := hw.2 h
      refine lv_aload_n hx hb dX9_highestNamed_21 rfl (lv_at hl 2 rfl) ?_
      refine lv_aload_n hx hb dX9_highestNamed_22 rfl (lv_at hl 0 rfl) ?_
      refine lv_iload hx hb dX9_highestNamed_23 (lv_at hl 3 rfl) ?_
      refine hq_cV (n := 1) (ci := 9) (o := v0) (qc := (TX9, 7)) C hs (c_X9_fieldAt l C.2.2.2.2.1 v0 hv0 v4 rv4 _ _ hw) gX9_highestNamed_X9_fieldAt rfl ⟨rfl, rfl⟩ (by decide +kernel) ⟨Nat.le_of_ble_eq_true rfl, Nat.le_of_ble_eq_true rfl⟩ hv0 (by decide) rfl rfl hl.1 rfl (Nat.le_of_ble_eq_true rfl) dX9_highestNamed_25 (hq_ki (fun x2 M9 H locs rx2 hw hs => ?_))
      obtain ⟨e9, hw⟩ := hw; rw [e9] at hs
      refine hq_cV (n := 1) (ci := 3) (o := v2) (qc := (TX3, 2)) C hs (c_X3_at l C.2.2.2.2.1 v2 hv2 x2 rx2 _ _ hw) gX9_highestNamed_X3_at rfl ⟨rfl, rfl⟩ (by decide +kernel) ⟨Nat.le_of_ble_eq_true rfl, Nat.le_of_ble_eq_true rfl⟩ hv2 (by decide) rfl rfl hl.1 rfl (Nat.le_of_ble_eq_true rfl) dX9_highestNamed_28 (hq_kr (fun M9 H locs hw hs => ?_) (fun o3 M9 H locs ho3 hw hs => ?_))
      · obtain ⟨e9, hw⟩ := hw; rw [e9] at hs
        have hw := hw.1 rfl
        refine lv_astoreN (lv' := [(5, .null), (0, .ref (B + v0)), (1, .ref (B + v1)), (2, .ref (B + v2)), (4, .int (w3 v4))]) hx hb dX9_highestNamed_31 hl (by decide) rfl (fun ls hl => ?_)
        refine lv_aloadN hx hb dX9_highestNamed_33 (lv_at hl 0 rfl) ?_
        refine lv_ifnullN (tgt := 53) hx hb dX9_highestNamed_35 (by decide) ?_
        refine cb_X9_highestNamed_53 v0 hv0 v1 hv1 v2 hv2 v4 rv4 C hw hs (lv_sub hl [1, 2, 3, 4] rfl) ?_
        · intro y4 ry4 H locs ls hw hs hl
          exact ih y4 ry4 _ _ _ hw hs (lv_sub hl [0, 1, 2, 3] rfl)
      · obtain ⟨e9, hw⟩ := hw; rw [e9] at hs
        have hw := hw.2 o3 rfl
        refine lv_astore (lv' := [(5, .ref (B + o3)), (0, .ref (B + v0)), (1, .ref (B + v1)), (2, .ref (B + v2)), (4, .int (w3 v4))]) hx hb dX9_highestNamed_31 hl (by decide) rfl (fun ls hl => ?_)
        refine lv_aload hx hb dX9_highestNamed_33 (lv_at hl 0 rfl) ?_
        refine lv_ifnull hx hb dX9_highestNamed_35 ?_
        refine lv_aload hx hb dX9_highestNamed_38 (lv_at hl 0 rfl) ?_
        refine hq_getR (o := o3) C hs fX9_highestNamed_63 ho3 (by decide) rfl dX9_highestNamed_40 ?_
        refine lv_aload_n hx hb dX9_highestNamed_43 rfl (lv_at hl 2 rfl) ?_
        refine hq_cV (n := 1) (ci := 6) (o := (o3 + 1)) (qc := (TX6, 2)) C hs (c_X6_same l C.2.2.2.2.1 (o3 + 1) (tc_2_0 ho3) v1 hv1 _ _ hw) gX9_highestNamed_X6_same rfl ⟨rfl, rfl⟩ (by decide +kernel) ⟨Nat.le_of_ble_eq_true rfl, Nat.le_of_ble_eq_true rfl⟩ (tc_2_0 ho3) (by decide) rfl rfl hl.1 rfl (Nat.le_of_ble_eq_true rfl) dX9_highestNamed_44 (hq_kz (fun x5 M9 H locs rx5 hw hs => ?_))
        obtain ⟨e9, hw⟩ := hw; rw [e9] at hs
        refine hq_if_eq (tgt := 53) C (rb_rg rx5) dX9_highestNamed_47 (by decide) (fun h => ?_) (fun h => ?_)
        · have hw := hw.1 h
          refine cb_X9_highestNamed_53 v0 hv0 v1 hv1 v2 hv2 v4 rv4 C hw hs (lv_sub hl [1, 2, 3, 4] rfl) ?_
          · intro y4 ry4 H locs ls hw hs hl
            exact ih y4 ry4 _ _ _ hw hs (lv_sub hl [0, 1, 2, 3] rfl)
        · have hw := hw.2 h
          refine lv_iload hx hb dX9_highestNamed_50 (lv_at hl 4 rfl) ?_
          exact hq_iret C hs rv4 ⟨rfl, hw⟩ dX9_highestNamed_52
set_option maxHeartbeats 4000000 in
set_option maxRecDepth 100000 in
theorem c_X9_highestNamed (l : Launch) {D : va_G} {cA : Nat → ClassId} {B : Nat} {Z : State → Prop} (hZ : hq_Zo Z (hq_in B YC.length)) (v0 : Nat) (hv0 : YC[v0]? = some (9, 0)) (v1 : Nat) (hv1 : YC[v1]? = some (6, 0)) (v2 : Nat) (hv2 : YC[v2]? = some (3, 0)) (v3 : Int) (rv3 : rg v3) (M : hq_M) (k : Int → Prop) (hw : w_X9_highestNamed v0 v1 v2 v3 M k) : hq_T vwCl SLx l yX9_highestNamed wsX9_highestNamed ({ frames := 1, cells := 0, slots := 0, locals := 22 } : Room) D cA YC B Z [.ref (B + v0), .ref (B + v1), .ref (B + v2), .int (w3 v3)] M (hq_qi (fun z M' => M' = M ∧ k z)) := by
  refine hq_meth (cc := cX9_highestNamed) (maxL := 6) (ret := (some .int)) (own := RX9) hZ rfl (by decide +kernel) rfl (Nat.le_of_ble_eq_true rfl) ?_
  intro p e s m below meth c ls C hs hl
  have hx := C.1.1
  have hb := C.1.2.1
  unfold w_X9_highestNamed at hw
  have hl : lv_has ls 6 [(0, .ref (B + v0)), (1, .ref (B + v1)), (2, .ref (B + v2)), (3, .int (w3 v3))] := hl
  refine lv_iload_n hx hb dX9_highestNamed_0 rfl (lv_at hl 3 rfl) ?_
  refine lv_aload_n hx hb dX9_highestNamed_1 rfl (lv_at hl 0 rfl) ?_
  refine hq_getI (o := v0) C hs fX9_highestNamed_22 hv0 (by decide) rfl dX9_highestNamed_2 (fun g1 => ?_)
  refine hq_mmin C mX9_highestNamed_37 hl.1 ⟨Nat.le_of_ble_eq_true rfl, Nat.le_of_ble_eq_true rfl, Nat.zero_le _, Nat.zero_le _⟩ rv3 g1 dX9_highestNamed_5 ?_
  refine hq_iconst C dX9_highestNamed_8 ?_
  obtain ⟨g2, hw⟩ := hw
  refine hq_isub C dX9_highestNamed_9 ?_
  refine hq_nm (fun x3 ex3 => ?_)
  have hw := hw x3 ex3
  have rx3 : rg x3 := by rw [ex3]; exact g2
  refine lv_istore (lv' := [(4, .int (w3 x3)), (0, .ref (B + v0)), (1, .ref (B + v1)), (2, .ref (B + v2)), (3, .int (w3 v3))]) hx hb dX9_highestNamed_10 hl (by decide) rfl (fun ls hl => ?_)
  obtain ⟨n9, hw⟩ := hw
  refine cl_X9_highestNamed_12 v0 hv0 v1 hv1 v2 hv2 C  n9 x3 rx3 _ _ _ hw hs (lv_sub hl [1, 2, 3, 0] rfl)
theorem iX10_restart_10 : ∀ w ∈ u_ws RX10 TX10 8, w ∈ wsX10_restart := fun w h => List.mem_cons_of_mem _ (List.mem_append_left _ (List.mem_append_left _ (List.mem_append_left _ (List.mem_append_right _ h))))
set_option maxRecDepth 20000 in
theorem fX10_restart_12 : hq_fl vwCl wsX10_restart RX10 12 10 0 true (.object "HeadTables$Table") := ⟨RX10, TX10, 8, tyX10, rfl, by decide, iX10_restart_10, by decide +kernel, rfl, tyX10_ok 0 (by decide), tyX10_ok, nmX10⟩
set_option maxRecDepth 20000 in
theorem fX10_restart_21 : hq_fl vwCl wsX10_restart RX10 21 10 1 true (.object "HeadTables$Stream") := ⟨RX10, TX10, 8, tyX10, rfl, by decide, iX10_restart_10, by decide +kernel, rfl, tyX10_ok 1 (by decide), tyX10_ok, nmX10⟩
set_option maxRecDepth 20000 in
theorem fX10_restart_37 : hq_fl vwCl wsX10_restart RX10 37 10 4 false (.object "HeadTables$Settings") := ⟨RX10, TX10, 8, tyX10, rfl, by decide, iX10_restart_10, by decide +kernel, rfl, tyX10_ok 4 (by decide), tyX10_ok, nmX10⟩
set_option maxRecDepth 20000 in
theorem fX10_restart_45 : hq_fl vwCl wsX10_restart RX10 45 10 5 false .int := ⟨RX10, TX10, 8, tyX10, rfl, by decide, iX10_restart_10, by decide +kernel, rfl, tyX10_ok 5 (by decide), tyX10_ok, nmX10⟩
set_option maxHeartbeats 4000000 in
set_option maxRecDepth 100000 in
theorem c_X10_restart (l : Launch) {D : va_G} {cA : Nat → ClassId} {B : Nat} {Z : State → Prop} (hZ : hq_Zo Z (hq_in B YC.length)) (v0 : Nat) (hv0 : YC[v0]? = some (10, 0)) (v1 : Nat) (hv1 : YC[v1]? = some (7, 0)) (M : hq_M) (k : hq_M → Prop) (hw : w_X10_restart v0 v1 M k) : hq_T vwCl SLx l yX10_restart wsX10_restart ({ frames := 2, cells := 0, slots := 0, locals := 40 } : Room) D cA YC B Z [.ref (B + v0), .ref (B + v1)] M (hq_qv k) := by
  refine hq_meth (cc := cX10_restart) (maxL := 2) (ret := none) (own := RX10) hZ rfl (by decide +kernel) rfl (Nat.le_of_ble_eq_true rfl) ?_
  intro p e s m below meth c ls C hs hl
  have hx := C.1.1
  have hb := C.1.2.1
  unfold w_X10_restart at hw
  have hl : lv_has ls 2 [(0, .ref (B + v0)), (1, .ref (B + v1))] := hl
  refine lv_aload_n hx hb dX10_restart_0 rfl (lv_at hl 0 rfl) ?_
  refine lv_aload_n hx hb dX10_restart_1 rfl (lv_at hl 1 rfl) ?_
  refine hq_putS (o := v0) C hs fX10_restart_37 hv0 (by decide) rfl hv1 dX10_restart_2 (fun M1 eM1 H locs hs => ?_)
  have hw := hw M1 eM1
  refine lv_aload_n hx hb dX10_restart_5 rfl (lv_at hl 0 rfl) ?_
  refine hq_getR (o := v0) C hs fX10_restart_12 hv0 (by decide) rfl dX10_restart_6 ?_
  refine hq_cV (n := 0) (ci := 9) (o := (v0 + 1)) (qc := (TX9, 7)) C hs (c_X9_restart l C.2.2.2.2.1 (v0 + 1) (tc_10_0 hv0) _ _ hw) gX10_restart_X9_restart rfl ⟨rfl, rfl⟩ (by decide +kernel) ⟨Nat.le_of_ble_eq_true rfl, Nat.le_of_ble_eq_true rfl⟩ (tc_10_0 hv0) (by decide) rfl rfl hl.1 rfl (Nat.le_of_ble_eq_true rfl) dX10_restart_9 (hq_kv (fun M2 H locs hw hs => ?_))
  refine lv_aload_n hx hb dX10_restart_12 rfl (lv_at hl 0 rfl) ?_
  refine hq_getR (o := v0) C hs fX10_restart_21 hv0 (by decide) rfl dX10_restart_13 ?_
  refine hq_cV (n := 0) (ci := 8) (o := (v0 + 5)) (qc := (TX8, 5)) C hs (c_X8_restart l C.2.2.2.2.1 (v0 + 5) (tc_10_1 hv0) _ _ hw) gX10_restart_X8_restart rfl ⟨rfl, rfl⟩ (by decide +kernel) ⟨Nat.le_of_ble_eq_true rfl, Nat.le_of_ble_eq_true rfl⟩ (tc_10_1 hv0) (by decide) rfl rfl hl.1 rfl (Nat.le_of_ble_eq_true rfl) dX10_restart_16 (hq_kv (fun M3 H locs hw hs => ?_))
  refine lv_aload_n hx hb dX10_restart_19 rfl (lv_at hl 0 rfl) ?_
  refine hq_iconst C dX10_restart_20 ?_
  refine hq_putI (o := v0) C hs fX10_restart_45 hv0 (by decide) rfl (by decide : rg 0) dX10_restart_21 (fun M4 eM4 H locs hs => ?_)
  have hw := hw M4 eM4
  exact hq_vret C hs hw dX10_restart_24
theorem iX10_copyOf_10 : ∀ w ∈ u_ws RX10 TX10 8, w ∈ wsX10_copyOf := fun w h => List.mem_cons_of_mem _ (List.mem_append_left _ (List.mem_append_left _ (List.mem_append_left _ (List.mem_append_right _ h))))
set_option maxRecDepth 20000 in
theorem fX10_copyOf_12 : hq_fl vwCl wsX10_copyOf RX10 12 10 0 true (.object "HeadTables$Table") := ⟨RX10, TX10, 8, tyX10, rfl, by decide, iX10_copyOf_10, by decide +kernel, rfl, tyX10_ok 0 (by decide), tyX10_ok, nmX10⟩
set_option maxRecDepth 20000 in
theorem fX10_copyOf_21 : hq_fl vwCl wsX10_copyOf RX10 21 10 1 true (.object "HeadTables$Stream") := ⟨RX10, TX10, 8, tyX10, rfl, by decide, iX10_copyOf_10, by decide +kernel, rfl, tyX10_ok 1 (by decide), tyX10_ok, nmX10⟩
set_option maxRecDepth 20000 in
theorem fX10_copyOf_37 : hq_fl vwCl wsX10_copyOf RX10 37 10 4 false (.object "HeadTables$Settings") := ⟨RX10, TX10, 8, tyX10, rfl, by decide, iX10_copyOf_10, by decide +kernel, rfl, tyX10_ok 4 (by decide), tyX10_ok, nmX10⟩
set_option maxRecDepth 20000 in
theorem fX10_copyOf_45 : hq_fl vwCl wsX10_copyOf RX10 45 10 5 false .int := ⟨RX10, TX10, 8, tyX10, rfl, by decide, iX10_copyOf_10, by decide +kernel, rfl, tyX10_ok 5 (by decide), tyX10_ok, nmX10⟩
set_option maxHeartbeats 4000000 in
set_option maxRecDepth 100000 in
theorem c_X10_copyOf (l : Launch) {D : va_G} {cA : Nat → ClassId} {B : Nat} {Z : State → Prop} (hZ : hq_Zo Z (hq_in B YC.length)) (v0 : Nat) (hv0 : YC[v0]? = some (10, 0)) (v1 : Nat) (hv1 : YC[v1]? = some (10, 0)) (M : hq_M) (k : hq_M → Prop) (hw : w_X10_copyOf v0 v1 M k) : hq_T vwCl SLx l yX10_copyOf wsX10_copyOf ({ frames := 2, cells := 0, slots := 0, locals := 43 } : Room) D cA YC B Z [.ref (B + v0), .ref (B + v1)] M (hq_qv k) := by
  refine hq_meth (cc := cX10_copyOf) (maxL := 2) (ret := none) (own := RX10) hZ rfl (by decide +kernel) rfl (Nat.le_of_ble_eq_true rfl) ?_
  intro p e s m below meth c ls C hs hl
  have hx := C.1.1
  have hb := C.1.2.1
  unfold w_X10_copyOf at hw
  have hl : lv_has ls 2 [(0, .ref (B + v0)), (1, .ref (B + v1))] := hl
  refine lv_aload_n hx hb dX10_copyOf_0 rfl (lv_at hl 0 rfl) ?_
  refine lv_aload_n hx hb dX10_copyOf_1 rfl (lv_at hl 1 rfl) ?_
  refine hq_getS (o := v1) C hs fX10_copyOf_37 hv1 (by decide) rfl dX10_copyOf_2 (fun g1 => ?_)
  obtain ⟨o2, eo2⟩ : ∃ y : Nat, y = (M v1 4).toNat := ⟨_, rfl⟩
  rw [← eo2] at g1 ⊢
  have hw := hw o2 eo2
  refine hq_putS (o := v0) C hs fX10_copyOf_37 hv0 (by decide) rfl g1 dX10_copyOf_5 (fun M3 eM3 H locs hs => ?_)
  have hw := hw M3 eM3
  refine lv_aload_n hx hb dX10_copyOf_8 rfl (lv_at hl 0 rfl) ?_
  refine hq_getR (o := v0) C hs fX10_copyOf_12 hv0 (by decide) rfl dX10_copyOf_9 ?_
  refine lv_aload_n hx hb dX10_copyOf_12 rfl (lv_at hl 1 rfl) ?_
  refine hq_getR (o := v1) C hs fX10_copyOf_12 hv1 (by decide) rfl dX10_copyOf_13 ?_
  refine hq_cV (n := 1) (ci := 9) (o := (v0 + 1)) (qc := (TX9, 7)) C hs (c_X9_copyOf l C.2.2.2.2.1 (v0 + 1) (tc_10_0 hv0) (v1 + 1) (tc_10_0 hv1) _ _ hw) gX10_copyOf_X9_copyOf rfl ⟨rfl, rfl⟩ (by decide +kernel) ⟨Nat.le_of_ble_eq_true rfl, Nat.le_of_ble_eq_true rfl⟩ (tc_10_0 hv0) (by decide) rfl rfl hl.1 rfl (Nat.le_of_ble_eq_true rfl) dX10_copyOf_16 (hq_kv (fun M4 H locs hw hs => ?_))
  refine lv_aload_n hx hb dX10_copyOf_19 rfl (lv_at hl 0 rfl) ?_
  refine hq_getR (o := v0) C hs fX10_copyOf_21 hv0 (by decide) rfl dX10_copyOf_20 ?_
  refine lv_aload_n hx hb dX10_copyOf_23 rfl (lv_at hl 1 rfl) ?_
  refine hq_getR (o := v1) C hs fX10_copyOf_21 hv1 (by decide) rfl dX10_copyOf_24 ?_
  refine hq_cV (n := 1) (ci := 8) (o := (v0 + 5)) (qc := (TX8, 5)) C hs (c_X8_copyOf l C.2.2.2.2.1 (v0 + 5) (tc_10_1 hv0) (v1 + 5) (tc_10_1 hv1) _ _ hw) gX10_copyOf_X8_copyOf rfl ⟨rfl, rfl⟩ (by decide +kernel) ⟨Nat.le_of_ble_eq_true rfl, Nat.le_of_ble_eq_true rfl⟩ (tc_10_1 hv0) (by decide) rfl rfl hl.1 rfl (Nat.le_of_ble_eq_true rfl) dX10_copyOf_27 (hq_kv (fun M5 H locs hw hs => ?_))
  refine lv_aload_n hx hb dX10_copyOf_30 rfl (lv_at hl 0 rfl) ?_
  refine lv_aload_n hx hb dX10_copyOf_31 rfl (lv_at hl 1 rfl) ?_
  refine hq_getI (o := v1) C hs fX10_copyOf_45 hv1 (by decide) rfl dX10_copyOf_32 (fun g6 => ?_)
  refine hq_putI (o := v0) C hs fX10_copyOf_45 hv0 (by decide) rfl g6 dX10_copyOf_35 (fun M7 eM7 H locs hs => ?_)
  have hw := hw M7 eM7
  exact hq_vret C hs hw dX10_copyOf_38
theorem iX10_changeCapacity_7 : ∀ w ∈ u_ws RX7 TX7 4, w ∈ wsX10_changeCapacity := fun w h => List.mem_cons_of_mem _ (List.mem_append_left _ (List.mem_append_left _ (List.mem_append_left _ (List.mem_append_right _ h))))
theorem iX10_changeCapacity_9 : ∀ w ∈ u_ws RX9 TX9 7, w ∈ wsX10_changeCapacity := fun w h => List.mem_cons_of_mem _ (List.mem_append_left _ (List.mem_append_left _ (List.mem_append_right _ h)))
theorem iX10_changeCapacity_10 : ∀ w ∈ u_ws RX10 TX10 8, w ∈ wsX10_changeCapacity := fun w h => List.mem_cons_of_mem _ (List.mem_append_left _ (List.mem_append_left _ (List.mem_append_left _ (List.mem_append_left _ (List.mem_append_right _ h)))))
set_option maxRecDepth 20000 in
theorem fX10_changeCapacity_12 : hq_fl vwCl wsX10_changeCapacity RX10 12 10 0 true (.object "HeadTables$Table") := ⟨RX10, TX10, 8, tyX10, rfl, by decide, iX10_changeCapacity_10, by decide +kernel, rfl, tyX10_ok 0 (by decide), tyX10_ok, nmX10⟩
set_option maxRecDepth 20000 in
theorem fX10_changeCapacity_21 : hq_fl vwCl wsX10_changeCapacity RX10 21 10 1 true (.object "HeadTables$Stream") := ⟨RX10, TX10, 8, tyX10, rfl, by decide, iX10_changeCapacity_10, by decide +kernel, rfl, tyX10_ok 1 (by decide), tyX10_ok, nmX10⟩
set_option maxRecDepth 20000 in
theorem fX10_changeCapacity_30 : hq_fl vwCl wsX10_changeCapacity RX10 30 10 2 true (.object "HeadTables$Row") := ⟨RX10, TX10, 8, tyX10, rfl, by decide, iX10_changeCapacity_10, by decide +kernel, rfl, tyX10_ok 2 (by decide), tyX10_ok, nmX10⟩
set_option maxRecDepth 20000 in
theorem fX10_changeCapacity_37 : hq_fl vwCl wsX10_changeCapacity RX10 37 10 4 false (.object "HeadTables$Settings") := ⟨RX10, TX10, 8, tyX10, rfl, by decide, iX10_changeCapacity_10, by decide +kernel, rfl, tyX10_ok 4 (by decide), tyX10_ok, nmX10⟩
set_option maxRecDepth 20000 in
theorem fX10_changeCapacity_45 : hq_fl vwCl wsX10_changeCapacity RX10 45 10 5 false .int := ⟨RX10, TX10, 8, tyX10, rfl, by decide, iX10_changeCapacity_10, by decide +kernel, rfl, tyX10_ok 5 (by decide), tyX10_ok, nmX10⟩
set_option maxRecDepth 20000 in
theorem fX10_changeCapacity_56 : hq_fl vwCl wsX10_changeCapacity RX10 56 7 2 false .int := ⟨RX7, TX7, 4, tyX7, rfl, by decide, iX10_changeCapacity_7, by decide +kernel, rfl, tyX7_ok 2 (by decide), tyX7_ok, nmX7⟩
set_option maxRecDepth 20000 in
theorem fX10_changeCapacity_61 : hq_fl vwCl wsX10_changeCapacity RX10 61 9 6 false .int := ⟨RX9, TX9, 7, tyX9, rfl, by decide, iX10_changeCapacity_9, by decide +kernel, rfl, tyX9_ok 6 (by decide), tyX9_ok, nmX9⟩
set_option maxHeartbeats 4000000 in
set_option maxRecDepth 100000 in
theorem c_X10_changeCapacity (l : Launch) {D : va_G} {cA : Nat → ClassId} {B : Nat} {Z : State → Prop} (hZ : hq_Zo Z (hq_in B YC.length)) (v0 : Nat) (hv0 : YC[v0]? = some (10, 0)) (v1 : Int) (rv1 : rg v1) (M : hq_M) (k : Int → hq_M → Prop) (hw : w_X10_changeCapacity v0 v1 M k) : hq_T vwCl SLx l yX10_changeCapacity wsX10_changeCapacity ({ frames := 3, cells := 0, slots := 0, locals := 67 } : Room) D cA YC B Z [.ref (B + v0), .int (w3 v1)] M (hq_qi k) := by
  refine hq_meth (cc := cX10_changeCapacity) (maxL := 3) (ret := (some .int)) (own := RX10) hZ rfl (by decide +kernel) rfl (Nat.le_of_ble_eq_true rfl) ?_
  intro p e s m below meth c ls C hs hl
  have hx := C.1.1
  have hb := C.1.2.1
  unfold w_X10_changeCapacity at hw
  have hl : lv_has ls 3 [(0, .ref (B + v0)), (1, .int (w3 v1))] := hl
  refine lv_iload_n hx hb dX10_changeCapacity_0 rfl (lv_at hl 1 rfl) ?_
  refine hq_if_lt (tgt := 15) C rv1 dX10_changeCapacity_1 (by decide) (fun h => ?_) (fun h => ?_)
  · have hw := hw.1 h
    refine hq_iconst C dX10_changeCapacity_15 ?_
    exact hq_iret C hs (by decide : rg (-1)) hw dX10_changeCapacity_16
  · have hw := hw.2 h
    refine lv_iload_n hx hb dX10_changeCapacity_4 rfl (lv_at hl 1 rfl) ?_
    refine lv_aload_n hx hb dX10_changeCapacity_5 rfl (lv_at hl 0 rfl) ?_
    refine hq_getS (o := v0) C hs fX10_changeCapacity_37 hv0 (by decide) rfl dX10_changeCapacity_6 (fun g1 => ?_)
    obtain ⟨o2, eo2⟩ : ∃ y : Nat, y = (M v0 4).toNat := ⟨_, rfl⟩
    rw [← eo2] at g1 ⊢
    have hw := hw o2 eo2
    refine hq_getI (o := o2) C hs fX10_changeCapacity_56 g1 (by decide) rfl dX10_changeCapacity_9 (fun g3 => ?_)
    refine hq_icmp_le (tgt := 17) C rv1 g3 dX10_changeCapacity_12 (by decide) (fun h => ?_) (fun h => ?_)
    · have hw := hw.1 h
      refine lv_iload_n hx hb dX10_changeCapacity_17 rfl (lv_at hl 1 rfl) ?_
      refine lv_aload_n hx hb dX10_changeCapacity_18 rfl (lv_at hl 0 rfl) ?_
      refine hq_getR (o := v0) C hs fX10_changeCapacity_12 hv0 (by decide) rfl dX10_changeCapacity_19 ?_
      refine hq_getI (o := (v0 + 1)) C hs fX10_changeCapacity_61 (tc_10_0 hv0) (by decide) rfl dX10_changeCapacity_22 (fun g4 => ?_)
      refine hq_icmp_eq (tgt := 43) C rv1 g4 dX10_changeCapacity_25 (by decide) (fun h => ?_) (fun h => ?_)
      · have hw := hw.1 h
        refine hq_bipush C dX10_changeCapacity_43 (by decide) ?_
        exact hq_iret C hs (by decide : rg (-2)) hw dX10_changeCapacity_45
      · have hw := hw.2 h
        refine lv_aload_n hx hb dX10_changeCapacity_28 rfl (lv_at hl 0 rfl) ?_
        refine hq_getR (o := v0) C hs fX10_changeCapacity_12 hv0 (by decide) rfl dX10_changeCapacity_29 ?_
        refine lv_iload_n hx hb dX10_changeCapacity_32 rfl (lv_at hl 1 rfl) ?_
        refine lv_aload_n hx hb dX10_changeCapacity_33 rfl (lv_at hl 0 rfl) ?_
        refine hq_getI (o := v0) C hs fX10_changeCapacity_45 hv0 (by decide) rfl dX10_changeCapacity_34 (fun g5 => ?_)
        refine hq_cV (n := 2) (ci := 9) (o := (v0 + 1)) (qc := (TX9, 7)) C hs (c_X9_canShrink l C.2.2.2.2.1 (v0 + 1) (tc_10_0 hv0) v1 rv1 (M v0 5) g5 _ _ hw) gX10_changeCapacity_X9_canShrink rfl ⟨rfl, rfl⟩ (by decide +kernel) ⟨Nat.le_of_ble_eq_true rfl, Nat.le_of_ble_eq_true rfl⟩ (tc_10_0 hv0) (by decide) rfl rfl hl.1 rfl (Nat.le_of_ble_eq_true rfl) dX10_changeCapacity_37 (hq_kz (fun x6 M9 H locs rx6 hw hs => ?_))
        obtain ⟨e9, hw⟩ := hw; rw [e9] at hs
        refine hq_if_ne (tgt := 46) C (rb_rg rx6) dX10_changeCapacity_40 (by decide) (fun h => ?_) (fun h => ?_)
        · have hw := hw.1 h
          refine lv_aload_n hx hb dX10_changeCapacity_46 rfl (lv_at hl 0 rfl) ?_
          refine hq_getR (o := v0) C hs fX10_changeCapacity_30 hv0 (by decide) rfl dX10_changeCapacity_47 ?_
          refine hq_cV (n := 0) (ci := 6) (o := (v0 + 10)) (qc := (TX6, 2)) C hs (c_X6_empty l C.2.2.2.2.1 (v0 + 10) (tc_10_2 hv0) _ _ hw) gX10_changeCapacity_X6_empty rfl ⟨rfl, rfl⟩ (by decide +kernel) ⟨Nat.le_of_ble_eq_true rfl, Nat.le_of_ble_eq_true rfl⟩ (tc_10_2 hv0) (by decide) rfl rfl hl.1 rfl (Nat.le_of_ble_eq_true rfl) dX10_changeCapacity_50 (hq_kv (fun M7 H locs hw hs => ?_))
          refine lv_aload_n hx hb dX10_changeCapacity_53 rfl (lv_at hl 0 rfl) ?_
          refine hq_getR (o := v0) C hs fX10_changeCapacity_30 hv0 (by decide) rfl dX10_changeCapacity_54 ?_
          refine hq_bipush C dX10_changeCapacity_57 (by decide) ?_
          refine hq_iconst C dX10_changeCapacity_59 ?_
          refine lv_iload_n hx hb dX10_changeCapacity_60 rfl (lv_at hl 1 rfl) ?_
          refine hq_cV (n := 3) (ci := 6) (o := (v0 + 10)) (qc := (TX6, 2)) C hs (c_X6_addInteger l C.2.2.2.2.1 (v0 + 10) (tc_10_2 hv0) 32 (by decide : rg 32) 5 (by decide : rg 5) v1 rv1 _ _ hw) gX10_changeCapacity_X6_addInteger rfl ⟨rfl, rfl⟩ (by decide +kernel) ⟨Nat.le_of_ble_eq_true rfl, Nat.le_of_ble_eq_true rfl⟩ (tc_10_2 hv0) (by decide) rfl rfl hl.1 rfl (Nat.le_of_ble_eq_true rfl) dX10_changeCapacity_61 (hq_kv (fun M8 H locs hw hs => ?_))
          refine lv_aload_n hx hb dX10_changeCapacity_64 rfl (lv_at hl 0 rfl) ?_
          refine hq_getR (o := v0) C hs fX10_changeCapacity_21 hv0 (by decide) rfl dX10_changeCapacity_65 ?_
          refine lv_aload_n hx hb dX10_changeCapacity_68 rfl (lv_at hl 0 rfl) ?_
          refine hq_getR (o := v0) C hs fX10_changeCapacity_30 hv0 (by decide) rfl dX10_changeCapacity_69 ?_
          refine hq_cV (n := 1) (ci := 8) (o := (v0 + 5)) (qc := (TX8, 5)) C hs (c_X8_hasRoom l C.2.2.2.2.1 (v0 + 5) (tc_10_1 hv0) (v0 + 10) (tc_10_2 hv0) _ _ hw) gX10_changeCapacity_X8_hasRoom rfl ⟨rfl, rfl⟩ (by decide +kernel) ⟨Nat.le_of_ble_eq_true rfl, Nat.le_of_ble_eq_true rfl⟩ (tc_10_1 hv0) (by decide) rfl rfl hl.1 rfl (Nat.le_of_ble_eq_true rfl) dX10_changeCapacity_72 (hq_kz (fun x9 M9 H locs rx9 hw hs => ?_))
          obtain ⟨e9, hw⟩ := hw; rw [e9] at hs
          refine hq_if_ne (tgt := 81) C (rb_rg rx9) dX10_changeCapacity_75 (by decide) (fun h => ?_) (fun h => ?_)
          · have hw := hw.1 h
            refine lv_aload_n hx hb dX10_changeCapacity_81 rfl (lv_at hl 0 rfl) ?_
            refine hq_getR (o := v0) C hs fX10_changeCapacity_21 hv0 (by decide) rfl dX10_changeCapacity_82 ?_
            refine lv_aload_n hx hb dX10_changeCapacity_85 rfl (lv_at hl 0 rfl) ?_
            refine hq_getR (o := v0) C hs fX10_changeCapacity_30 hv0 (by decide) rfl dX10_changeCapacity_86 ?_
            refine hq_iconst C dX10_changeCapacity_89 ?_
            refine lv_iload_n hx hb dX10_changeCapacity_90 rfl (lv_at hl 1 rfl) ?_
            obtain ⟨g10, hw⟩ := hw
            refine hq_isub C dX10_changeCapacity_91 ?_
            refine hq_cV (n := 2) (ci := 8) (o := (v0 + 5)) (qc := (TX8, 5)) C hs (c_X8_write l C.2.2.2.2.1 (v0 + 5) (tc_10_1 hv0) (v0 + 10) (tc_10_2 hv0) ((-1) - v1) g10 _ _ hw) gX10_changeCapacity_X8_write rfl ⟨rfl, rfl⟩ (by decide +kernel) ⟨Nat.le_of_ble_eq_true rfl, Nat.le_of_ble_eq_true rfl⟩ (tc_10_1 hv0) (by decide) rfl rfl hl.1 rfl (Nat.le_of_ble_eq_true rfl) dX10_changeCapacity_92 (hq_kv (fun M11 H locs hw hs => ?_))
            refine lv_aload_n hx hb dX10_changeCapacity_95 rfl (lv_at hl 0 rfl) ?_
            refine hq_getR (o := v0) C hs fX10_changeCapacity_12 hv0 (by decide) rfl dX10_changeCapacity_96 ?_
            refine lv_iload_n hx hb dX10_changeCapacity_99 rfl (lv_at hl 1 rfl) ?_
            refine hq_cV (n := 1) (ci := 9) (o := (v0 + 1)) (qc := (TX9, 7)) C hs (c_X9_tooMany l C.2.2.2.2.1 (v0 + 1) (tc_10_0 hv0) v1 rv1 _ _ hw) gX10_changeCapacity_X9_tooMany rfl ⟨rfl, rfl⟩ (by decide +kernel) ⟨Nat.le_of_ble_eq_true rfl, Nat.le_of_ble_eq_true rfl⟩ (tc_10_0 hv0) (by decide) rfl rfl hl.1 rfl (Nat.le_of_ble_eq_true rfl) dX10_changeCapacity_100 (hq_ki (fun x12 M9 H locs rx12 hw hs => ?_))
            obtain ⟨e9, hw⟩ := hw; rw [e9] at hs
            refine lv_istore_n (lv' := [(2, .int (w3 x12)), (0, .ref (B + v0)), (1, .int (w3 v1))]) hx hb dX10_changeCapacity_103 rfl hl (by decide) rfl (fun ls hl => ?_)
            refine lv_aload_n hx hb dX10_changeCapacity_104 rfl (lv_at hl 1 rfl) ?_
            refine hq_getR (o := v0) C hs fX10_changeCapacity_12 hv0 (by decide) rfl dX10_changeCapacity_105 ?_
            refine lv_iload_n hx hb dX10_changeCapacity_108 rfl (lv_at hl 2 rfl) ?_
            refine hq_cV (n := 1) (ci := 9) (o := (v0 + 1)) (qc := (TX9, 7)) C hs (c_X9_changeCapacity l C.2.2.2.2.1 (v0 + 1) (tc_10_0 hv0) v1 rv1 _ _ hw) gX10_changeCapacity_X9_changeCapacity rfl ⟨rfl, rfl⟩ (by decide +kernel) ⟨Nat.le_of_ble_eq_true rfl, Nat.le_of_ble_eq_true rfl⟩ (tc_10_0 hv0) (by decide) rfl rfl hl.1 rfl (Nat.le_of_ble_eq_true rfl) dX10_changeCapacity_109 (hq_kv (fun M13 H locs hw hs => ?_))
            refine lv_iload_n hx hb dX10_changeCapacity_112 rfl (lv_at hl 0 rfl) ?_
            exact hq_iret C hs rx12 hw dX10_changeCapacity_113
          · have hw := hw.2 h
            refine hq_bipush C dX10_changeCapacity_78 (by decide) ?_
            exact hq_iret C hs (by decide : rg (-3)) hw dX10_changeCapacity_80
        · have hw := hw.2 h
          refine hq_bipush C dX10_changeCapacity_43 (by decide) ?_
          exact hq_iret C hs (by decide : rg (-2)) hw dX10_changeCapacity_45
    · have hw := hw.2 h
      refine hq_iconst C dX10_changeCapacity_15 ?_
      exact hq_iret C hs (by decide : rg (-1)) hw dX10_changeCapacity_16
theorem iX10_formInsertion_2 : ∀ w ∈ u_ws RX2 TX2 2, w ∈ wsX10_formInsertion := fun w h => List.mem_cons_of_mem _ (List.mem_append_left _ (List.mem_append_left _ (List.mem_append_left _ (List.mem_append_right _ h))))
theorem iX10_formInsertion_7 : ∀ w ∈ u_ws RX7 TX7 4, w ∈ wsX10_formInsertion := fun w h => List.mem_cons_of_mem _ (List.mem_append_left _ (List.mem_append_left _ (List.mem_append_left _ (List.mem_append_left _ (List.mem_append_right _ h)))))
theorem iX10_formInsertion_9 : ∀ w ∈ u_ws RX9 TX9 7, w ∈ wsX10_formInsertion := fun w h => List.mem_cons_of_mem _ (List.mem_append_left _ (List.mem_append_left _ (List.mem_append_right _ h)))
theorem iX10_formInsertion_10 : ∀ w ∈ u_ws RX10 TX10 8, w ∈ wsX10_formInsertion := fun w h => List.mem_cons_of_mem _ (List.mem_append_left _ (List.mem_append_left _ (List.mem_append_left _ (List.mem_append_left _ (List.mem_append_left _ (List.mem_append_right _ h))))))
set_option maxRecDepth 20000 in
theorem fX10_formInsertion_12 : hq_fl vwCl wsX10_formInsertion RX10 12 10 0 true (.object "HeadTables$Table") := ⟨RX10, TX10, 8, tyX10, rfl, by decide, iX10_formInsertion_10, by decide +kernel, rfl, tyX10_ok 0 (by decide), tyX10_ok, nmX10⟩
set_option maxRecDepth 20000 in
theorem fX10_formInsertion_30 : hq_fl vwCl wsX10_formInsertion RX10 30 10 2 true (.object "HeadTables$Row") := ⟨RX10, TX10, 8, tyX10, rfl, by decide, iX10_formInsertion_10, by decide +kernel, rfl, tyX10_ok 2 (by decide), tyX10_ok, nmX10⟩
set_option maxRecDepth 20000 in
theorem fX10_formInsertion_37 : hq_fl vwCl wsX10_formInsertion RX10 37 10 4 false (.object "HeadTables$Settings") := ⟨RX10, TX10, 8, tyX10, rfl, by decide, iX10_formInsertion_10, by decide +kernel, rfl, tyX10_ok 4 (by decide), tyX10_ok, nmX10⟩
set_option maxRecDepth 20000 in
theorem fX10_formInsertion_88 : hq_fl vwCl wsX10_formInsertion RX10 88 7 0 true (.object "HeadTables$Pairs") := ⟨RX7, TX7, 4, tyX7, rfl, by decide, iX10_formInsertion_7, by decide +kernel, rfl, tyX7_ok 0 (by decide), tyX7_ok, nmX7⟩
set_option maxRecDepth 20000 in
theorem fX10_formInsertion_112 : hq_fl vwCl wsX10_formInsertion RX10 112 7 1 true (.object "HeadTables$Pairs") := ⟨RX7, TX7, 4, tyX7, rfl, by decide, iX10_formInsertion_7, by decide +kernel, rfl, tyX7_ok 1 (by decide), tyX7_ok, nmX7⟩
set_option maxRecDepth 20000 in
theorem fX10_formInsertion_119 : hq_fl vwCl wsX10_formInsertion RX10 119 2 0 true (.object "HeadTables$Row") := ⟨RX2, TX2, 2, tyX2, rfl, by decide, iX10_formInsertion_2, by decide +kernel, rfl, tyX2_ok 0 (by decide), tyX2_ok, nmX2⟩
set_option maxRecDepth 20000 in
theorem fX10_formInsertion_122 : hq_fl vwCl wsX10_formInsertion RX10 122 9 3 false .int := ⟨RX9, TX9, 7, tyX9, rfl, by decide, iX10_formInsertion_9, by decide +kernel, rfl, tyX9_ok 3 (by decide), tyX9_ok, nmX9⟩
set_option maxRecDepth 20000 in
theorem fX10_formInsertion_133 : hq_fl vwCl wsX10_formInsertion RX10 133 2 1 true (.object "HeadTables$Row") := ⟨RX2, TX2, 2, tyX2, rfl, by decide, iX10_formInsertion_2, by decide +kernel, rfl, tyX2_ok 1 (by decide), tyX2_ok, nmX2⟩
set_option maxHeartbeats 4000000 in
set_option maxRecDepth 100000 in
theorem cb_X10_formInsertion_101 {p : Program} {l : Launch} {e : Env} {s : State} {m : MethodId} {args : Array Value} {below : List Frame} {meth : Method} {c : Code} {D : va_G} {cA : Nat → ClassId} {B : Nat} {Z : State → Prop} (v0 : Nat) (hv0 : YC[v0]? = some (10, 0)) (v1 : Nat) (hv1 : YC[v1]? = some (2, 0))  {k : hq_M → Prop} {M : hq_M} {H : Heap} {locs : List Loc} {ls : Array Slot} (C : hq_C vwCl p m c cX10_formInsertion 4 s args wsX10_formInsertion RX10 meth none D cA (hq_in B YC.length) Z)
    (hw : b_X10_formInsertion_101 v0 v1 k M) (hs : hq_S vwCl SLx D cA YC B s.heap M H locs) (hl : lv_has ls 4 [(0, .ref (B + v0)), (1, .ref (B + v1))])
     : W p l e ({ frames := 2, cells := 0, slots := 0, locals := 47 } : Room) s m args below meth c H locs 0 0 (MQ below (hq_Q vwCl SLx D cA YC B (hq_qv k)) args s 0 0 (hq_in B YC.length)) (F0 m 101 ls []) := by
  have hx := C.1.1
  have hb := C.1.2.1
  unfold b_X10_formInsertion_101 at hw
  refine lv_aload_n hx hb dX10_formInsertion_101 rfl (lv_at hl 0 rfl) ?_
  refine hq_getR (o := v0) C hs fX10_formInsertion_30 hv0 (by decide) rfl dX10_formInsertion_102 ?_
  refine hq_iconst C dX10_formInsertion_105 ?_
  refine lv_aload_n hx hb dX10_formInsertion_106 rfl (lv_at hl 1 rfl) ?_
  refine hq_getR (o := v1) C hs fX10_formInsertion_133 hv1 (by decide) rfl dX10_formInsertion_107 ?_
  refine hq_cV (n := 2) (ci := 6) (o := (v0 + 10)) (qc := (TX6, 2)) C hs (c_X6_addWord l C.2.2.2.2.1 (v0 + 10) (tc_10_2 hv0) 0 (by decide : rg 0) (v1 + 3) (tc_2_1 hv1) _ _ hw) gX10_formInsertion_X6_addWord rfl ⟨rfl, rfl⟩ (by decide +kernel) ⟨Nat.le_of_ble_eq_true rfl, Nat.le_of_ble_eq_true rfl⟩ (tc_10_2 hv0) (by decide) rfl rfl hl.1 rfl (Nat.le_of_ble_eq_true rfl) dX10_formInsertion_110 (hq_kv (fun M1 H locs hw hs => ?_))
  exact hq_vret C hs hw dX10_formInsertion_113
set_option maxHeartbeats 4000000 in
set_option maxRecDepth 100000 in
theorem c_X10_formInsertion (l : Launch) {D : va_G} {cA : Nat → ClassId} {B : Nat} {Z : State → Prop} (hZ : hq_Zo Z (hq_in B YC.length)) (v0 : Nat) (hv0 : YC[v0]? = some (10, 0)) (v1 : Nat) (hv1 : YC[v1]? = some (2, 0)) (M : hq_M) (k : hq_M → Prop) (hw : w_X10_formInsertion v0 v1 M k) : hq_T vwCl SLx l yX10_formInsertion wsX10_formInsertion ({ frames := 2, cells := 0, slots := 0, locals := 47 } : Room) D cA YC B Z [.ref (B + v0), .ref (B + v1)] M (hq_qv k) := by
  refine hq_meth (cc := cX10_formInsertion) (maxL := 4) (ret := none) (own := RX10) hZ rfl (by decide +kernel) rfl (Nat.le_of_ble_eq_true rfl) ?_
  intro p e s m below meth c ls C hs hl
  have hx := C.1.1
  have hb := C.1.2.1
  unfold w_X10_formInsertion at hw
  have hl : lv_has ls 4 [(0, .ref (B + v0)), (1, .ref (B + v1))] := hl
  refine lv_aload_n hx hb dX10_formInsertion_0 rfl (lv_at hl 0 rfl) ?_
  refine hq_getS (o := v0) C hs fX10_formInsertion_37 hv0 (by decide) rfl dX10_formInsertion_1 (fun g1 => ?_)
  obtain ⟨o2, eo2⟩ : ∃ y : Nat, y = (M v0 4).toNat := ⟨_, rfl⟩
  rw [← eo2] at g1 ⊢
  have hw := hw o2 eo2
  refine hq_getR (o := o2) C hs fX10_formInsertion_112 g1 (by decide) rfl dX10_formInsertion_4 ?_
  refine lv_aload_n hx hb dX10_formInsertion_7 rfl (lv_at hl 1 rfl) ?_
  refine hq_cV (n := 1) (ci := 3) (o := (o2 + 38)) (qc := (TX3, 2)) C hs (c_X3_lowestNamed l C.2.2.2.2.1 (o2 + 38) (tc_7_1 g1) v1 hv1 _ _ hw) gX10_formInsertion_X3_lowestNamed rfl ⟨rfl, rfl⟩ (by decide +kernel) ⟨Nat.le_of_ble_eq_true rfl, Nat.le_of_ble_eq_true rfl⟩ (tc_7_1 g1) (by decide) rfl rfl hl.1 rfl (Nat.le_of_ble_eq_true rfl) dX10_formInsertion_8 (hq_ki (fun x3 M9 H locs rx3 hw hs => ?_))
  obtain ⟨e9, hw⟩ := hw; rw [e9] at hs
  refine lv_istore_n (lv' := [(2, .int (w3 x3)), (0, .ref (B + v0)), (1, .ref (B + v1))]) hx hb dX10_formInsertion_11 rfl hl (by decide) rfl (fun ls hl => ?_)
  refine lv_aload_n hx hb dX10_formInsertion_12 rfl (lv_at hl 1 rfl) ?_
  refine hq_getR (o := v0) C hs fX10_formInsertion_12 hv0 (by decide) rfl dX10_formInsertion_13 ?_
  refine lv_aload_n hx hb dX10_formInsertion_16 rfl (lv_at hl 2 rfl) ?_
  refine hq_getR (o := v1) C hs fX10_formInsertion_119 hv1 (by decide) rfl dX10_formInsertion_17 ?_
  refine lv_aload_n hx hb dX10_formInsertion_20 rfl (lv_at hl 1 rfl) ?_
  refine hq_getS (o := v0) C hs fX10_formInsertion_37 hv0 (by decide) rfl dX10_formInsertion_21 (fun g4 => ?_)
  obtain ⟨o5, eo5⟩ : ∃ y : Nat, y = (M v0 4).toNat := ⟨_, rfl⟩
  rw [← eo5] at g4 ⊢
  have hw := hw o5 eo5
  refine hq_getR (o := o5) C hs fX10_formInsertion_88 g4 (by decide) rfl dX10_formInsertion_24 ?_
  refine lv_aload_n hx hb dX10_formInsertion_27 rfl (lv_at hl 1 rfl) ?_
  refine hq_getR (o := v0) C hs fX10_formInsertion_12 hv0 (by decide) rfl dX10_formInsertion_28 ?_
  refine hq_getI (o := (v0 + 1)) C hs fX10_formInsertion_122 (tc_10_0 hv0) (by decide) rfl dX10_formInsertion_31 (fun g6 => ?_)
  refine hq_cV (n := 3) (ci := 9) (o := (v0 + 1)) (qc := (TX9, 7)) C hs (c_X9_highestNamed l C.2.2.2.2.1 (v0 + 1) (tc_10_0 hv0) (v1 + 1) (tc_2_0 hv1) (o5 + 1) (tc_7_0 g4) (M (v0 + 1) 3) g6 _ _ hw) gX10_formInsertion_X9_highestNamed rfl ⟨rfl, rfl⟩ (by decide +kernel) ⟨Nat.le_of_ble_eq_true rfl, Nat.le_of_ble_eq_true rfl⟩ (tc_10_0 hv0) (by decide) rfl rfl hl.1 rfl (Nat.le_of_ble_eq_true rfl) dX10_formInsertion_34 (hq_ki (fun x7 M9 H locs rx7 hw hs => ?_))
  obtain ⟨e9, hw⟩ := hw; rw [e9] at hs
  refine lv_istore_n (lv' := [(3, .int (w3 x7)), (2, .int (w3 x3)), (0, .ref (B + v0)), (1, .ref (B + v1))]) hx hb dX10_formInsertion_37 rfl hl (by decide) rfl (fun ls hl => ?_)
  refine lv_iload_n hx hb dX10_formInsertion_38 rfl (lv_at hl 1 rfl) ?_
  refine hq_if_lt (tgt := 58) C rx3 dX10_formInsertion_39 (by decide) (fun h => ?_) (fun h => ?_)
  · have hw := hw.1 h
    refine lv_iload_n hx hb dX10_formInsertion_58 rfl (lv_at hl 0 rfl) ?_
    refine hq_if_lt (tgt := 88) C rx7 dX10_formInsertion_59 (by decide) (fun h => ?_) (fun h => ?_)
    · have hw := hw.1 h
      refine lv_aload_n hx hb dX10_formInsertion_88 rfl (lv_at hl 2 rfl) ?_
      refine hq_getR (o := v0) C hs fX10_formInsertion_30 hv0 (by decide) rfl dX10_formInsertion_89 ?_
      refine hq_bipush C dX10_formInsertion_92 (by decide) ?_
      refine lv_aload_n hx hb dX10_formInsertion_94 rfl (lv_at hl 3 rfl) ?_
      refine hq_getR (o := v1) C hs fX10_formInsertion_119 hv1 (by decide) rfl dX10_formInsertion_95 ?_
      refine hq_cV (n := 2) (ci := 6) (o := (v0 + 10)) (qc := (TX6, 2)) C hs (c_X6_addWord l C.2.2.2.2.1 (v0 + 10) (tc_10_2 hv0) 64 (by decide : rg 64) (v1 + 1) (tc_2_0 hv1) _ _ hw) gX10_formInsertion_X6_addWord rfl ⟨rfl, rfl⟩ (by decide +kernel) ⟨Nat.le_of_ble_eq_true rfl, Nat.le_of_ble_eq_true rfl⟩ (tc_10_2 hv0) (by decide) rfl rfl hl.1 rfl (Nat.le_of_ble_eq_true rfl) dX10_formInsertion_98 (hq_kv (fun M8 H locs hw hs => ?_))
      refine cb_X10_formInsertion_101 v0 hv0 v1 hv1 C hw hs (lv_sub hl [2, 3] rfl) 
    · have hw := hw.2 h
      refine lv_aload_n hx hb dX10_formInsertion_62 rfl (lv_at hl 2 rfl) ?_
      refine hq_getR (o := v0) C hs fX10_formInsertion_30 hv0 (by decide) rfl dX10_formInsertion_63 ?_
      refine hq_sipush C dX10_formInsertion_66 (by decide) ?_
      refine hq_bipush C dX10_formInsertion_69 (by decide) ?_
      refine lv_aload_n hx hb dX10_formInsertion_71 rfl (lv_at hl 2 rfl) ?_
      refine hq_getR (o := v0) C hs fX10_formInsertion_12 hv0 (by decide) rfl dX10_formInsertion_72 ?_
      refine hq_getI (o := (v0 + 1)) C hs fX10_formInsertion_122 (tc_10_0 hv0) (by decide) rfl dX10_formInsertion_75 (fun g9 => ?_)
      refine hq_iconst C dX10_formInsertion_78 ?_
      obtain ⟨g10, hw⟩ := hw
      refine hq_isub C dX10_formInsertion_79 ?_
      refine lv_iload_n hx hb dX10_formInsertion_80 rfl (lv_at hl 0 rfl) ?_
      obtain ⟨g11, hw⟩ := hw
      refine hq_isub C dX10_formInsertion_81 ?_
      refine hq_cV (n := 3) (ci := 6) (o := (v0 + 10)) (qc := (TX6, 2)) C hs (c_X6_addInteger l C.2.2.2.2.1 (v0 + 10) (tc_10_2 hv0) 128 (by decide : rg 128) 6 (by decide : rg 6) (((M (v0 + 1) 3) - 1) - x7) g11 _ _ hw) gX10_formInsertion_X6_addInteger rfl ⟨rfl, rfl⟩ (by decide +kernel) ⟨Nat.le_of_ble_eq_true rfl, Nat.le_of_ble_eq_true rfl⟩ (tc_10_2 hv0) (by decide) rfl rfl hl.1 rfl (Nat.le_of_ble_eq_true rfl) dX10_formInsertion_82 (hq_kv (fun M12 H locs hw hs => ?_))
      refine hq_goto (tgt := 101) C dX10_formInsertion_85 (by decide) ?_
      refine cb_X10_formInsertion_101 v0 hv0 v1 hv1 C hw hs (lv_sub hl [2, 3] rfl) 
  · have hw := hw.2 h
    refine lv_aload_n hx hb dX10_formInsertion_42 rfl (lv_at hl 2 rfl) ?_
    refine hq_getR (o := v0) C hs fX10_formInsertion_30 hv0 (by decide) rfl dX10_formInsertion_43 ?_
    refine hq_sipush C dX10_formInsertion_46 (by decide) ?_
    refine hq_bipush C dX10_formInsertion_49 (by decide) ?_
    refine lv_iload_n hx hb dX10_formInsertion_51 rfl (lv_at hl 1 rfl) ?_
    refine hq_cV (n := 3) (ci := 6) (o := (v0 + 10)) (qc := (TX6, 2)) C hs (c_X6_addInteger l C.2.2.2.2.1 (v0 + 10) (tc_10_2 hv0) 192 (by decide : rg 192) 6 (by decide : rg 6) x3 rx3 _ _ hw) gX10_formInsertion_X6_addInteger rfl ⟨rfl, rfl⟩ (by decide +kernel) ⟨Nat.le_of_ble_eq_true rfl, Nat.le_of_ble_eq_true rfl⟩ (tc_10_2 hv0) (by decide) rfl rfl hl.1 rfl (Nat.le_of_ble_eq_true rfl) dX10_formInsertion_52 (hq_kv (fun M13 H locs hw hs => ?_))
    refine hq_goto (tgt := 101) C dX10_formInsertion_55 (by decide) ?_
    refine cb_X10_formInsertion_101 v0 hv0 v1 hv1 C hw hs (lv_sub hl [2, 3] rfl) 
theorem iX10_insert_10 : ∀ w ∈ u_ws RX10 TX10 8, w ∈ wsX10_insert := fun w h => List.mem_cons_of_mem _ (List.mem_append_left _ (List.mem_append_left _ (List.mem_append_left _ (List.mem_append_right _ h))))
set_option maxRecDepth 20000 in
theorem fX10_insert_12 : hq_fl vwCl wsX10_insert RX10 12 10 0 true (.object "HeadTables$Table") := ⟨RX10, TX10, 8, tyX10, rfl, by decide, iX10_insert_10, by decide +kernel, rfl, tyX10_ok 0 (by decide), tyX10_ok, nmX10⟩
set_option maxRecDepth 20000 in
theorem fX10_insert_21 : hq_fl vwCl wsX10_insert RX10 21 10 1 true (.object "HeadTables$Stream") := ⟨RX10, TX10, 8, tyX10, rfl, by decide, iX10_insert_10, by decide +kernel, rfl, tyX10_ok 1 (by decide), tyX10_ok, nmX10⟩
set_option maxRecDepth 20000 in
theorem fX10_insert_30 : hq_fl vwCl wsX10_insert RX10 30 10 2 true (.object "HeadTables$Row") := ⟨RX10, TX10, 8, tyX10, rfl, by decide, iX10_insert_10, by decide +kernel, rfl, tyX10_ok 2 (by decide), tyX10_ok, nmX10⟩
set_option maxRecDepth 20000 in
theorem fX10_insert_45 : hq_fl vwCl wsX10_insert RX10 45 10 5 false .int := ⟨RX10, TX10, 8, tyX10, rfl, by decide, iX10_insert_10, by decide +kernel, rfl, tyX10_ok 5 (by decide), tyX10_ok, nmX10⟩
set_option maxHeartbeats 4000000 in
set_option maxRecDepth 100000 in
theorem c_X10_insert (l : Launch) {D : va_G} {cA : Nat → ClassId} {B : Nat} {Z : State → Prop} (hZ : hq_Zo Z (hq_in B YC.length)) (v0 : Nat) (hv0 : YC[v0]? = some (10, 0)) (v1 : Int) (rv1 : rg v1) (v2 : Int) (rv2 : rg v2) (M : hq_M) (k : Int → hq_M → Prop) (hw : w_X10_insert v0 v1 v2 M k) : hq_T vwCl SLx l yX10_insert wsX10_insert ({ frames := 3, cells := 0, slots := 0, locals := 67 } : Room) D cA YC B Z [.ref (B + v0), .int (w3 v1), .int (w3 v2)] M (hq_qi k) := by
  refine hq_meth (cc := cX10_insert) (maxL := 3) (ret := (some .int)) (own := RX10) hZ rfl (by decide +kernel) rfl (Nat.le_of_ble_eq_true rfl) ?_
  intro p e s m below meth c ls C hs hl
  have hx := C.1.1
  have hb := C.1.2.1
  unfold w_X10_insert at hw
  have hl : lv_has ls 3 [(0, .ref (B + v0)), (1, .int (w3 v1)), (2, .int (w3 v2))] := hl
  refine lv_aload_n hx hb dX10_insert_0 rfl (lv_at hl 0 rfl) ?_
  refine hq_getR (o := v0) C hs fX10_insert_12 hv0 (by decide) rfl dX10_insert_1 ?_
  refine lv_iload_n hx hb dX10_insert_4 rfl (lv_at hl 2 rfl) ?_
  refine lv_aload_n hx hb dX10_insert_5 rfl (lv_at hl 0 rfl) ?_
  refine hq_getI (o := v0) C hs fX10_insert_45 hv0 (by decide) rfl dX10_insert_6 (fun g1 => ?_)
  refine hq_cV (n := 2) (ci := 9) (o := (v0 + 1)) (qc := (TX9, 7)) C hs (c_X9_canInsert l C.2.2.2.2.1 (v0 + 1) (tc_10_0 hv0) v2 rv2 (M v0 5) g1 _ _ hw) gX10_insert_X9_canInsert rfl ⟨rfl, rfl⟩ (by decide +kernel) ⟨Nat.le_of_ble_eq_true rfl, Nat.le_of_ble_eq_true rfl⟩ (tc_10_0 hv0) (by decide) rfl rfl hl.1 rfl (Nat.le_of_ble_eq_true rfl) dX10_insert_9 (hq_kz (fun x2 M9 H locs rx2 hw hs => ?_))
  obtain ⟨e9, hw⟩ := hw; rw [e9] at hs
  refine hq_if_ne (tgt := 18) C (rb_rg rx2) dX10_insert_12 (by decide) (fun h => ?_) (fun h => ?_)
  · have hw := hw.1 h
    refine lv_aload_n hx hb dX10_insert_18 rfl (lv_at hl 0 rfl) ?_
    refine hq_getR (o := v0) C hs fX10_insert_21 hv0 (by decide) rfl dX10_insert_19 ?_
    refine lv_aload_n hx hb dX10_insert_22 rfl (lv_at hl 0 rfl) ?_
    refine hq_getR (o := v0) C hs fX10_insert_30 hv0 (by decide) rfl dX10_insert_23 ?_
    refine hq_cV (n := 1) (ci := 8) (o := (v0 + 5)) (qc := (TX8, 5)) C hs (c_X8_hasRoom l C.2.2.2.2.1 (v0 + 5) (tc_10_1 hv0) (v0 + 10) (tc_10_2 hv0) _ _ hw) gX10_insert_X8_hasRoom rfl ⟨rfl, rfl⟩ (by decide +kernel) ⟨Nat.le_of_ble_eq_true rfl, Nat.le_of_ble_eq_true rfl⟩ (tc_10_1 hv0) (by decide) rfl rfl hl.1 rfl (Nat.le_of_ble_eq_true rfl) dX10_insert_26 (hq_kz (fun x3 M9 H locs rx3 hw hs => ?_))
    obtain ⟨e9, hw⟩ := hw; rw [e9] at hs
    refine hq_if_ne (tgt := 35) C (rb_rg rx3) dX10_insert_29 (by decide) (fun h => ?_) (fun h => ?_)
    · have hw := hw.1 h
      refine lv_aload_n hx hb dX10_insert_35 rfl (lv_at hl 0 rfl) ?_
      refine hq_getR (o := v0) C hs fX10_insert_21 hv0 (by decide) rfl dX10_insert_36 ?_
      refine lv_aload_n hx hb dX10_insert_39 rfl (lv_at hl 0 rfl) ?_
      refine hq_getR (o := v0) C hs fX10_insert_30 hv0 (by decide) rfl dX10_insert_40 ?_
      refine lv_iload_n hx hb dX10_insert_43 rfl (lv_at hl 1 rfl) ?_
      refine hq_cV (n := 2) (ci := 8) (o := (v0 + 5)) (qc := (TX8, 5)) C hs (c_X8_write l C.2.2.2.2.1 (v0 + 5) (tc_10_1 hv0) (v0 + 10) (tc_10_2 hv0) v1 rv1 _ _ hw) gX10_insert_X8_write rfl ⟨rfl, rfl⟩ (by decide +kernel) ⟨Nat.le_of_ble_eq_true rfl, Nat.le_of_ble_eq_true rfl⟩ (tc_10_1 hv0) (by decide) rfl rfl hl.1 rfl (Nat.le_of_ble_eq_true rfl) dX10_insert_44 (hq_kv (fun M4 H locs hw hs => ?_))
      refine lv_aload_n hx hb dX10_insert_47 rfl (lv_at hl 0 rfl) ?_
      refine hq_getR (o := v0) C hs fX10_insert_12 hv0 (by decide) rfl dX10_insert_48 ?_
      refine lv_iload_n hx hb dX10_insert_51 rfl (lv_at hl 1 rfl) ?_
      refine lv_iload_n hx hb dX10_insert_52 rfl (lv_at hl 2 rfl) ?_
      refine hq_cV (n := 2) (ci := 9) (o := (v0 + 1)) (qc := (TX9, 7)) C hs (c_X9_insert l C.2.2.2.2.1 (v0 + 1) (tc_10_0 hv0) v1 rv1 v2 rv2 _ _ hw) gX10_insert_X9_insert rfl ⟨rfl, rfl⟩ (by decide +kernel) ⟨Nat.le_of_ble_eq_true rfl, Nat.le_of_ble_eq_true rfl⟩ (tc_10_0 hv0) (by decide) rfl rfl hl.1 rfl (Nat.le_of_ble_eq_true rfl) dX10_insert_53 (hq_ki (fun x6 M5 H locs rx6 hw hs => ?_))
      exact hq_iret C hs rx6 hw dX10_insert_56
    · have hw := hw.2 h
      refine hq_bipush C dX10_insert_32 (by decide) ?_
      exact hq_iret C hs (by decide : rg (-3)) hw dX10_insert_34
  · have hw := hw.2 h
    refine hq_bipush C dX10_insert_15 (by decide) ?_
    exact hq_iret C hs (by decide : rg (-2)) hw dX10_insert_17
theorem iX10_insertField_7 : ∀ w ∈ u_ws RX7 TX7 4, w ∈ wsX10_insertField := fun w h => List.mem_cons_of_mem _ (List.mem_append_left _ (List.mem_append_left _ (List.mem_append_left _ (List.mem_append_left _ (List.mem_append_left _ (List.mem_append_right _ h))))))
theorem iX10_insertField_10 : ∀ w ∈ u_ws RX10 TX10 8, w ∈ wsX10_insertField := fun w h => List.mem_cons_of_mem _ (List.mem_append_left _ (List.mem_append_left _ (List.mem_append_left _ (List.mem_append_left _ (List.mem_append_left _ (List.mem_append_left _ (List.mem_append_right _ h)))))))
set_option maxRecDepth 20000 in
theorem fX10_insertField_30 : hq_fl vwCl wsX10_insertField RX10 30 10 2 true (.object "HeadTables$Row") := ⟨RX10, TX10, 8, tyX10, rfl, by decide, iX10_insertField_10, by decide +kernel, rfl, tyX10_ok 2 (by decide), tyX10_ok, nmX10⟩
set_option maxRecDepth 20000 in
theorem fX10_insertField_37 : hq_fl vwCl wsX10_insertField RX10 37 10 4 false (.object "HeadTables$Settings") := ⟨RX10, TX10, 8, tyX10, rfl, by decide, iX10_insertField_10, by decide +kernel, rfl, tyX10_ok 4 (by decide), tyX10_ok, nmX10⟩
set_option maxRecDepth 20000 in
theorem fX10_insertField_88 : hq_fl vwCl wsX10_insertField RX10 88 7 0 true (.object "HeadTables$Pairs") := ⟨RX7, TX7, 4, tyX7, rfl, by decide, iX10_insertField_7, by decide +kernel, rfl, tyX7_ok 0 (by decide), tyX7_ok, nmX7⟩
set_option maxHeartbeats 4000000 in
set_option maxRecDepth 100000 in
theorem c_X10_insertField (l : Launch) {D : va_G} {cA : Nat → ClassId} {B : Nat} {Z : State → Prop} (hZ : hq_Zo Z (hq_in B YC.length)) (v0 : Nat) (hv0 : YC[v0]? = some (10, 0)) (v1 : Int) (rv1 : rg v1) (M : hq_M) (k : Int → hq_M → Prop) (hw : w_X10_insertField v0 v1 M k) : hq_T vwCl SLx l yX10_insertField wsX10_insertField ({ frames := 4, cells := 0, slots := 0, locals := 89 } : Room) D cA YC B Z [.ref (B + v0), .int (w3 v1)] M (hq_qi k) := by
  refine hq_meth (cc := cX10_insertField) (maxL := 3) (ret := (some .int)) (own := RX10) hZ rfl (by decide +kernel) rfl (Nat.le_of_ble_eq_true rfl) ?_
  intro p e s m below meth c ls C hs hl
  have hx := C.1.1
  have hb := C.1.2.1
  unfold w_X10_insertField at hw
  have hl : lv_has ls 3 [(0, .ref (B + v0)), (1, .int (w3 v1))] := hl
  refine lv_aload_n hx hb dX10_insertField_0 rfl (lv_at hl 0 rfl) ?_
  refine hq_getS (o := v0) C hs fX10_insertField_37 hv0 (by decide) rfl dX10_insertField_1 (fun g1 => ?_)
  obtain ⟨o2, eo2⟩ : ∃ y : Nat, y = (M v0 4).toNat := ⟨_, rfl⟩
  rw [← eo2] at g1 ⊢
  have hw := hw o2 eo2
  refine hq_getR (o := o2) C hs fX10_insertField_88 g1 (by decide) rfl dX10_insertField_4 ?_
  refine lv_iload_n hx hb dX10_insertField_7 rfl (lv_at hl 1 rfl) ?_
  refine hq_cV (n := 1) (ci := 3) (o := (o2 + 1)) (qc := (TX3, 2)) C hs (c_X3_at l C.2.2.2.2.1 (o2 + 1) (tc_7_0 g1) v1 rv1 _ _ hw) gX10_insertField_X3_at rfl ⟨rfl, rfl⟩ (by decide +kernel) ⟨Nat.le_of_ble_eq_true rfl, Nat.le_of_ble_eq_true rfl⟩ (tc_7_0 g1) (by decide) rfl rfl hl.1 rfl (Nat.le_of_ble_eq_true rfl) dX10_insertField_8 (hq_kr (fun M9 H locs hw hs => ?_) (fun o3 M9 H locs ho3 hw hs => ?_))
  · obtain ⟨e9, hw⟩ := hw; rw [e9] at hs
    have hw := hw.1 rfl
    refine lv_astore_nN (lv' := [(2, .null), (0, .ref (B + v0)), (1, .int (w3 v1))]) hx hb dX10_insertField_11 rfl hl (by decide) rfl (fun ls hl => ?_)
    refine lv_aload_nN hx hb dX10_insertField_12 rfl (lv_at hl 0 rfl) ?_
    refine lv_ifnonnullN hx hb dX10_insertField_13 ?_
    refine hq_iconst C dX10_insertField_16 ?_
    exact hq_iret C hs (by decide : rg (-1)) hw dX10_insertField_17
  · obtain ⟨e9, hw⟩ := hw; rw [e9] at hs
    have hw := hw.2 o3 rfl
    refine lv_astore_n (lv' := [(2, .ref (B + o3)), (0, .ref (B + v0)), (1, .int (w3 v1))]) hx hb dX10_insertField_11 rfl hl (by decide) rfl (fun ls hl => ?_)
    refine lv_aload_n hx hb dX10_insertField_12 rfl (lv_at hl 0 rfl) ?_
    refine lv_ifnonnull (tgt := 18) hx hb dX10_insertField_13 (by decide) ?_
    refine lv_aload_n hx hb dX10_insertField_18 rfl (lv_at hl 1 rfl) ?_
    refine hq_getR (o := v0) C hs fX10_insertField_30 hv0 (by decide) rfl dX10_insertField_19 ?_
    refine hq_cV (n := 0) (ci := 6) (o := (v0 + 10)) (qc := (TX6, 2)) C hs (c_X6_empty l C.2.2.2.2.1 (v0 + 10) (tc_10_2 hv0) _ _ hw) gX10_insertField_X6_empty rfl ⟨rfl, rfl⟩ (by decide +kernel) ⟨Nat.le_of_ble_eq_true rfl, Nat.le_of_ble_eq_true rfl⟩ (tc_10_2 hv0) (by decide) rfl rfl hl.1 rfl (Nat.le_of_ble_eq_true rfl) dX10_insertField_22 (hq_kv (fun M5 H locs hw hs => ?_))
    refine lv_aload_n hx hb dX10_insertField_25 rfl (lv_at hl 1 rfl) ?_
    refine lv_aload_n hx hb dX10_insertField_26 rfl (lv_at hl 0 rfl) ?_
    refine hq_cV (n := 1) (ci := 10) (o := v0) (qc := (TX10, 8)) C hs (c_X10_formInsertion l C.2.2.2.2.1 v0 hv0 o3 ho3 _ _ hw) gX10_insertField_X10_formInsertion rfl ⟨rfl, rfl⟩ (by decide +kernel) ⟨Nat.le_of_ble_eq_true rfl, Nat.le_of_ble_eq_true rfl⟩ hv0 (by decide) rfl rfl hl.1 rfl (Nat.le_of_ble_eq_true rfl) dX10_insertField_27 (hq_kv (fun M6 H locs hw hs => ?_))
    refine lv_aload_n hx hb dX10_insertField_30 rfl (lv_at hl 1 rfl) ?_
    refine lv_iload_n hx hb dX10_insertField_31 rfl (lv_at hl 2 rfl) ?_
    refine lv_aload_n hx hb dX10_insertField_32 rfl (lv_at hl 0 rfl) ?_
    refine hq_cV (n := 0) (ci := 2) (o := o3) (qc := (TX2, 2)) C hs (c_X2_entrySize l C.2.2.2.2.1 o3 ho3 _ _ hw) gX10_insertField_X2_entrySize rfl ⟨rfl, rfl⟩ (by decide +kernel) ⟨Nat.le_of_ble_eq_true rfl, Nat.le_of_ble_eq_true rfl⟩ ho3 (by decide) rfl rfl hl.1 rfl (Nat.le_of_ble_eq_true rfl) dX10_insertField_33 (hq_ki (fun x7 M9 H locs rx7 hw hs => ?_))
    obtain ⟨e9, hw⟩ := hw; rw [e9] at hs
    refine hq_cV (n := 2) (ci := 10) (o := v0) (qc := (TX10, 8)) C hs (c_X10_insert l C.2.2.2.2.1 v0 hv0 v1 rv1 x7 rx7 _ _ hw) gX10_insertField_X10_insert rfl ⟨rfl, rfl⟩ (by decide +kernel) ⟨Nat.le_of_ble_eq_true rfl, Nat.le_of_ble_eq_true rfl⟩ hv0 (by decide) rfl rfl hl.1 rfl (Nat.le_of_ble_eq_true rfl) dX10_insertField_36 (hq_ki (fun x9 M8 H locs rx9 hw hs => ?_))
    exact hq_iret C hs rx9 hw dX10_insertField_39
theorem iX10_repeatEntry_9 : ∀ w ∈ u_ws RX9 TX9 7, w ∈ wsX10_repeatEntry := fun w h => List.mem_cons_of_mem _ (List.mem_append_left _ (List.mem_append_left _ (List.mem_append_right _ h)))
theorem iX10_repeatEntry_10 : ∀ w ∈ u_ws RX10 TX10 8, w ∈ wsX10_repeatEntry := fun w h => List.mem_cons_of_mem _ (List.mem_append_left _ (List.mem_append_left _ (List.mem_append_left _ (List.mem_append_right _ h))))
set_option maxRecDepth 20000 in
theorem fX10_repeatEntry_12 : hq_fl vwCl wsX10_repeatEntry RX10 12 10 0 true (.object "HeadTables$Table") := ⟨RX10, TX10, 8, tyX10, rfl, by decide, iX10_repeatEntry_10, by decide +kernel, rfl, tyX10_ok 0 (by decide), tyX10_ok, nmX10⟩
set_option maxRecDepth 20000 in
theorem fX10_repeatEntry_30 : hq_fl vwCl wsX10_repeatEntry RX10 30 10 2 true (.object "HeadTables$Row") := ⟨RX10, TX10, 8, tyX10, rfl, by decide, iX10_repeatEntry_10, by decide +kernel, rfl, tyX10_ok 2 (by decide), tyX10_ok, nmX10⟩
set_option maxRecDepth 20000 in
theorem fX10_repeatEntry_122 : hq_fl vwCl wsX10_repeatEntry RX10 122 9 3 false .int := ⟨RX9, TX9, 7, tyX9, rfl, by decide, iX10_repeatEntry_9, by decide +kernel, rfl, tyX9_ok 3 (by decide), tyX9_ok, nmX9⟩
set_option maxHeartbeats 4000000 in
set_option maxRecDepth 100000 in
theorem c_X10_repeatEntry (l : Launch) {D : va_G} {cA : Nat → ClassId} {B : Nat} {Z : State → Prop} (hZ : hq_Zo Z (hq_in B YC.length)) (v0 : Nat) (hv0 : YC[v0]? = some (10, 0)) (v1 : Int) (rv1 : rg v1) (M : hq_M) (k : Int → hq_M → Prop) (hw : w_X10_repeatEntry v0 v1 M k) : hq_T vwCl SLx l yX10_repeatEntry wsX10_repeatEntry ({ frames := 4, cells := 0, slots := 0, locals := 89 } : Room) D cA YC B Z [.ref (B + v0), .int (w3 v1)] M (hq_qi k) := by
  refine hq_meth (cc := cX10_repeatEntry) (maxL := 2) (ret := (some .int)) (own := RX10) hZ rfl (by decide +kernel) rfl (Nat.le_of_ble_eq_true rfl) ?_
  intro p e s m below meth c ls C hs hl
  have hx := C.1.1
  have hb := C.1.2.1
  unfold w_X10_repeatEntry at hw
  have hl : lv_has ls 2 [(0, .ref (B + v0)), (1, .int (w3 v1))] := hl
  refine lv_aload_n hx hb dX10_repeatEntry_0 rfl (lv_at hl 0 rfl) ?_
  refine hq_getR (o := v0) C hs fX10_repeatEntry_12 hv0 (by decide) rfl dX10_repeatEntry_1 ?_
  refine lv_iload_n hx hb dX10_repeatEntry_4 rfl (lv_at hl 1 rfl) ?_
  refine hq_cV (n := 1) (ci := 9) (o := (v0 + 1)) (qc := (TX9, 7)) C hs (c_X9_has l C.2.2.2.2.1 (v0 + 1) (tc_10_0 hv0) v1 rv1 _ _ hw) gX10_repeatEntry_X9_has rfl ⟨rfl, rfl⟩ (by decide +kernel) ⟨Nat.le_of_ble_eq_true rfl, Nat.le_of_ble_eq_true rfl⟩ (tc_10_0 hv0) (by decide) rfl rfl hl.1 rfl (Nat.le_of_ble_eq_true rfl) dX10_repeatEntry_5 (hq_kz (fun x1 M9 H locs rx1 hw hs => ?_))
  obtain ⟨e9, hw⟩ := hw; rw [e9] at hs
  refine hq_if_ne (tgt := 13) C (rb_rg rx1) dX10_repeatEntry_8 (by decide) (fun h => ?_) (fun h => ?_)
  · have hw := hw.1 h
    refine lv_aload_n hx hb dX10_repeatEntry_13 rfl (lv_at hl 0 rfl) ?_
    refine hq_getR (o := v0) C hs fX10_repeatEntry_30 hv0 (by decide) rfl dX10_repeatEntry_14 ?_
    refine hq_cV (n := 0) (ci := 6) (o := (v0 + 10)) (qc := (TX6, 2)) C hs (c_X6_empty l C.2.2.2.2.1 (v0 + 10) (tc_10_2 hv0) _ _ hw) gX10_repeatEntry_X6_empty rfl ⟨rfl, rfl⟩ (by decide +kernel) ⟨Nat.le_of_ble_eq_true rfl, Nat.le_of_ble_eq_true rfl⟩ (tc_10_2 hv0) (by decide) rfl rfl hl.1 rfl (Nat.le_of_ble_eq_true rfl) dX10_repeatEntry_17 (hq_kv (fun M2 H locs hw hs => ?_))
    refine lv_aload_n hx hb dX10_repeatEntry_20 rfl (lv_at hl 0 rfl) ?_
    refine hq_getR (o := v0) C hs fX10_repeatEntry_30 hv0 (by decide) rfl dX10_repeatEntry_21 ?_
    refine hq_iconst C dX10_repeatEntry_24 ?_
    refine hq_iconst C dX10_repeatEntry_25 ?_
    refine lv_aload_n hx hb dX10_repeatEntry_26 rfl (lv_at hl 0 rfl) ?_
    refine hq_getR (o := v0) C hs fX10_repeatEntry_12 hv0 (by decide) rfl dX10_repeatEntry_27 ?_
    refine hq_getI (o := (v0 + 1)) C hs fX10_repeatEntry_122 (tc_10_0 hv0) (by decide) rfl dX10_repeatEntry_30 (fun g3 => ?_)
    refine hq_iconst C dX10_repeatEntry_33 ?_
    obtain ⟨g4, hw⟩ := hw
    refine hq_isub C dX10_repeatEntry_34 ?_
    refine lv_iload_n hx hb dX10_repeatEntry_35 rfl (lv_at hl 1 rfl) ?_
    obtain ⟨g5, hw⟩ := hw
    refine hq_isub C dX10_repeatEntry_36 ?_
    refine hq_cV (n := 3) (ci := 6) (o := (v0 + 10)) (qc := (TX6, 2)) C hs (c_X6_addInteger l C.2.2.2.2.1 (v0 + 10) (tc_10_2 hv0) 0 (by decide : rg 0) 5 (by decide : rg 5) (((M2 (v0 + 1) 3) - 1) - v1) g5 _ _ hw) gX10_repeatEntry_X6_addInteger rfl ⟨rfl, rfl⟩ (by decide +kernel) ⟨Nat.le_of_ble_eq_true rfl, Nat.le_of_ble_eq_true rfl⟩ (tc_10_2 hv0) (by decide) rfl rfl hl.1 rfl (Nat.le_of_ble_eq_true rfl) dX10_repeatEntry_37 (hq_kv (fun M6 H locs hw hs => ?_))
    refine lv_aload_n hx hb dX10_repeatEntry_40 rfl (lv_at hl 0 rfl) ?_
    refine lv_aload_n hx hb dX10_repeatEntry_41 rfl (lv_at hl 0 rfl) ?_
    refine hq_getR (o := v0) C hs fX10_repeatEntry_12 hv0 (by decide) rfl dX10_repeatEntry_42 ?_
    refine lv_iload_n hx hb dX10_repeatEntry_45 rfl (lv_at hl 1 rfl) ?_
    refine hq_cV (n := 1) (ci := 9) (o := (v0 + 1)) (qc := (TX9, 7)) C hs (c_X9_fieldAt l C.2.2.2.2.1 (v0 + 1) (tc_10_0 hv0) v1 rv1 _ _ hw) gX10_repeatEntry_X9_fieldAt rfl ⟨rfl, rfl⟩ (by decide +kernel) ⟨Nat.le_of_ble_eq_true rfl, Nat.le_of_ble_eq_true rfl⟩ (tc_10_0 hv0) (by decide) rfl rfl hl.1 rfl (Nat.le_of_ble_eq_true rfl) dX10_repeatEntry_46 (hq_ki (fun x7 M9 H locs rx7 hw hs => ?_))
    obtain ⟨e9, hw⟩ := hw; rw [e9] at hs
    refine lv_aload_n hx hb dX10_repeatEntry_49 rfl (lv_at hl 0 rfl) ?_
    refine hq_getR (o := v0) C hs fX10_repeatEntry_12 hv0 (by decide) rfl dX10_repeatEntry_50 ?_
    refine lv_iload_n hx hb dX10_repeatEntry_53 rfl (lv_at hl 1 rfl) ?_
    refine hq_cV (n := 1) (ci := 9) (o := (v0 + 1)) (qc := (TX9, 7)) C hs (c_X9_sizeAt l C.2.2.2.2.1 (v0 + 1) (tc_10_0 hv0) v1 rv1 _ _ hw) gX10_repeatEntry_X9_sizeAt rfl ⟨rfl, rfl⟩ (by decide +kernel) ⟨Nat.le_of_ble_eq_true rfl, Nat.le_of_ble_eq_true rfl⟩ (tc_10_0 hv0) (by decide) rfl rfl hl.1 rfl (Nat.le_of_ble_eq_true rfl) dX10_repeatEntry_54 (hq_ki (fun x8 M9 H locs rx8 hw hs => ?_))
    obtain ⟨e9, hw⟩ := hw; rw [e9] at hs
    refine hq_cV (n := 2) (ci := 10) (o := v0) (qc := (TX10, 8)) C hs (c_X10_insert l C.2.2.2.2.1 v0 hv0 x7 rx7 x8 rx8 _ _ hw) gX10_repeatEntry_X10_insert rfl ⟨rfl, rfl⟩ (by decide +kernel) ⟨Nat.le_of_ble_eq_true rfl, Nat.le_of_ble_eq_true rfl⟩ hv0 (by decide) rfl rfl hl.1 rfl (Nat.le_of_ble_eq_true rfl) dX10_repeatEntry_57 (hq_ki (fun x10 M9 H locs rx10 hw hs => ?_))
    exact hq_iret C hs rx10 hw dX10_repeatEntry_60
  · have hw := hw.2 h
    refine hq_iconst C dX10_repeatEntry_11 ?_
    exact hq_iret C hs (by decide : rg (-1)) hw dX10_repeatEntry_12
theorem iX10_top_9 : ∀ w ∈ u_ws RX9 TX9 7, w ∈ wsX10_top := fun w h => List.mem_cons_of_mem _ (List.mem_append_right _ h)
theorem iX10_top_10 : ∀ w ∈ u_ws RX10 TX10 8, w ∈ wsX10_top := fun w h => List.mem_cons_of_mem _ (List.mem_append_left _ (List.mem_append_right _ h))
set_option maxRecDepth 20000 in
theorem fX10_top_12 : hq_fl vwCl wsX10_top RX10 12 10 0 true (.object "HeadTables$Table") := ⟨RX10, TX10, 8, tyX10, rfl, by decide, iX10_top_10, by decide +kernel, rfl, tyX10_ok 0 (by decide), tyX10_ok, nmX10⟩
set_option maxRecDepth 20000 in
theorem fX10_top_45 : hq_fl vwCl wsX10_top RX10 45 10 5 false .int := ⟨RX10, TX10, 8, tyX10, rfl, by decide, iX10_top_10, by decide +kernel, rfl, tyX10_ok 5 (by decide), tyX10_ok, nmX10⟩
set_option maxRecDepth 20000 in
theorem fX10_top_122 : hq_fl vwCl wsX10_top RX10 122 9 3 false .int := ⟨RX9, TX9, 7, tyX9, rfl, by decide, iX10_top_9, by decide +kernel, rfl, tyX9_ok 3 (by decide), tyX9_ok, nmX9⟩
set_option maxRecDepth 20000 in
theorem fX10_top_150 : hq_fl vwCl wsX10_top RX10 150 10 6 false .boolean := ⟨RX10, TX10, 8, tyX10, rfl, by decide, iX10_top_10, by decide +kernel, rfl, tyX10_ok 6 (by decide), tyX10_ok, nmX10⟩
set_option maxHeartbeats 4000000 in
set_option maxRecDepth 100000 in
theorem c_X10_top (l : Launch) {D : va_G} {cA : Nat → ClassId} {B : Nat} {Z : State → Prop} (hZ : hq_Zo Z (hq_in B YC.length)) (v0 : Nat) (hv0 : YC[v0]? = some (10, 0)) (M : hq_M) (k : Int → Prop) (hw : w_X10_top v0 M k) : hq_T vwCl SLx l yX10_top wsX10_top ({ frames := 0, cells := 0, slots := 0, locals := 0 } : Room) D cA YC B Z [.ref (B + v0)] M (hq_qi (fun z M' => M' = M ∧ k z)) := by
  refine hq_meth (cc := cX10_top) (maxL := 1) (ret := (some .int)) (own := RX10) hZ rfl (by decide +kernel) rfl (Nat.le_of_ble_eq_true rfl) ?_
  intro p e s m below meth c ls C hs hl
  have hx := C.1.1
  have hb := C.1.2.1
  unfold w_X10_top at hw
  have hl : lv_has ls 1 [(0, .ref (B + v0))] := hl
  refine lv_aload_n hx hb dX10_top_0 rfl (lv_at hl 0 rfl) ?_
  refine hq_getZ (o := v0) C hs fX10_top_150 hv0 (by decide) rfl dX10_top_1 (fun g1 => ?_)
  refine hq_if_eq (tgt := 17) C (rb_rg g1) dX10_top_4 (by decide) (fun h => ?_) (fun h => ?_)
  · have hw := hw.1 h
    refine lv_aload_n hx hb dX10_top_17 rfl (lv_at hl 0 rfl) ?_
    refine hq_getI (o := v0) C hs fX10_top_45 hv0 (by decide) rfl dX10_top_18 (fun g2 => ?_)
    exact hq_iret C hs g2 ⟨rfl, hw⟩ dX10_top_21
  · have hw := hw.2 h
    refine lv_aload_n hx hb dX10_top_7 rfl (lv_at hl 0 rfl) ?_
    refine hq_getR (o := v0) C hs fX10_top_12 hv0 (by decide) rfl dX10_top_8 ?_
    refine hq_getI (o := (v0 + 1)) C hs fX10_top_122 (tc_10_0 hv0) (by decide) rfl dX10_top_11 (fun g3 => ?_)
    refine hq_goto (tgt := 21) C dX10_top_14 (by decide) ?_
    exact hq_iret C hs g3 ⟨rfl, hw⟩ dX10_top_21
theorem iX10_refer_0 : ∀ w ∈ u_ws RX0 TX0 8, w ∈ wsX10_refer := fun w h => List.mem_cons_of_mem _ (List.mem_append_left _ (List.mem_append_left _ (List.mem_append_right _ h)))
theorem iX10_refer_10 : ∀ w ∈ u_ws RX10 TX10 8, w ∈ wsX10_refer := fun w h => List.mem_cons_of_mem _ (List.mem_append_left _ (List.mem_append_right _ h))
set_option maxRecDepth 20000 in
theorem fX10_refer_12 : hq_fl vwCl wsX10_refer RX10 12 10 0 true (.object "HeadTables$Table") := ⟨RX10, TX10, 8, tyX10, rfl, by decide, iX10_refer_10, by decide +kernel, rfl, tyX10_ok 0 (by decide), tyX10_ok, nmX10⟩
set_option maxRecDepth 20000 in
theorem fX10_refer_184 : hq_fl vwCl wsX10_refer RX10 184 0 3 false .int := ⟨RX0, TX0, 8, tyX0, rfl, by decide, iX10_refer_0, by decide +kernel, rfl, tyX0_ok 3 (by decide), tyX0_ok, nmX0⟩
set_option maxRecDepth 20000 in
theorem fX10_refer_212 : hq_fl vwCl wsX10_refer RX10 212 0 0 true .int := ⟨RX0, TX0, 8, tyX0, rfl, by decide, iX10_refer_0, by decide +kernel, rfl, tyX0_ok 0 (by decide), tyX0_ok, nmX0⟩
set_option maxRecDepth 20000 in
theorem mX10_refer_207 : Cond.methodLink RX10 207 Lib.Math.max.name ∈ wsX10_refer ∧ Cond.static Lib.Math.max.name ∈ wsX10_refer ∧ Cond.initialized "java/lang/Math" ∈ wsX10_refer ∧ Cond.code Lib.Math.max.name Lib.Math.max.code 2 (some .int) ∈ wsX10_refer := ⟨by decide +kernel, by decide +kernel, by decide +kernel, by decide +kernel⟩
set_option maxHeartbeats 4000000 in
set_option maxRecDepth 100000 in
theorem c_X10_refer (l : Launch) {D : va_G} {cA : Nat → ClassId} {B : Nat} {Z : State → Prop} (hZ : hq_Zo Z (hq_in B YC.length)) (v0 : Nat) (hv0 : YC[v0]? = some (10, 0)) (v1 : Nat) (hv1 : YC[v1]? = some (0, 0)) (v2 : Int) (rv2 : rg v2) (M : hq_M) (k : hq_M → Prop) (hw : w_X10_refer v0 v1 v2 M k) : hq_T vwCl SLx l yX10_refer wsX10_refer ({ frames := 1, cells := 0, slots := 0, locals := 22 } : Room) D cA YC B Z [.ref (B + v0), .ref (B + v1), .int (w3 v2)] M (hq_qv k) := by
  refine hq_meth (cc := cX10_refer) (maxL := 3) (ret := none) (own := RX10) hZ rfl (by decide +kernel) rfl (Nat.le_of_ble_eq_true rfl) ?_
  intro p e s m below meth c ls C hs hl
  have hx := C.1.1
  have hb := C.1.2.1
  unfold w_X10_refer at hw
  have hl : lv_has ls 3 [(0, .ref (B + v0)), (1, .ref (B + v1)), (2, .int (w3 v2))] := hl
  refine lv_aload_n hx hb dX10_refer_0 rfl (lv_at hl 1 rfl) ?_
  refine lv_aload_n hx hb dX10_refer_1 rfl (lv_at hl 1 rfl) ?_
  refine hq_getI (o := v1) C hs fX10_refer_184 hv1 (by decide) rfl dX10_refer_2 (fun g1 => ?_)
  refine lv_iload_n hx hb dX10_refer_5 rfl (lv_at hl 2 rfl) ?_
  refine hq_iconst C dX10_refer_6 ?_
  obtain ⟨g2, hw⟩ := hw
  refine hq_iadd C dX10_refer_7 ?_
  refine hq_mmax C mX10_refer_207 hl.1 ⟨Nat.le_of_ble_eq_true rfl, Nat.le_of_ble_eq_true rfl, Nat.zero_le _, Nat.zero_le _⟩ g1 g2 dX10_refer_8 ?_
  refine hq_putI (o := v1) C hs fX10_refer_184 hv1 (by decide) rfl (hq_rmax g1 g2) dX10_refer_11 (fun M3 eM3 H locs hs => ?_)
  have hw := hw M3 eM3
  refine lv_aload_n hx hb dX10_refer_14 rfl (lv_at hl 0 rfl) ?_
  refine hq_getR (o := v0) C hs fX10_refer_12 hv0 (by decide) rfl dX10_refer_15 ?_
  refine lv_iload_n hx hb dX10_refer_18 rfl (lv_at hl 2 rfl) ?_
  refine lv_aload_n hx hb dX10_refer_19 rfl (lv_at hl 1 rfl) ?_
  refine hq_getI (o := v1) C hs fX10_refer_212 hv1 (by decide) rfl dX10_refer_20 (fun g4 => ?_)
  refine hq_cV (n := 2) (ci := 9) (o := (v0 + 1)) (qc := (TX9, 7)) C hs (c_X9_hold l C.2.2.2.2.1 (v0 + 1) (tc_10_0 hv0) v2 rv2 (M3 v1 0) g4 _ _ hw) gX10_refer_X9_hold rfl ⟨rfl, rfl⟩ (by decide +kernel) ⟨Nat.le_of_ble_eq_true rfl, Nat.le_of_ble_eq_true rfl⟩ (tc_10_0 hv0) (by decide) rfl rfl hl.1 rfl (Nat.le_of_ble_eq_true rfl) dX10_refer_23 (hq_kv (fun M5 H locs hw hs => ?_))
  exact hq_vret C hs hw dX10_refer_26
theorem iX10_encodeValue_0 : ∀ w ∈ u_ws RX0 TX0 8, w ∈ wsX10_encodeValue := fun w h => List.mem_cons_of_mem _ (List.mem_append_left _ (List.mem_append_left _ (List.mem_append_left _ (List.mem_append_right _ h))))
theorem iX10_encodeValue_2 : ∀ w ∈ u_ws RX2 TX2 2, w ∈ wsX10_encodeValue := fun w h => List.mem_cons_of_mem _ (List.mem_append_left _ (List.mem_append_left _ (List.mem_append_left _ (List.mem_append_left _ (List.mem_append_right _ h)))))
theorem iX10_encodeValue_7 : ∀ w ∈ u_ws RX7 TX7 4, w ∈ wsX10_encodeValue := fun w h => List.mem_cons_of_mem _ (List.mem_append_left _ (List.mem_append_left _ (List.mem_append_left _ (List.mem_append_left _ (List.mem_append_left _ (List.mem_append_right _ h))))))
theorem iX10_encodeValue_10 : ∀ w ∈ u_ws RX10 TX10 8, w ∈ wsX10_encodeValue := fun w h => List.mem_cons_of_mem _ (List.mem_append_left _ (List.mem_append_left _ (List.mem_append_left _ (List.mem_append_left _ (List.mem_append_left _ (List.mem_append_left _ (List.mem_append_right _ h)))))))
set_option maxRecDepth 20000 in
theorem fX10_encodeValue_12 : hq_fl vwCl wsX10_encodeValue RX10 12 10 0 true (.object "HeadTables$Table") := ⟨RX10, TX10, 8, tyX10, rfl, by decide, iX10_encodeValue_10, by decide +kernel, rfl, tyX10_ok 0 (by decide), tyX10_ok, nmX10⟩
set_option maxRecDepth 20000 in
theorem fX10_encodeValue_34 : hq_fl vwCl wsX10_encodeValue RX10 34 10 3 true (.object "HeadTables$Row") := ⟨RX10, TX10, 8, tyX10, rfl, by decide, iX10_encodeValue_10, by decide +kernel, rfl, tyX10_ok 3 (by decide), tyX10_ok, nmX10⟩
set_option maxRecDepth 20000 in
theorem fX10_encodeValue_37 : hq_fl vwCl wsX10_encodeValue RX10 37 10 4 false (.object "HeadTables$Settings") := ⟨RX10, TX10, 8, tyX10, rfl, by decide, iX10_encodeValue_10, by decide +kernel, rfl, tyX10_ok 4 (by decide), tyX10_ok, nmX10⟩
set_option maxRecDepth 20000 in
theorem fX10_encodeValue_88 : hq_fl vwCl wsX10_encodeValue RX10 88 7 0 true (.object "HeadTables$Pairs") := ⟨RX7, TX7, 4, tyX7, rfl, by decide, iX10_encodeValue_7, by decide +kernel, rfl, tyX7_ok 0 (by decide), tyX7_ok, nmX7⟩
set_option maxRecDepth 20000 in
theorem fX10_encodeValue_112 : hq_fl vwCl wsX10_encodeValue RX10 112 7 1 true (.object "HeadTables$Pairs") := ⟨RX7, TX7, 4, tyX7, rfl, by decide, iX10_encodeValue_7, by decide +kernel, rfl, tyX7_ok 1 (by decide), tyX7_ok, nmX7⟩
set_option maxRecDepth 20000 in
theorem fX10_encodeValue_119 : hq_fl vwCl wsX10_encodeValue RX10 119 2 0 true (.object "HeadTables$Row") := ⟨RX2, TX2, 2, tyX2, rfl, by decide, iX10_encodeValue_2, by decide +kernel, rfl, tyX2_ok 0 (by decide), tyX2_ok, nmX2⟩
set_option maxRecDepth 20000 in
theorem fX10_encodeValue_133 : hq_fl vwCl wsX10_encodeValue RX10 133 2 1 true (.object "HeadTables$Row") := ⟨RX2, TX2, 2, tyX2, rfl, by decide, iX10_encodeValue_2, by decide +kernel, rfl, tyX2_ok 1 (by decide), tyX2_ok, nmX2⟩
set_option maxRecDepth 20000 in
theorem fX10_encodeValue_157 : hq_fl vwCl wsX10_encodeValue RX10 157 0 4 false .int := ⟨RX0, TX0, 8, tyX0, rfl, by decide, iX10_encodeValue_0, by decide +kernel, rfl, tyX0_ok 4 (by decide), tyX0_ok, nmX0⟩
set_option maxHeartbeats 4000000 in
set_option maxRecDepth 100000 in
theorem cb_X10_encodeValue_136 {p : Program} {l : Launch} {e : Env} {s : State} {m : MethodId} {args : Array Value} {below : List Frame} {meth : Method} {c : Code} {D : va_G} {cA : Nat → ClassId} {B : Nat} {Z : State → Prop} (v0 : Nat) (hv0 : YC[v0]? = some (10, 0)) (v2 : Nat) (hv2 : YC[v2]? = some (2, 0))  {k : hq_M → Prop} {M : hq_M} {H : Heap} {locs : List Loc} {ls : Array Slot} (C : hq_C vwCl p m c cX10_encodeValue 5 s args wsX10_encodeValue RX10 meth none D cA (hq_in B YC.length) Z)
    (hw : b_X10_encodeValue_136 v0 v2 k M) (hs : hq_S vwCl SLx D cA YC B s.heap M H locs) (hl : lv_has ls 5 [(0, .ref (B + v0)), (2, .ref (B + v2))])
     : W p l e ({ frames := 2, cells := 0, slots := 0, locals := 47 } : Room) s m args below meth c H locs 0 0 (MQ below (hq_Q vwCl SLx D cA YC B (hq_qv k)) args s 0 0 (hq_in B YC.length)) (F0 m 136 ls []) := by
  have hx := C.1.1
  have hb := C.1.2.1
  unfold b_X10_encodeValue_136 at hw
  refine lv_aload_n hx hb dX10_encodeValue_136 rfl (lv_at hl 0 rfl) ?_
  refine hq_getR (o := v0) C hs fX10_encodeValue_34 hv0 (by decide) rfl dX10_encodeValue_137 ?_
  refine hq_iconst C dX10_encodeValue_140 ?_
  refine lv_aload_n hx hb dX10_encodeValue_141 rfl (lv_at hl 1 rfl) ?_
  refine hq_getR (o := v2) C hs fX10_encodeValue_133 hv2 (by decide) rfl dX10_encodeValue_142 ?_
  refine hq_cV (n := 2) (ci := 6) (o := (v0 + 12)) (qc := (TX6, 2)) C hs (c_X6_addWord l C.2.2.2.2.1 (v0 + 12) (tc_10_3 hv0) 0 (by decide : rg 0) (v2 + 3) (tc_2_1 hv2) _ _ hw) gX10_encodeValue_X6_addWord rfl ⟨rfl, rfl⟩ (by decide +kernel) ⟨Nat.le_of_ble_eq_true rfl, Nat.le_of_ble_eq_true rfl⟩ (tc_10_3 hv0) (by decide) rfl rfl hl.1 rfl (Nat.le_of_ble_eq_true rfl) dX10_encodeValue_145 (hq_kv (fun M1 H locs hw hs => ?_))
  exact hq_vret C hs hw dX10_encodeValue_148
set_option maxHeartbeats 4000000 in
set_option maxRecDepth 100000 in
theorem c_X10_encodeValue (l : Launch) {D : va_G} {cA : Nat → ClassId} {B : Nat} {Z : State → Prop} (hZ : hq_Zo Z (hq_in B YC.length)) (v0 : Nat) (hv0 : YC[v0]? = some (10, 0)) (v1 : Nat) (hv1 : YC[v1]? = some (0, 0)) (v2 : Nat) (hv2 : YC[v2]? = some (2, 0)) (M : hq_M) (k : hq_M → Prop) (hw : w_X10_encodeValue v0 v1 v2 M k) : hq_T vwCl SLx l yX10_encodeValue wsX10_encodeValue ({ frames := 2, cells := 0, slots := 0, locals := 47 } : Room) D cA YC B Z [.ref (B + v0), .ref (B + v1), .ref (B + v2)] M (hq_qv k) := by
  refine hq_meth (cc := cX10_encodeValue) (maxL := 5) (ret := none) (own := RX10) hZ rfl (by decide +kernel) rfl (Nat.le_of_ble_eq_true rfl) ?_
  intro p e s m below meth c ls C hs hl
  have hx := C.1.1
  have hb := C.1.2.1
  unfold w_X10_encodeValue at hw
  have hl : lv_has ls 5 [(0, .ref (B + v0)), (1, .ref (B + v1)), (2, .ref (B + v2))] := hl
  refine lv_aload_n hx hb dX10_encodeValue_0 rfl (lv_at hl 0 rfl) ?_
  refine hq_getS (o := v0) C hs fX10_encodeValue_37 hv0 (by decide) rfl dX10_encodeValue_1 (fun g1 => ?_)
  obtain ⟨o2, eo2⟩ : ∃ y : Nat, y = (M v0 4).toNat := ⟨_, rfl⟩
  rw [← eo2] at g1 ⊢
  have hw := hw o2 eo2
  refine hq_getR (o := o2) C hs fX10_encodeValue_112 g1 (by decide) rfl dX10_encodeValue_4 ?_
  refine lv_aload_n hx hb dX10_encodeValue_7 rfl (lv_at hl 2 rfl) ?_
  refine hq_cV (n := 1) (ci := 3) (o := (o2 + 38)) (qc := (TX3, 2)) C hs (c_X3_lowestNamed l C.2.2.2.2.1 (o2 + 38) (tc_7_1 g1) v2 hv2 _ _ hw) gX10_encodeValue_X3_lowestNamed rfl ⟨rfl, rfl⟩ (by decide +kernel) ⟨Nat.le_of_ble_eq_true rfl, Nat.le_of_ble_eq_true rfl⟩ (tc_7_1 g1) (by decide) rfl rfl hl.1 rfl (Nat.le_of_ble_eq_true rfl) dX10_encodeValue_8 (hq_ki (fun x3 M9 H locs rx3 hw hs => ?_))
  obtain ⟨e9, hw⟩ := hw; rw [e9] at hs
  refine lv_istore_n (lv' := [(3, .int (w3 x3)), (0, .ref (B + v0)), (1, .ref (B + v1)), (2, .ref (B + v2))]) hx hb dX10_encodeValue_11 rfl hl (by decide) rfl (fun ls hl => ?_)
  refine lv_aload_n hx hb dX10_encodeValue_12 rfl (lv_at hl 1 rfl) ?_
  refine hq_getR (o := v0) C hs fX10_encodeValue_12 hv0 (by decide) rfl dX10_encodeValue_13 ?_
  refine lv_aload_n hx hb dX10_encodeValue_16 rfl (lv_at hl 3 rfl) ?_
  refine hq_getR (o := v2) C hs fX10_encodeValue_119 hv2 (by decide) rfl dX10_encodeValue_17 ?_
  refine lv_aload_n hx hb dX10_encodeValue_20 rfl (lv_at hl 1 rfl) ?_
  refine hq_getS (o := v0) C hs fX10_encodeValue_37 hv0 (by decide) rfl dX10_encodeValue_21 (fun g4 => ?_)
  obtain ⟨o5, eo5⟩ : ∃ y : Nat, y = (M v0 4).toNat := ⟨_, rfl⟩
  rw [← eo5] at g4 ⊢
  have hw := hw o5 eo5
  refine hq_getR (o := o5) C hs fX10_encodeValue_88 g4 (by decide) rfl dX10_encodeValue_24 ?_
  refine lv_aload_n hx hb dX10_encodeValue_27 rfl (lv_at hl 1 rfl) ?_
  refine hq_cV (n := 0) (ci := 10) (o := v0) (qc := (TX10, 8)) C hs (c_X10_top l C.2.2.2.2.1 v0 hv0 _ _ hw) gX10_encodeValue_X10_top rfl ⟨rfl, rfl⟩ (by decide +kernel) ⟨Nat.le_of_ble_eq_true rfl, Nat.le_of_ble_eq_true rfl⟩ hv0 (by decide) rfl rfl hl.1 rfl (Nat.le_of_ble_eq_true rfl) dX10_encodeValue_28 (hq_ki (fun x6 M9 H locs rx6 hw hs => ?_))
  obtain ⟨e9, hw⟩ := hw; rw [e9] at hs
  refine hq_cV (n := 3) (ci := 9) (o := (v0 + 1)) (qc := (TX9, 7)) C hs (c_X9_highestNamed l C.2.2.2.2.1 (v0 + 1) (tc_10_0 hv0) (v2 + 1) (tc_2_0 hv2) (o5 + 1) (tc_7_0 g4) x6 rx6 _ _ hw) gX10_encodeValue_X9_highestNamed rfl ⟨rfl, rfl⟩ (by decide +kernel) ⟨Nat.le_of_ble_eq_true rfl, Nat.le_of_ble_eq_true rfl⟩ (tc_10_0 hv0) (by decide) rfl rfl hl.1 rfl (Nat.le_of_ble_eq_true rfl) dX10_encodeValue_31 (hq_ki (fun x7 M9 H locs rx7 hw hs => ?_))
  obtain ⟨e9, hw⟩ := hw; rw [e9] at hs
  refine lv_istore (lv' := [(4, .int (w3 x7)), (3, .int (w3 x3)), (0, .ref (B + v0)), (1, .ref (B + v1)), (2, .ref (B + v2))]) hx hb dX10_encodeValue_34 hl (by decide) rfl (fun ls hl => ?_)
  refine lv_iload_n hx hb dX10_encodeValue_36 rfl (lv_at hl 1 rfl) ?_
  refine hq_if_lt (tgt := 54) C rx3 dX10_encodeValue_37 (by decide) (fun h => ?_) (fun h => ?_)
  · have hw := hw.1 h
    refine lv_iload hx hb dX10_encodeValue_54 (lv_at hl 0 rfl) ?_
    refine hq_if_ge (tgt := 75) C rx7 dX10_encodeValue_56 (by decide) (fun h => ?_) (fun h => ?_)
    · have hw := hw.1 h
      refine lv_iload hx hb dX10_encodeValue_75 (lv_at hl 0 rfl) ?_
      refine lv_aload_n hx hb dX10_encodeValue_77 rfl (lv_at hl 3 rfl) ?_
      refine hq_getI (o := v1) C hs fX10_encodeValue_157 hv1 (by decide) rfl dX10_encodeValue_78 (fun g8 => ?_)
      refine hq_icmp_ge (tgt := 113) C rx7 g8 dX10_encodeValue_81 (by decide) (fun h => ?_) (fun h => ?_)
      · have hw := hw.1 h
        refine lv_aload_n hx hb dX10_encodeValue_113 rfl (lv_at hl 2 rfl) ?_
        refine hq_getR (o := v0) C hs fX10_encodeValue_34 hv0 (by decide) rfl dX10_encodeValue_114 ?_
        refine hq_iconst C dX10_encodeValue_117 ?_
        refine hq_iconst C dX10_encodeValue_118 ?_
        refine lv_iload hx hb dX10_encodeValue_119 (lv_at hl 0 rfl) ?_
        refine lv_aload_n hx hb dX10_encodeValue_121 rfl (lv_at hl 3 rfl) ?_
        refine hq_getI (o := v1) C hs fX10_encodeValue_157 hv1 (by decide) rfl dX10_encodeValue_122 (fun g9 => ?_)
        obtain ⟨g10, hw⟩ := hw
        refine hq_isub C dX10_encodeValue_125 ?_
        refine hq_cV (n := 3) (ci := 6) (o := (v0 + 12)) (qc := (TX6, 2)) C hs (c_X6_addInteger l C.2.2.2.2.1 (v0 + 12) (tc_10_3 hv0) 0 (by decide : rg 0) 3 (by decide : rg 3) (x7 - (M v1 4)) g10 _ _ hw) gX10_encodeValue_X6_addInteger rfl ⟨rfl, rfl⟩ (by decide +kernel) ⟨Nat.le_of_ble_eq_true rfl, Nat.le_of_ble_eq_true rfl⟩ (tc_10_3 hv0) (by decide) rfl rfl hl.1 rfl (Nat.le_of_ble_eq_true rfl) dX10_encodeValue_126 (hq_kv (fun M11 H locs hw hs => ?_))
        refine lv_aload_n hx hb dX10_encodeValue_129 rfl (lv_at hl 2 rfl) ?_
        refine lv_aload_n hx hb dX10_encodeValue_130 rfl (lv_at hl 3 rfl) ?_
        refine lv_iload hx hb dX10_encodeValue_131 (lv_at hl 0 rfl) ?_
        refine hq_cV (n := 2) (ci := 10) (o := v0) (qc := (TX10, 8)) C hs (c_X10_refer l C.2.2.2.2.1 v0 hv0 v1 hv1 x7 rx7 _ _ hw) gX10_encodeValue_X10_refer rfl ⟨rfl, rfl⟩ (by decide +kernel) ⟨Nat.le_of_ble_eq_true rfl, Nat.le_of_ble_eq_true rfl⟩ hv0 (by decide) rfl rfl hl.1 rfl (Nat.le_of_ble_eq_true rfl) dX10_encodeValue_133 (hq_kv (fun M12 H locs hw hs => ?_))
        refine cb_X10_encodeValue_136 v0 hv0 v2 hv2 C hw hs (lv_sub hl [2, 4] rfl) 
      · have hw := hw.2 h
        refine lv_aload_n hx hb dX10_encodeValue_84 rfl (lv_at hl 2 rfl) ?_
        refine hq_getR (o := v0) C hs fX10_encodeValue_34 hv0 (by decide) rfl dX10_encodeValue_85 ?_
        refine hq_bipush C dX10_encodeValue_88 (by decide) ?_
        refine hq_iconst C dX10_encodeValue_90 ?_
        refine lv_aload_n hx hb dX10_encodeValue_91 rfl (lv_at hl 3 rfl) ?_
        refine hq_getI (o := v1) C hs fX10_encodeValue_157 hv1 (by decide) rfl dX10_encodeValue_92 (fun g13 => ?_)
        refine hq_iconst C dX10_encodeValue_95 ?_
        obtain ⟨g14, hw⟩ := hw
        refine hq_isub C dX10_encodeValue_96 ?_
        refine lv_iload hx hb dX10_encodeValue_97 (lv_at hl 0 rfl) ?_
        obtain ⟨g15, hw⟩ := hw
        refine hq_isub C dX10_encodeValue_99 ?_
        refine hq_cV (n := 3) (ci := 6) (o := (v0 + 12)) (qc := (TX6, 2)) C hs (c_X6_addInteger l C.2.2.2.2.1 (v0 + 12) (tc_10_3 hv0) 64 (by decide : rg 64) 4 (by decide : rg 4) (((M v1 4) - 1) - x7) g15 _ _ hw) gX10_encodeValue_X6_addInteger rfl ⟨rfl, rfl⟩ (by decide +kernel) ⟨Nat.le_of_ble_eq_true rfl, Nat.le_of_ble_eq_true rfl⟩ (tc_10_3 hv0) (by decide) rfl rfl hl.1 rfl (Nat.le_of_ble_eq_true rfl) dX10_encodeValue_100 (hq_kv (fun M16 H locs hw hs => ?_))
        refine lv_aload_n hx hb dX10_encodeValue_103 rfl (lv_at hl 2 rfl) ?_
        refine lv_aload_n hx hb dX10_encodeValue_104 rfl (lv_at hl 3 rfl) ?_
        refine lv_iload hx hb dX10_encodeValue_105 (lv_at hl 0 rfl) ?_
        refine hq_cV (n := 2) (ci := 10) (o := v0) (qc := (TX10, 8)) C hs (c_X10_refer l C.2.2.2.2.1 v0 hv0 v1 hv1 x7 rx7 _ _ hw) gX10_encodeValue_X10_refer rfl ⟨rfl, rfl⟩ (by decide +kernel) ⟨Nat.le_of_ble_eq_true rfl, Nat.le_of_ble_eq_true rfl⟩ hv0 (by decide) rfl rfl hl.1 rfl (Nat.le_of_ble_eq_true rfl) dX10_encodeValue_107 (hq_kv (fun M17 H locs hw hs => ?_))
        refine hq_goto (tgt := 136) C dX10_encodeValue_110 (by decide) ?_
        refine cb_X10_encodeValue_136 v0 hv0 v2 hv2 C hw hs (lv_sub hl [2, 4] rfl) 
    · have hw := hw.2 h
      refine lv_aload_n hx hb dX10_encodeValue_59 rfl (lv_at hl 2 rfl) ?_
      refine hq_getR (o := v0) C hs fX10_encodeValue_34 hv0 (by decide) rfl dX10_encodeValue_60 ?_
      refine hq_bipush C dX10_encodeValue_63 (by decide) ?_
      refine lv_aload_n hx hb dX10_encodeValue_65 rfl (lv_at hl 4 rfl) ?_
      refine hq_getR (o := v2) C hs fX10_encodeValue_119 hv2 (by decide) rfl dX10_encodeValue_66 ?_
      refine hq_cV (n := 2) (ci := 6) (o := (v0 + 12)) (qc := (TX6, 2)) C hs (c_X6_addWord l C.2.2.2.2.1 (v0 + 12) (tc_10_3 hv0) 32 (by decide : rg 32) (v2 + 1) (tc_2_0 hv2) _ _ hw) gX10_encodeValue_X6_addWord rfl ⟨rfl, rfl⟩ (by decide +kernel) ⟨Nat.le_of_ble_eq_true rfl, Nat.le_of_ble_eq_true rfl⟩ (tc_10_3 hv0) (by decide) rfl rfl hl.1 rfl (Nat.le_of_ble_eq_true rfl) dX10_encodeValue_69 (hq_kv (fun M18 H locs hw hs => ?_))
      refine hq_goto (tgt := 136) C dX10_encodeValue_72 (by decide) ?_
      refine cb_X10_encodeValue_136 v0 hv0 v2 hv2 C hw hs (lv_sub hl [2, 4] rfl) 
  · have hw := hw.2 h
    refine lv_aload_n hx hb dX10_encodeValue_40 rfl (lv_at hl 2 rfl) ?_
    refine hq_getR (o := v0) C hs fX10_encodeValue_34 hv0 (by decide) rfl dX10_encodeValue_41 ?_
    refine hq_bipush C dX10_encodeValue_44 (by decide) ?_
    refine hq_iconst C dX10_encodeValue_46 ?_
    refine lv_iload_n hx hb dX10_encodeValue_47 rfl (lv_at hl 1 rfl) ?_
    refine hq_cV (n := 3) (ci := 6) (o := (v0 + 12)) (qc := (TX6, 2)) C hs (c_X6_addInteger l C.2.2.2.2.1 (v0 + 12) (tc_10_3 hv0) 80 (by decide : rg 80) 4 (by decide : rg 4) x3 rx3 _ _ hw) gX10_encodeValue_X6_addInteger rfl ⟨rfl, rfl⟩ (by decide +kernel) ⟨Nat.le_of_ble_eq_true rfl, Nat.le_of_ble_eq_true rfl⟩ (tc_10_3 hv0) (by decide) rfl rfl hl.1 rfl (Nat.le_of_ble_eq_true rfl) dX10_encodeValue_48 (hq_kv (fun M19 H locs hw hs => ?_))
    refine hq_goto (tgt := 136) C dX10_encodeValue_51 (by decide) ?_
    refine cb_X10_encodeValue_136 v0 hv0 v2 hv2 C hw hs (lv_sub hl [2, 4] rfl) 
