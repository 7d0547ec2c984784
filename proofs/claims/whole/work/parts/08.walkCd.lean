theorem iX10_encodeField_0 : ∀ w ∈ u_ws RX0 TX0 8, w ∈ wsX10_encodeField := fun w h => List.mem_cons_of_mem _ (List.mem_append_left _ (List.mem_append_left _ (List.mem_append_left _ (List.mem_append_left _ (List.mem_append_left _ (List.mem_append_right _ h))))))
theorem iX10_encodeField_7 : ∀ w ∈ u_ws RX7 TX7 4, w ∈ wsX10_encodeField := fun w h => List.mem_cons_of_mem _ (List.mem_append_left _ (List.mem_append_left _ (List.mem_append_left _ (List.mem_append_left _ (List.mem_append_left _ (List.mem_append_left _ (List.mem_append_right _ h)))))))
theorem iX10_encodeField_10 : ∀ w ∈ u_ws RX10 TX10 8, w ∈ wsX10_encodeField := fun w h => List.mem_cons_of_mem _ (List.mem_append_left _ (List.mem_append_left _ (List.mem_append_left _ (List.mem_append_left _ (List.mem_append_left _ (List.mem_append_left _ (List.mem_append_left _ (List.mem_append_right _ h))))))))
set_option maxRecDepth 20000 in
theorem fX10_encodeField_12 : hq_fl vwCl wsX10_encodeField RX10 12 10 0 true (.object "HeadTables$Table") := ⟨RX10, TX10, 8, tyX10, rfl, by decide, iX10_encodeField_10, by decide +kernel, rfl, tyX10_ok 0 (by decide), tyX10_ok, nmX10⟩
set_option maxRecDepth 20000 in
theorem fX10_encodeField_34 : hq_fl vwCl wsX10_encodeField RX10 34 10 3 true (.object "HeadTables$Row") := ⟨RX10, TX10, 8, tyX10, rfl, by decide, iX10_encodeField_10, by decide +kernel, rfl, tyX10_ok 3 (by decide), tyX10_ok, nmX10⟩
set_option maxRecDepth 20000 in
theorem fX10_encodeField_37 : hq_fl vwCl wsX10_encodeField RX10 37 10 4 false (.object "HeadTables$Settings") := ⟨RX10, TX10, 8, tyX10, rfl, by decide, iX10_encodeField_10, by decide +kernel, rfl, tyX10_ok 4 (by decide), tyX10_ok, nmX10⟩
set_option maxRecDepth 20000 in
theorem fX10_encodeField_112 : hq_fl vwCl wsX10_encodeField RX10 112 7 1 true (.object "HeadTables$Pairs") := ⟨RX7, TX7, 4, tyX7, rfl, by decide, iX10_encodeField_7, by decide +kernel, rfl, tyX7_ok 1 (by decide), tyX7_ok, nmX7⟩
set_option maxRecDepth 20000 in
theorem fX10_encodeField_154 : hq_fl vwCl wsX10_encodeField RX10 154 10 7 false .boolean := ⟨RX10, TX10, 8, tyX10, rfl, by decide, iX10_encodeField_10, by decide +kernel, rfl, tyX10_ok 7 (by decide), tyX10_ok, nmX10⟩
set_option maxRecDepth 20000 in
theorem fX10_encodeField_157 : hq_fl vwCl wsX10_encodeField RX10 157 0 4 false .int := ⟨RX0, TX0, 8, tyX0, rfl, by decide, iX10_encodeField_0, by decide +kernel, rfl, tyX0_ok 4 (by decide), tyX0_ok, nmX0⟩
set_option maxHeartbeats 4000000 in
set_option maxRecDepth 100000 in
theorem cb_X10_encodeField_66 {p : Program} {l : Launch} {e : Env} {s : State} {m : MethodId} {args : Array Value} {below : List Frame} {meth : Method} {c : Code} {D : va_G} {cA : Nat → ClassId} {B : Nat} {Z : State → Prop} (v0 : Nat) (hv0 : YC[v0]? = some (10, 0)) (v1 : Nat) (hv1 : YC[v1]? = some (0, 0)) (v3 : Nat) (hv3 : YC[v3]? = some (2, 0)) (v5 : Int) (rv5 : rg v5)  {k : hq_M → Prop} {M : hq_M} {H : Heap} {locs : List Loc} {ls : Array Slot} (C : hq_C vwCl p m c cX10_encodeField 6 s args wsX10_encodeField RX10 meth none D cA (hq_in B YC.length) Z)
    (hw : b_X10_encodeField_66 v0 v1 v3 v5 k M) (hs : hq_S vwCl SLx D cA YC B s.heap M H locs) (hl : lv_has ls 6 [(0, .ref (B + v0)), (1, .ref (B + v1)), (3, .ref (B + v3)), (5, .int (w3 v5))])
     : W p l e ({ frames := 5, cells := 0, slots := 0, locals := 111 } : Room) s m args below meth c H locs 0 0 (MQ below (hq_Q vwCl SLx D cA YC B (hq_qv k)) args s 0 0 (hq_in B YC.length)) (F0 m 66 ls []) := by
  have hx := C.1.1
  have hb := C.1.2.1
  unfold b_X10_encodeField_66 at hw
  refine lv_iload hx hb dX10_encodeField_66 (lv_at hl 3 rfl) ?_
  refine hq_if_ge (tgt := 80) C rv5 dX10_encodeField_68 (by decide) (fun h => ?_) (fun h => ?_)
  · have hw := hw.1 h
    refine lv_iload hx hb dX10_encodeField_80 (lv_at hl 3 rfl) ?_
    refine lv_aload_n hx hb dX10_encodeField_82 rfl (lv_at hl 1 rfl) ?_
    refine hq_getI (o := v1) C hs fX10_encodeField_157 hv1 (by decide) rfl dX10_encodeField_83 (fun g1 => ?_)
    refine hq_icmp_ge (tgt := 120) C rv5 g1 dX10_encodeField_86 (by decide) (fun h => ?_) (fun h => ?_)
    · have hw := hw.1 h
      refine lv_aload_n hx hb dX10_encodeField_120 rfl (lv_at hl 0 rfl) ?_
      refine hq_getR (o := v0) C hs fX10_encodeField_34 hv0 (by decide) rfl dX10_encodeField_121 ?_
      refine hq_bipush C dX10_encodeField_124 (by decide) ?_
      refine hq_iconst C dX10_encodeField_126 ?_
      refine lv_iload hx hb dX10_encodeField_127 (lv_at hl 3 rfl) ?_
      refine lv_aload_n hx hb dX10_encodeField_129 rfl (lv_at hl 1 rfl) ?_
      refine hq_getI (o := v1) C hs fX10_encodeField_157 hv1 (by decide) rfl dX10_encodeField_130 (fun g2 => ?_)
      obtain ⟨g3, hw⟩ := hw
      refine hq_isub C dX10_encodeField_133 ?_
      refine hq_cV (n := 3) (ci := 6) (o := (v0 + 12)) (qc := (TX6, 2)) C hs (c_X6_addInteger l C.2.2.2.2.1 (v0 + 12) (tc_10_3 hv0) 16 (by decide : rg 16) 4 (by decide : rg 4) (v5 - (M v1 4)) g3 _ _ hw) gX10_encodeField_X6_addInteger rfl ⟨rfl, rfl⟩ (by decide +kernel) ⟨Nat.le_of_ble_eq_true rfl, Nat.le_of_ble_eq_true rfl⟩ (tc_10_3 hv0) (by decide) rfl rfl hl.1 rfl (Nat.le_of_ble_eq_true rfl) dX10_encodeField_134 (hq_kv (fun M4 H locs hw hs => ?_))
      refine lv_aload_n hx hb dX10_encodeField_137 rfl (lv_at hl 0 rfl) ?_
      refine lv_aload_n hx hb dX10_encodeField_138 rfl (lv_at hl 1 rfl) ?_
      refine lv_iload hx hb dX10_encodeField_139 (lv_at hl 3 rfl) ?_
      refine hq_cV (n := 2) (ci := 10) (o := v0) (qc := (TX10, 8)) C hs (c_X10_refer l C.2.2.2.2.1 v0 hv0 v1 hv1 v5 rv5 _ _ hw) gX10_encodeField_X10_refer rfl ⟨rfl, rfl⟩ (by decide +kernel) ⟨Nat.le_of_ble_eq_true rfl, Nat.le_of_ble_eq_true rfl⟩ hv0 (by decide) rfl rfl hl.1 rfl (Nat.le_of_ble_eq_true rfl) dX10_encodeField_141 (hq_kv (fun M5 H locs hw hs => ?_))
      exact hq_vret C hs hw dX10_encodeField_144
    · have hw := hw.2 h
      refine lv_aload_n hx hb dX10_encodeField_89 rfl (lv_at hl 0 rfl) ?_
      refine hq_getR (o := v0) C hs fX10_encodeField_34 hv0 (by decide) rfl dX10_encodeField_90 ?_
      refine hq_sipush C dX10_encodeField_93 (by decide) ?_
      refine hq_bipush C dX10_encodeField_96 (by decide) ?_
      refine lv_aload_n hx hb dX10_encodeField_98 rfl (lv_at hl 1 rfl) ?_
      refine hq_getI (o := v1) C hs fX10_encodeField_157 hv1 (by decide) rfl dX10_encodeField_99 (fun g6 => ?_)
      refine hq_iconst C dX10_encodeField_102 ?_
      obtain ⟨g7, hw⟩ := hw
      refine hq_isub C dX10_encodeField_103 ?_
      refine lv_iload hx hb dX10_encodeField_104 (lv_at hl 3 rfl) ?_
      obtain ⟨g8, hw⟩ := hw
      refine hq_isub C dX10_encodeField_106 ?_
      refine hq_cV (n := 3) (ci := 6) (o := (v0 + 12)) (qc := (TX6, 2)) C hs (c_X6_addInteger l C.2.2.2.2.1 (v0 + 12) (tc_10_3 hv0) 128 (by decide : rg 128) 6 (by decide : rg 6) (((M v1 4) - 1) - v5) g8 _ _ hw) gX10_encodeField_X6_addInteger rfl ⟨rfl, rfl⟩ (by decide +kernel) ⟨Nat.le_of_ble_eq_true rfl, Nat.le_of_ble_eq_true rfl⟩ (tc_10_3 hv0) (by decide) rfl rfl hl.1 rfl (Nat.le_of_ble_eq_true rfl) dX10_encodeField_107 (hq_kv (fun M9 H locs hw hs => ?_))
      refine lv_aload_n hx hb dX10_encodeField_110 rfl (lv_at hl 0 rfl) ?_
      refine lv_aload_n hx hb dX10_encodeField_111 rfl (lv_at hl 1 rfl) ?_
      refine lv_iload hx hb dX10_encodeField_112 (lv_at hl 3 rfl) ?_
      refine hq_cV (n := 2) (ci := 10) (o := v0) (qc := (TX10, 8)) C hs (c_X10_refer l C.2.2.2.2.1 v0 hv0 v1 hv1 v5 rv5 _ _ hw) gX10_encodeField_X10_refer rfl ⟨rfl, rfl⟩ (by decide +kernel) ⟨Nat.le_of_ble_eq_true rfl, Nat.le_of_ble_eq_true rfl⟩ hv0 (by decide) rfl rfl hl.1 rfl (Nat.le_of_ble_eq_true rfl) dX10_encodeField_114 (hq_kv (fun M10 H locs hw hs => ?_))
      refine hq_goto (tgt := 144) C dX10_encodeField_117 (by decide) ?_
      exact hq_vret C hs hw dX10_encodeField_144
  · have hw := hw.2 h
    refine lv_aload_n hx hb dX10_encodeField_71 rfl (lv_at hl 0 rfl) ?_
    refine lv_aload_n hx hb dX10_encodeField_72 rfl (lv_at hl 1 rfl) ?_
    refine lv_aload_n hx hb dX10_encodeField_73 rfl (lv_at hl 2 rfl) ?_
    refine hq_cV (n := 2) (ci := 10) (o := v0) (qc := (TX10, 8)) C hs (c_X10_encodeValue l C.2.2.2.2.1 v0 hv0 v1 hv1 v3 hv3 _ _ hw) gX10_encodeField_X10_encodeValue rfl ⟨rfl, rfl⟩ (by decide +kernel) ⟨Nat.le_of_ble_eq_true rfl, Nat.le_of_ble_eq_true rfl⟩ hv0 (by decide) rfl rfl hl.1 rfl (Nat.le_of_ble_eq_true rfl) dX10_encodeField_74 (hq_kv (fun M11 H locs hw hs => ?_))
    refine hq_goto (tgt := 144) C dX10_encodeField_77 (by decide) ?_
    exact hq_vret C hs hw dX10_encodeField_144
set_option maxHeartbeats 4000000 in
set_option maxRecDepth 100000 in
theorem c_X10_encodeField (l : Launch) {D : va_G} {cA : Nat → ClassId} {B : Nat} {Z : State → Prop} (hZ : hq_Zo Z (hq_in B YC.length)) (v0 : Nat) (hv0 : YC[v0]? = some (10, 0)) (v1 : Nat) (hv1 : YC[v1]? = some (0, 0)) (v2 : Int) (rv2 : rg v2) (v3 : Nat) (hv3 : YC[v3]? = some (2, 0)) (M : hq_M) (k : hq_M → Prop) (hw : w_X10_encodeField v0 v1 v2 v3 M k) : hq_T vwCl SLx l yX10_encodeField wsX10_encodeField ({ frames := 5, cells := 0, slots := 0, locals := 111 } : Room) D cA YC B Z [.ref (B + v0), .ref (B + v1), .int (w3 v2), .ref (B + v3)] M (hq_qv k) := by
  refine hq_meth (cc := cX10_encodeField) (maxL := 6) (ret := none) (own := RX10) hZ rfl (by decide +kernel) rfl (Nat.le_of_ble_eq_true rfl) ?_
  intro p e s m below meth c ls C hs hl
  have hx := C.1.1
  have hb := C.1.2.1
  unfold w_X10_encodeField at hw
  have hl : lv_has ls 6 [(0, .ref (B + v0)), (1, .ref (B + v1)), (2, .int (w3 v2)), (3, .ref (B + v3))] := hl
  refine lv_aload_n hx hb dX10_encodeField_0 rfl (lv_at hl 0 rfl) ?_
  refine hq_getS (o := v0) C hs fX10_encodeField_37 hv0 (by decide) rfl dX10_encodeField_1 (fun g1 => ?_)
  obtain ⟨o2, eo2⟩ : ∃ y : Nat, y = (M v0 4).toNat := ⟨_, rfl⟩
  rw [← eo2] at g1 ⊢
  have hw := hw o2 eo2
  refine hq_getR (o := o2) C hs fX10_encodeField_112 g1 (by decide) rfl dX10_encodeField_4 ?_
  refine lv_aload_n hx hb dX10_encodeField_7 rfl (lv_at hl 3 rfl) ?_
  refine hq_cV (n := 1) (ci := 3) (o := (o2 + 38)) (qc := (TX3, 2)) C hs (c_X3_lowestLike l C.2.2.2.2.1 (o2 + 38) (tc_7_1 g1) v3 hv3 _ _ hw) gX10_encodeField_X3_lowestLike rfl ⟨rfl, rfl⟩ (by decide +kernel) ⟨Nat.le_of_ble_eq_true rfl, Nat.le_of_ble_eq_true rfl⟩ (tc_7_1 g1) (by decide) rfl rfl hl.1 rfl (Nat.le_of_ble_eq_true rfl) dX10_encodeField_8 (hq_ki (fun x3 M9 H locs rx3 hw hs => ?_))
  obtain ⟨e9, hw⟩ := hw; rw [e9] at hs
  refine lv_istore (lv' := [(4, .int (w3 x3)), (0, .ref (B + v0)), (1, .ref (B + v1)), (2, .int (w3 v2)), (3, .ref (B + v3))]) hx hb dX10_encodeField_11 hl (by decide) rfl (fun ls hl => ?_)
  refine lv_iload hx hb dX10_encodeField_13 (lv_at hl 0 rfl) ?_
  refine hq_if_lt (tgt := 33) C rx3 dX10_encodeField_15 (by decide) (fun h => ?_) (fun h => ?_)
  · have hw := hw.1 h
    refine lv_aload_n hx hb dX10_encodeField_33 rfl (lv_at hl 1 rfl) ?_
    refine hq_getR (o := v0) C hs fX10_encodeField_12 hv0 (by decide) rfl dX10_encodeField_34 ?_
    refine lv_iload_n hx hb dX10_encodeField_37 rfl (lv_at hl 3 rfl) ?_
    refine lv_aload_n hx hb dX10_encodeField_38 rfl (lv_at hl 1 rfl) ?_
    refine hq_cV (n := 0) (ci := 10) (o := v0) (qc := (TX10, 8)) C hs (c_X10_top l C.2.2.2.2.1 v0 hv0 _ _ hw) gX10_encodeField_X10_top rfl ⟨rfl, rfl⟩ (by decide +kernel) ⟨Nat.le_of_ble_eq_true rfl, Nat.le_of_ble_eq_true rfl⟩ hv0 (by decide) rfl rfl hl.1 rfl (Nat.le_of_ble_eq_true rfl) dX10_encodeField_39 (hq_ki (fun x4 M9 H locs rx4 hw hs => ?_))
    obtain ⟨e9, hw⟩ := hw; rw [e9] at hs
    refine hq_cV (n := 2) (ci := 9) (o := (v0 + 1)) (qc := (TX9, 7)) C hs (c_X9_highestLike l C.2.2.2.2.1 (v0 + 1) (tc_10_0 hv0) v2 rv2 x4 rx4 _ _ hw) gX10_encodeField_X9_highestLike rfl ⟨rfl, rfl⟩ (by decide +kernel) ⟨Nat.le_of_ble_eq_true rfl, Nat.le_of_ble_eq_true rfl⟩ (tc_10_0 hv0) (by decide) rfl rfl hl.1 rfl (Nat.le_of_ble_eq_true rfl) dX10_encodeField_42 (hq_ki (fun x5 M9 H locs rx5 hw hs => ?_))
    obtain ⟨e9, hw⟩ := hw; rw [e9] at hs
    refine lv_istore (lv' := [(5, .int (w3 x5)), (4, .int (w3 x3)), (0, .ref (B + v0)), (1, .ref (B + v1)), (2, .int (w3 v2)), (3, .ref (B + v3))]) hx hb dX10_encodeField_45 hl (by decide) rfl (fun ls hl => ?_)
    refine lv_iload hx hb dX10_encodeField_47 (lv_at hl 0 rfl) ?_
    refine hq_if_ge (tgt := 66) C rx5 dX10_encodeField_49 (by decide) (fun h => ?_) (fun h => ?_)
    · have hw := hw.1 h
      refine cb_X10_encodeField_66 v0 hv0 v1 hv1 v3 hv3 x5 rx5 C hw hs (lv_sub hl [2, 3, 5, 0] rfl) 
    · have hw := hw.2 h
      refine lv_aload_n hx hb dX10_encodeField_52 rfl (lv_at hl 2 rfl) ?_
      refine hq_getZ (o := v0) C hs fX10_encodeField_154 hv0 (by decide) rfl dX10_encodeField_53 (fun g6 => ?_)
      refine hq_if_eq (tgt := 66) C (rb_rg g6) dX10_encodeField_56 (by decide) (fun h => ?_) (fun h => ?_)
      · have hw := hw.1 h
        refine cb_X10_encodeField_66 v0 hv0 v1 hv1 v3 hv3 x5 rx5 C hw hs (lv_sub hl [2, 3, 5, 0] rfl) 
      · have hw := hw.2 h
        refine lv_aload_n hx hb dX10_encodeField_59 rfl (lv_at hl 2 rfl) ?_
        refine lv_iload_n hx hb dX10_encodeField_60 rfl (lv_at hl 4 rfl) ?_
        refine hq_cV (n := 1) (ci := 10) (o := v0) (qc := (TX10, 8)) C hs (c_X10_insertField l C.2.2.2.2.1 v0 hv0 v2 rv2 _ _ hw) gX10_encodeField_X10_insertField rfl ⟨rfl, rfl⟩ (by decide +kernel) ⟨Nat.le_of_ble_eq_true rfl, Nat.le_of_ble_eq_true rfl⟩ hv0 (by decide) rfl rfl hl.1 rfl (Nat.le_of_ble_eq_true rfl) dX10_encodeField_61 (hq_ki (fun x8 M7 H locs rx8 hw hs => ?_))
        refine lv_istore (lv' := [(5, .int (w3 x8)), (4, .int (w3 x3)), (0, .ref (B + v0)), (1, .ref (B + v1)), (2, .int (w3 v2)), (3, .ref (B + v3))]) hx hb dX10_encodeField_64 hl (by decide) rfl (fun ls hl => ?_)
        refine cb_X10_encodeField_66 v0 hv0 v1 hv1 v3 hv3 x8 rx8 C hw hs (lv_sub hl [2, 3, 5, 0] rfl) 
  · have hw := hw.2 h
    refine lv_aload_n hx hb dX10_encodeField_18 rfl (lv_at hl 1 rfl) ?_
    refine hq_getR (o := v0) C hs fX10_encodeField_34 hv0 (by decide) rfl dX10_encodeField_19 ?_
    refine hq_sipush C dX10_encodeField_22 (by decide) ?_
    refine hq_bipush C dX10_encodeField_25 (by decide) ?_
    refine lv_iload hx hb dX10_encodeField_27 (lv_at hl 0 rfl) ?_
    refine hq_cV (n := 3) (ci := 6) (o := (v0 + 12)) (qc := (TX6, 2)) C hs (c_X6_addInteger l C.2.2.2.2.1 (v0 + 12) (tc_10_3 hv0) 192 (by decide : rg 192) 6 (by decide : rg 6) x3 rx3 _ _ hw) gX10_encodeField_X6_addInteger rfl ⟨rfl, rfl⟩ (by decide +kernel) ⟨Nat.le_of_ble_eq_true rfl, Nat.le_of_ble_eq_true rfl⟩ (tc_10_3 hv0) (by decide) rfl rfl hl.1 rfl (Nat.le_of_ble_eq_true rfl) dX10_encodeField_29 (hq_kv (fun M9 H locs hw hs => ?_))
    exact hq_vret C hs hw dX10_encodeField_32
theorem iX10_encodeStart_0 : ∀ w ∈ u_ws RX0 TX0 8, w ∈ wsX10_encodeStart := fun w h => List.mem_cons_of_mem _ (List.mem_append_left _ (List.mem_append_right _ h))
theorem iX10_encodeStart_7 : ∀ w ∈ u_ws RX7 TX7 4, w ∈ wsX10_encodeStart := fun w h => List.mem_cons_of_mem _ (List.mem_append_left _ (List.mem_append_left _ (List.mem_append_right _ h)))
theorem iX10_encodeStart_10 : ∀ w ∈ u_ws RX10 TX10 8, w ∈ wsX10_encodeStart := fun w h => List.mem_cons_of_mem _ (List.mem_append_left _ (List.mem_append_left _ (List.mem_append_left _ (List.mem_append_right _ h))))
set_option maxRecDepth 20000 in
theorem fX10_encodeStart_37 : hq_fl vwCl wsX10_encodeStart RX10 37 10 4 false (.object "HeadTables$Settings") := ⟨RX10, TX10, 8, tyX10, rfl, by decide, iX10_encodeStart_10, by decide +kernel, rfl, tyX10_ok 4 (by decide), tyX10_ok, nmX10⟩
set_option maxRecDepth 20000 in
theorem fX10_encodeStart_56 : hq_fl vwCl wsX10_encodeStart RX10 56 7 2 false .int := ⟨RX7, TX7, 4, tyX7, rfl, by decide, iX10_encodeStart_7, by decide +kernel, rfl, tyX7_ok 2 (by decide), tyX7_ok, nmX7⟩
set_option maxRecDepth 20000 in
theorem fX10_encodeStart_157 : hq_fl vwCl wsX10_encodeStart RX10 157 0 4 false .int := ⟨RX0, TX0, 8, tyX0, rfl, by decide, iX10_encodeStart_0, by decide +kernel, rfl, tyX0_ok 4 (by decide), tyX0_ok, nmX0⟩
set_option maxRecDepth 20000 in
theorem fX10_encodeStart_177 : hq_fl vwCl wsX10_encodeStart RX10 177 0 2 true (.object "HeadTables$Row") := ⟨RX0, TX0, 8, tyX0, rfl, by decide, iX10_encodeStart_0, by decide +kernel, rfl, tyX0_ok 2 (by decide), tyX0_ok, nmX0⟩
set_option maxRecDepth 20000 in
theorem fX10_encodeStart_184 : hq_fl vwCl wsX10_encodeStart RX10 184 0 3 false .int := ⟨RX0, TX0, 8, tyX0, rfl, by decide, iX10_encodeStart_0, by decide +kernel, rfl, tyX0_ok 3 (by decide), tyX0_ok, nmX0⟩
set_option maxHeartbeats 4000000 in
set_option maxRecDepth 100000 in
theorem cb_X10_encodeStart_23 {p : Program} {l : Launch} {e : Env} {s : State} {m : MethodId} {args : Array Value} {below : List Frame} {meth : Method} {c : Code} {D : va_G} {cA : Nat → ClassId} {B : Nat} {Z : State → Prop} (v1 : Nat) (hv1 : YC[v1]? = some (0, 0))  {k : hq_M → Prop} {M : hq_M} {H : Heap} {locs : List Loc} {ls : Array Slot} (C : hq_C vwCl p m c cX10_encodeStart 3 s args wsX10_encodeStart RX10 meth none D cA (hq_in B YC.length) Z)
    (hw : b_X10_encodeStart_23 v1 k M) (hs : hq_S vwCl SLx D cA YC B s.heap M H locs) (hl : lv_has ls 3 [(1, .ref (B + v1))])
     : W p l e ({ frames := 2, cells := 0, slots := 0, locals := 47 } : Room) s m args below meth c H locs 0 0 (MQ below (hq_Q vwCl SLx D cA YC B (hq_qv k)) args s 0 0 (hq_in B YC.length)) (F0 m 23 ls []) := by
  have hx := C.1.1
  have hb := C.1.2.1
  unfold b_X10_encodeStart_23 at hw
  refine lv_aload_n hx hb dX10_encodeStart_23 rfl (lv_at hl 0 rfl) ?_
  refine hq_getR (o := v1) C hs fX10_encodeStart_177 hv1 (by decide) rfl dX10_encodeStart_24 ?_
  refine hq_iconst C dX10_encodeStart_27 ?_
  refine hq_bipush C dX10_encodeStart_28 (by decide) ?_
  refine hq_iconst C dX10_encodeStart_30 ?_
  refine hq_cV (n := 3) (ci := 6) (o := (v1 + 3)) (qc := (TX6, 2)) C hs (c_X6_addInteger l C.2.2.2.2.1 (v1 + 3) (tc_0_2 hv1) 0 (by decide : rg 0) 8 (by decide : rg 8) 0 (by decide : rg 0) _ _ hw) gX10_encodeStart_X6_addInteger rfl ⟨rfl, rfl⟩ (by decide +kernel) ⟨Nat.le_of_ble_eq_true rfl, Nat.le_of_ble_eq_true rfl⟩ (tc_0_2 hv1) (by decide) rfl rfl hl.1 rfl (Nat.le_of_ble_eq_true rfl) dX10_encodeStart_31 (hq_kv (fun M1 H locs hw hs => ?_))
  refine lv_aload_n hx hb dX10_encodeStart_34 rfl (lv_at hl 0 rfl) ?_
  refine hq_getR (o := v1) C hs fX10_encodeStart_177 hv1 (by decide) rfl dX10_encodeStart_35 ?_
  refine hq_iconst C dX10_encodeStart_38 ?_
  refine hq_bipush C dX10_encodeStart_39 (by decide) ?_
  refine hq_iconst C dX10_encodeStart_41 ?_
  refine hq_cV (n := 3) (ci := 6) (o := (v1 + 3)) (qc := (TX6, 2)) C hs (c_X6_addInteger l C.2.2.2.2.1 (v1 + 3) (tc_0_2 hv1) 0 (by decide : rg 0) 7 (by decide : rg 7) 0 (by decide : rg 0) _ _ hw) gX10_encodeStart_X6_addInteger rfl ⟨rfl, rfl⟩ (by decide +kernel) ⟨Nat.le_of_ble_eq_true rfl, Nat.le_of_ble_eq_true rfl⟩ (tc_0_2 hv1) (by decide) rfl rfl hl.1 rfl (Nat.le_of_ble_eq_true rfl) dX10_encodeStart_42 (hq_kv (fun M2 H locs hw hs => ?_))
  exact hq_vret C hs hw dX10_encodeStart_45
set_option maxHeartbeats 4000000 in
set_option maxRecDepth 100000 in
theorem c_X10_encodeStart (l : Launch) {D : va_G} {cA : Nat → ClassId} {B : Nat} {Z : State → Prop} (hZ : hq_Zo Z (hq_in B YC.length)) (v0 : Nat) (hv0 : YC[v0]? = some (10, 0)) (v1 : Nat) (hv1 : YC[v1]? = some (0, 0)) (M : hq_M) (k : hq_M → Prop) (hw : w_X10_encodeStart v0 v1 M k) : hq_T vwCl SLx l yX10_encodeStart wsX10_encodeStart ({ frames := 2, cells := 0, slots := 0, locals := 47 } : Room) D cA YC B Z [.ref (B + v0), .ref (B + v1)] M (hq_qv k) := by
  refine hq_meth (cc := cX10_encodeStart) (maxL := 3) (ret := none) (own := RX10) hZ rfl (by decide +kernel) rfl (Nat.le_of_ble_eq_true rfl) ?_
  intro p e s m below meth c ls C hs hl
  have hx := C.1.1
  have hb := C.1.2.1
  unfold w_X10_encodeStart at hw
  have hl : lv_has ls 3 [(0, .ref (B + v0)), (1, .ref (B + v1))] := hl
  refine lv_aload_n hx hb dX10_encodeStart_0 rfl (lv_at hl 0 rfl) ?_
  refine hq_getS (o := v0) C hs fX10_encodeStart_37 hv0 (by decide) rfl dX10_encodeStart_1 (fun g1 => ?_)
  obtain ⟨o2, eo2⟩ : ∃ y : Nat, y = (M v0 4).toNat := ⟨_, rfl⟩
  rw [← eo2] at g1 ⊢
  have hw := hw o2 eo2
  refine hq_getI (o := o2) C hs fX10_encodeStart_56 g1 (by decide) rfl dX10_encodeStart_4 (fun g3 => ?_)
  refine hq_iconst C dX10_encodeStart_7 ?_
  obtain ⟨g4, hw⟩ := hw
  refine hq_idiv C g3 (by decide : rg 4) g4 dX10_encodeStart_8 ?_
  refine hq_iconst C dX10_encodeStart_9 ?_
  obtain ⟨g5, hw⟩ := hw
  refine hq_imul C dX10_encodeStart_10 ?_
  refine hq_nm (fun x6 ex6 => ?_)
  have hw := hw x6 ex6
  have rx6 : rg x6 := by rw [ex6]; exact g5
  refine lv_istore_n (lv' := [(2, .int (w3 x6)), (0, .ref (B + v0)), (1, .ref (B + v1))]) hx hb dX10_encodeStart_11 rfl hl (by decide) rfl (fun ls hl => ?_)
  refine lv_aload_n hx hb dX10_encodeStart_12 rfl (lv_at hl 2 rfl) ?_
  refine hq_getI (o := v1) C hs fX10_encodeStart_184 hv1 (by decide) rfl dX10_encodeStart_13 (fun g7 => ?_)
  refine hq_if_eq (tgt := 23) C g7 dX10_encodeStart_16 (by decide) (fun h => ?_) (fun h => ?_)
  · have hw := hw.1 h
    refine cb_X10_encodeStart_23 v1 hv1 C hw hs (lv_sub hl [2] rfl) 
  · have hw := hw.2 h
    refine lv_iload_n hx hb dX10_encodeStart_19 rfl (lv_at hl 0 rfl) ?_
    refine hq_if_ne (tgt := 46) C rx6 dX10_encodeStart_20 (by decide) (fun h => ?_) (fun h => ?_)
    · have hw := hw.1 h
      refine lv_aload_n hx hb dX10_encodeStart_46 rfl (lv_at hl 2 rfl) ?_
      refine hq_getR (o := v1) C hs fX10_encodeStart_177 hv1 (by decide) rfl dX10_encodeStart_47 ?_
      refine hq_iconst C dX10_encodeStart_50 ?_
      refine hq_bipush C dX10_encodeStart_51 (by decide) ?_
      refine lv_aload_n hx hb dX10_encodeStart_53 rfl (lv_at hl 2 rfl) ?_
      refine hq_getI (o := v1) C hs fX10_encodeStart_184 hv1 (by decide) rfl dX10_encodeStart_54 (fun g8 => ?_)
      refine lv_iload_n hx hb dX10_encodeStart_57 rfl (lv_at hl 0 rfl) ?_
      obtain ⟨g9, hw⟩ := hw
      refine hq_irem C g8 rx6 g9 dX10_encodeStart_58 ?_
      refine hq_iconst C dX10_encodeStart_59 ?_
      obtain ⟨g10, hw⟩ := hw
      refine hq_iadd C dX10_encodeStart_60 ?_
      refine hq_cV (n := 3) (ci := 6) (o := (v1 + 3)) (qc := (TX6, 2)) C hs (c_X6_addInteger l C.2.2.2.2.1 (v1 + 3) (tc_0_2 hv1) 0 (by decide : rg 0) 8 (by decide : rg 8) (((M v1 3) % x6) + 1) g10 _ _ hw) gX10_encodeStart_X6_addInteger rfl ⟨rfl, rfl⟩ (by decide +kernel) ⟨Nat.le_of_ble_eq_true rfl, Nat.le_of_ble_eq_true rfl⟩ (tc_0_2 hv1) (by decide) rfl rfl hl.1 rfl (Nat.le_of_ble_eq_true rfl) dX10_encodeStart_61 (hq_kv (fun M11 H locs hw hs => ?_))
      refine lv_aload_n hx hb dX10_encodeStart_64 rfl (lv_at hl 2 rfl) ?_
      refine hq_getI (o := v1) C hs fX10_encodeStart_157 hv1 (by decide) rfl dX10_encodeStart_65 (fun g12 => ?_)
      refine lv_aload_n hx hb dX10_encodeStart_68 rfl (lv_at hl 2 rfl) ?_
      refine hq_getI (o := v1) C hs fX10_encodeStart_184 hv1 (by decide) rfl dX10_encodeStart_69 (fun g13 => ?_)
      refine hq_icmp_lt (tgt := 97) C g12 g13 dX10_encodeStart_72 (by decide) (fun h => ?_) (fun h => ?_)
      · have hw := hw.1 h
        refine lv_aload_n hx hb dX10_encodeStart_97 rfl (lv_at hl 2 rfl) ?_
        refine hq_getR (o := v1) C hs fX10_encodeStart_177 hv1 (by decide) rfl dX10_encodeStart_98 ?_
        refine hq_sipush C dX10_encodeStart_101 (by decide) ?_
        refine hq_bipush C dX10_encodeStart_104 (by decide) ?_
        refine lv_aload_n hx hb dX10_encodeStart_106 rfl (lv_at hl 2 rfl) ?_
        refine hq_getI (o := v1) C hs fX10_encodeStart_184 hv1 (by decide) rfl dX10_encodeStart_107 (fun g14 => ?_)
        refine lv_aload_n hx hb dX10_encodeStart_110 rfl (lv_at hl 2 rfl) ?_
        refine hq_getI (o := v1) C hs fX10_encodeStart_157 hv1 (by decide) rfl dX10_encodeStart_111 (fun g15 => ?_)
        obtain ⟨g16, hw⟩ := hw
        refine hq_isub C dX10_encodeStart_114 ?_
        refine hq_iconst C dX10_encodeStart_115 ?_
        obtain ⟨g17, hw⟩ := hw
        refine hq_isub C dX10_encodeStart_116 ?_
        refine hq_cV (n := 3) (ci := 6) (o := (v1 + 3)) (qc := (TX6, 2)) C hs (c_X6_addInteger l C.2.2.2.2.1 (v1 + 3) (tc_0_2 hv1) 128 (by decide : rg 128) 7 (by decide : rg 7) (((M11 v1 3) - (M11 v1 4)) - 1) g17 _ _ hw) gX10_encodeStart_X6_addInteger rfl ⟨rfl, rfl⟩ (by decide +kernel) ⟨Nat.le_of_ble_eq_true rfl, Nat.le_of_ble_eq_true rfl⟩ (tc_0_2 hv1) (by decide) rfl rfl hl.1 rfl (Nat.le_of_ble_eq_true rfl) dX10_encodeStart_117 (hq_kv (fun M18 H locs hw hs => ?_))
        exact hq_vret C hs hw dX10_encodeStart_120
      · have hw := hw.2 h
        refine lv_aload_n hx hb dX10_encodeStart_75 rfl (lv_at hl 2 rfl) ?_
        refine hq_getR (o := v1) C hs fX10_encodeStart_177 hv1 (by decide) rfl dX10_encodeStart_76 ?_
        refine hq_iconst C dX10_encodeStart_79 ?_
        refine hq_bipush C dX10_encodeStart_80 (by decide) ?_
        refine lv_aload_n hx hb dX10_encodeStart_82 rfl (lv_at hl 2 rfl) ?_
        refine hq_getI (o := v1) C hs fX10_encodeStart_157 hv1 (by decide) rfl dX10_encodeStart_83 (fun g19 => ?_)
        refine lv_aload_n hx hb dX10_encodeStart_86 rfl (lv_at hl 2 rfl) ?_
        refine hq_getI (o := v1) C hs fX10_encodeStart_184 hv1 (by decide) rfl dX10_encodeStart_87 (fun g20 => ?_)
        obtain ⟨g21, hw⟩ := hw
        refine hq_isub C dX10_encodeStart_90 ?_
        refine hq_cV (n := 3) (ci := 6) (o := (v1 + 3)) (qc := (TX6, 2)) C hs (c_X6_addInteger l C.2.2.2.2.1 (v1 + 3) (tc_0_2 hv1) 0 (by decide : rg 0) 7 (by decide : rg 7) ((M11 v1 4) - (M11 v1 3)) g21 _ _ hw) gX10_encodeStart_X6_addInteger rfl ⟨rfl, rfl⟩ (by decide +kernel) ⟨Nat.le_of_ble_eq_true rfl, Nat.le_of_ble_eq_true rfl⟩ (tc_0_2 hv1) (by decide) rfl rfl hl.1 rfl (Nat.le_of_ble_eq_true rfl) dX10_encodeStart_91 (hq_kv (fun M22 H locs hw hs => ?_))
        refine hq_goto (tgt := 120) C dX10_encodeStart_94 (by decide) ?_
        exact hq_vret C hs hw dX10_encodeStart_120
    · have hw := hw.2 h
      refine cb_X10_encodeStart_23 v1 hv1 C hw hs (lv_sub hl [2] rfl) 
theorem iX10_encode_0 : ∀ w ∈ u_ws RX0 TX0 8, w ∈ wsX10_encode := fun w h => List.mem_cons_of_mem _ (List.mem_append_left _ (List.mem_append_left _ (List.mem_append_left _ (List.mem_append_left _ (List.mem_append_left _ (List.mem_append_right _ h))))))
theorem iX10_encode_6 : ∀ w ∈ u_ws RX6 TX6 2, w ∈ wsX10_encode := fun w h => List.mem_cons_of_mem _ (List.mem_append_left _ (List.mem_append_left _ (List.mem_append_left _ (List.mem_append_left _ (List.mem_append_right _ h)))))
theorem iX10_encode_7 : ∀ w ∈ u_ws RX7 TX7 4, w ∈ wsX10_encode := fun w h => List.mem_cons_of_mem _ (List.mem_append_left _ (List.mem_append_left _ (List.mem_append_left _ (List.mem_append_right _ h))))
theorem iX10_encode_9 : ∀ w ∈ u_ws RX9 TX9 7, w ∈ wsX10_encode := fun w h => List.mem_cons_of_mem _ (List.mem_append_left _ (List.mem_append_left _ (List.mem_append_left _ (List.mem_append_left _ (List.mem_append_left _ (List.mem_append_left _ (List.mem_append_right _ h)))))))
theorem iX10_encode_10 : ∀ w ∈ u_ws RX10 TX10 8, w ∈ wsX10_encode := fun w h => List.mem_cons_of_mem _ (List.mem_append_left _ (List.mem_append_left _ (List.mem_append_left _ (List.mem_append_left _ (List.mem_append_left _ (List.mem_append_left _ (List.mem_append_left _ (List.mem_append_right _ h))))))))
set_option maxRecDepth 20000 in
theorem fX10_encode_12 : hq_fl vwCl wsX10_encode RX10 12 10 0 true (.object "HeadTables$Table") := ⟨RX10, TX10, 8, tyX10, rfl, by decide, iX10_encode_10, by decide +kernel, rfl, tyX10_ok 0 (by decide), tyX10_ok, nmX10⟩
set_option maxRecDepth 20000 in
theorem fX10_encode_34 : hq_fl vwCl wsX10_encode RX10 34 10 3 true (.object "HeadTables$Row") := ⟨RX10, TX10, 8, tyX10, rfl, by decide, iX10_encode_10, by decide +kernel, rfl, tyX10_ok 3 (by decide), tyX10_ok, nmX10⟩
set_option maxRecDepth 20000 in
theorem fX10_encode_37 : hq_fl vwCl wsX10_encode RX10 37 10 4 false (.object "HeadTables$Settings") := ⟨RX10, TX10, 8, tyX10, rfl, by decide, iX10_encode_10, by decide +kernel, rfl, tyX10_ok 4 (by decide), tyX10_ok, nmX10⟩
set_option maxRecDepth 20000 in
theorem fX10_encode_88 : hq_fl vwCl wsX10_encode RX10 88 7 0 true (.object "HeadTables$Pairs") := ⟨RX7, TX7, 4, tyX7, rfl, by decide, iX10_encode_7, by decide +kernel, rfl, tyX7_ok 0 (by decide), tyX7_ok, nmX7⟩
set_option maxRecDepth 20000 in
theorem fX10_encode_122 : hq_fl vwCl wsX10_encode RX10 122 9 3 false .int := ⟨RX9, TX9, 7, tyX9, rfl, by decide, iX10_encode_9, by decide +kernel, rfl, tyX9_ok 3 (by decide), tyX9_ok, nmX9⟩
set_option maxRecDepth 20000 in
theorem fX10_encode_150 : hq_fl vwCl wsX10_encode RX10 150 10 6 false .boolean := ⟨RX10, TX10, 8, tyX10, rfl, by decide, iX10_encode_10, by decide +kernel, rfl, tyX10_ok 6 (by decide), tyX10_ok, nmX10⟩
set_option maxRecDepth 20000 in
theorem fX10_encode_154 : hq_fl vwCl wsX10_encode RX10 154 10 7 false .boolean := ⟨RX10, TX10, 8, tyX10, rfl, by decide, iX10_encode_10, by decide +kernel, rfl, tyX10_ok 7 (by decide), tyX10_ok, nmX10⟩
set_option maxRecDepth 20000 in
theorem fX10_encode_157 : hq_fl vwCl wsX10_encode RX10 157 0 4 false .int := ⟨RX0, TX0, 8, tyX0, rfl, by decide, iX10_encode_0, by decide +kernel, rfl, tyX0_ok 4 (by decide), tyX0_ok, nmX0⟩
set_option maxRecDepth 20000 in
theorem fX10_encode_162 : hq_fl vwCl wsX10_encode RX10 162 0 1 true (.object "HeadTables$Row") := ⟨RX0, TX0, 8, tyX0, rfl, by decide, iX10_encode_0, by decide +kernel, rfl, tyX0_ok 1 (by decide), tyX0_ok, nmX0⟩
set_option maxRecDepth 20000 in
theorem fX10_encode_164 : hq_fl vwCl wsX10_encode RX10 164 6 1 false .int := ⟨RX6, TX6, 2, tyX6, rfl, by decide, iX10_encode_6, by decide +kernel, rfl, tyX6_ok 1 (by decide), tyX6_ok, nmX6⟩
set_option maxRecDepth 20000 in
theorem fX10_encode_177 : hq_fl vwCl wsX10_encode RX10 177 0 2 true (.object "HeadTables$Row") := ⟨RX0, TX0, 8, tyX0, rfl, by decide, iX10_encode_0, by decide +kernel, rfl, tyX0_ok 2 (by decide), tyX0_ok, nmX0⟩
set_option maxHeartbeats 4000000 in
set_option maxRecDepth 100000 in
theorem cb_X10_encode_94 {p : Program} {l : Launch} {e : Env} {s : State} {m : MethodId} {args : Array Value} {below : List Frame} {meth : Method} {c : Code} {D : va_G} {cA : Nat → ClassId} {B : Nat} {Z : State → Prop} (v0 : Nat) (hv0 : YC[v0]? = some (10, 0)) (v1 : Nat) (hv1 : YC[v1]? = some (0, 0)) (v4 : Int) (rv4 : rg v4) {k_43 : Int → hq_M → Prop} {k : hq_M → Prop} {M : hq_M} {H : Heap} {locs : List Loc} {ls : Array Slot} (C : hq_C vwCl p m c cX10_encode 7 s args wsX10_encode RX10 meth none D cA (hq_in B YC.length) Z)
    (hw : b_X10_encode_94 v0 v1 v4 k_43 k M) (hs : hq_S vwCl SLx D cA YC B s.heap M H locs) (hl : lv_has ls 7 [(0, .ref (B + v0)), (1, .ref (B + v1)), (4, .int (w3 v4))])
    (hk_43 : ∀ (y4 : Int) (ry4 : rg y4) (M1 : hq_M) (H : Heap) (locs : List Loc) (ls : Array Slot), k_43 y4 M1 → hq_S vwCl SLx D cA YC B s.heap M1 H locs → lv_has ls 7 [(0, .ref (B + v0)), (1, .ref (B + v1)), (4, .int (w3 y4))] → W p l e ({ frames := 6, cells := 0, slots := 0, locals := 136 } : Room) s m args below meth c H locs 0 0 (MQ below (hq_Q vwCl SLx D cA YC B (hq_qv k)) args s 0 0 (hq_in B YC.length)) (F0 m 43 ls [])) : W p l e ({ frames := 6, cells := 0, slots := 0, locals := 136 } : Room) s m args below meth c H locs 0 0 (MQ below (hq_Q vwCl SLx D cA YC B (hq_qv k)) args s 0 0 (hq_in B YC.length)) (F0 m 94 ls []) := by
  have hx := C.1.1
  have hb := C.1.2.1
  unfold b_X10_encode_94 at hw
  obtain ⟨g2, hw⟩ := hw
  refine hq_iinc (k := 2) C dX10_encode_94 hl rfl (by decide) (fun x1 ex1 ls hl => ?_)
  have hw := hw x1 ex1
  have rx1 : rg x1 := by rw [ex1]; exact g2
  have hl : lv_has ls 7 [(4, .int (w3 x1)), (0, .ref (B + v0)), (1, .ref (B + v1))] := hl
  refine hq_goto (tgt := 43) C dX10_encode_97 (by decide) ?_
  exact hk_43 x1 rx1 _ _ _ _ hw hs (lv_sub hl [1, 2, 0] rfl)
set_option maxHeartbeats 4000000 in
set_option maxRecDepth 100000 in
theorem cl_X10_encode_43 {p : Program} {l : Launch} {e : Env} {s : State} {m : MethodId} {args : Array Value} {below : List Frame} {meth : Method} {c : Code} {D : va_G} {cA : Nat → ClassId} {B : Nat} {Z : State → Prop} (v0 : Nat) (hv0 : YC[v0]? = some (10, 0)) (v1 : Nat) (hv1 : YC[v1]? = some (0, 0)) {k_100 : hq_M → Prop} {k : hq_M → Prop} (C : hq_C vwCl p m c cX10_encode 7 s args wsX10_encode RX10 meth none D cA (hq_in B YC.length) Z)
    (hk_100 : ∀ (M1 : hq_M) (H : Heap) (locs : List Loc) (ls : Array Slot), k_100 M1 → hq_S vwCl SLx D cA YC B s.heap M1 H locs → lv_has ls 7 [(0, .ref (B + v0)), (1, .ref (B + v1))] → W p l e ({ frames := 6, cells := 0, slots := 0, locals := 136 } : Room) s m args below meth c H locs 0 0 (MQ below (hq_Q vwCl SLx D cA YC B (hq_qv k)) args s 0 0 (hq_in B YC.length)) (F0 m 100 ls [])) : ∀ (n : Nat) (v4 : Int) (rv4 : rg v4) (M : hq_M) (H : Heap) (locs : List Loc) (ls : Array Slot), l_X10_encode_43 v0 v1 k_100 k n v4 M → hq_S vwCl SLx D cA YC B s.heap M H locs → lv_has ls 7 [(0, .ref (B + v0)), (1, .ref (B + v1)), (4, .int (w3 v4))] → W p l e ({ frames := 6, cells := 0, slots := 0, locals := 136 } : Room) s m args below meth c H locs 0 0 (MQ below (hq_Q vwCl SLx D cA YC B (hq_qv k)) args s 0 0 (hq_in B YC.length)) (F0 m 43 ls []) := by
  have hx := C.1.1
  have hb := C.1.2.1
  intro n
  induction n with
  | zero => intro v4 rv4 M H locs ls hw hs hl; exact hw.elim
  | succ n ih =>
    intro v4 rv4 M H locs ls hw hs hl
    unfold l_X10_encode_43 at hw
    refine lv_iload hx hb dX10_encode_43 (lv_at hl 2 rfl) ?_
    refine lv_aload_n hx hb dX10_encode_45 rfl (lv_at hl 1 rfl) ?_
    refine hq_getR (o := v1) C hs fX10_encode_162 hv1 (by decide) rfl dX10_encode_46 ?_
    refine hq_getI (o := (v1 + 1)) C hs fX10_encode_164 (tc_0_1 hv1) (by decide) rfl dX10_encode_49 (fun g1 => ?_)
    refine hq_icmp_ge (tgt := 100) C rv4 g1 dX10_encode_52 (by decide) (fun h => ?_) (fun h => ?_)
    · have hw := hw.1 h
      exact hk_100 _ _ _ _ hw hs (lv_sub hl [0, 1] rfl)
    · have hw := hw.2 h
      refine lv_aload_n hx hb dX10_encode_55 rfl (lv_at hl 1 rfl) ?_
      refine hq_getR (o := v1) C hs fX10_encode_162 hv1 (by decide) rfl dX10_encode_56 ?_
      refine lv_iload hx hb dX10_encode_59 (lv_at hl 2 rfl) ?_
      refine hq_cV (n := 1) (ci := 6) (o := (v1 + 1)) (qc := (TX6, 2)) C hs (c_X6_at l C.2.2.2.2.1 (v1 + 1) (tc_0_1 hv1) v4 rv4 _ _ hw) gX10_encode_X6_at rfl ⟨rfl, rfl⟩ (by decide +kernel) ⟨Nat.le_of_ble_eq_true rfl, Nat.le_of_ble_eq_true rfl⟩ (tc_0_1 hv1) (by decide) rfl rfl hl.1 rfl (Nat.le_of_ble_eq_true rfl) dX10_encode_61 (hq_ki (fun x2 M9 H locs rx2 hw hs => ?_))
      obtain ⟨e9, hw⟩ := hw; rw [e9] at hs
      refine lv_istore (lv' := [(5, .int (w3 x2)), (0, .ref (B + v0)), (1, .ref (B + v1)), (4, .int (w3 v4))]) hx hb dX10_encode_64 hl (by decide) rfl (fun ls hl => ?_)
      refine lv_aload_n hx hb dX10_encode_66 rfl (lv_at hl 1 rfl) ?_
      refine hq_getS (o := v0) C hs fX10_encode_37 hv0 (by decide) rfl dX10_encode_67 (fun g3 => ?_)
      obtain ⟨o4, eo4⟩ : ∃ y : Nat, y = (M v0 4).toNat := ⟨_, rfl⟩
      rw [← eo4] at g3 ⊢
      have hw := hw o4 eo4
      refine hq_getR (o := o4) C hs fX10_encode_88 g3 (by decide) rfl dX10_encode_70 ?_
      refine lv_iload hx hb dX10_encode_73 (lv_at hl 0 rfl) ?_
      refine hq_cV (n := 1) (ci := 3) (o := (o4 + 1)) (qc := (TX3, 2)) C hs (c_X3_at l C.2.2.2.2.1 (o4 + 1) (tc_7_0 g3) x2 rx2 _ _ hw) gX10_encode_X3_at rfl ⟨rfl, rfl⟩ (by decide +kernel) ⟨Nat.le_of_ble_eq_true rfl, Nat.le_of_ble_eq_true rfl⟩ (tc_7_0 g3) (by decide) rfl rfl hl.1 rfl (Nat.le_of_ble_eq_true rfl) dX10_encode_75 (hq_kr (fun M9 H locs hw hs => ?_) (fun o5 M9 H locs ho5 hw hs => ?_))
      · obtain ⟨e9, hw⟩ := hw; rw [e9] at hs
        have hw := hw.1 rfl
        refine lv_astoreN (lv' := [(6, .null), (5, .int (w3 x2)), (0, .ref (B + v0)), (1, .ref (B + v1)), (4, .int (w3 v4))]) hx hb dX10_encode_78 hl (by decide) rfl (fun ls hl => ?_)
        refine lv_aloadN hx hb dX10_encode_80 (lv_at hl 0 rfl) ?_
        refine lv_ifnullN (tgt := 94) hx hb dX10_encode_82 (by decide) ?_
        refine cb_X10_encode_94 v0 hv0 v1 hv1 v4 rv4 C hw hs (lv_sub hl [2, 3, 4] rfl) ?_
        · intro y4 ry4 M H locs ls hw hs hl
          exact ih y4 ry4 _ _ _ _ hw hs (lv_sub hl [0, 1, 2] rfl)
      · obtain ⟨e9, hw⟩ := hw; rw [e9] at hs
        have hw := hw.2 o5 rfl
        refine lv_astore (lv' := [(6, .ref (B + o5)), (5, .int (w3 x2)), (0, .ref (B + v0)), (1, .ref (B + v1)), (4, .int (w3 v4))]) hx hb dX10_encode_78 hl (by decide) rfl (fun ls hl => ?_)
        refine lv_aload hx hb dX10_encode_80 (lv_at hl 0 rfl) ?_
        refine lv_ifnull hx hb dX10_encode_82 ?_
        refine lv_aload_n hx hb dX10_encode_85 rfl (lv_at hl 2 rfl) ?_
        refine lv_aload_n hx hb dX10_encode_86 rfl (lv_at hl 3 rfl) ?_
        refine lv_iload hx hb dX10_encode_87 (lv_at hl 1 rfl) ?_
        refine lv_aload hx hb dX10_encode_89 (lv_at hl 0 rfl) ?_
        refine hq_cV (n := 3) (ci := 10) (o := v0) (qc := (TX10, 8)) C hs (c_X10_encodeField l C.2.2.2.2.1 v0 hv0 v1 hv1 x2 rx2 o5 ho5 _ _ hw) gX10_encode_X10_encodeField rfl ⟨rfl, rfl⟩ (by decide +kernel) ⟨Nat.le_of_ble_eq_true rfl, Nat.le_of_ble_eq_true rfl⟩ hv0 (by decide) rfl rfl hl.1 rfl (Nat.le_of_ble_eq_true rfl) dX10_encode_91 (hq_kv (fun M7 H locs hw hs => ?_))
        refine cb_X10_encode_94 v0 hv0 v1 hv1 v4 rv4 C hw hs (lv_sub hl [2, 3, 4] rfl) ?_
        · intro y4 ry4 M H locs ls hw hs hl
          exact ih y4 ry4 _ _ _ _ hw hs (lv_sub hl [0, 1, 2] rfl)
set_option maxHeartbeats 4000000 in
set_option maxRecDepth 100000 in
theorem cb_X10_encode_19 {p : Program} {l : Launch} {e : Env} {s : State} {m : MethodId} {args : Array Value} {below : List Frame} {meth : Method} {c : Code} {D : va_G} {cA : Nat → ClassId} {B : Nat} {Z : State → Prop} (v0 : Nat) (hv0 : YC[v0]? = some (10, 0)) (v1 : Nat) (hv1 : YC[v1]? = some (0, 0)) (t0 : Nat) (ht0 : YC[t0]? = some (10, 0)) (t1 : Int) (rt1 : rb t1)  {k : hq_M → Prop} {M : hq_M} {H : Heap} {locs : List Loc} {ls : Array Slot} (C : hq_C vwCl p m c cX10_encode 7 s args wsX10_encode RX10 meth none D cA (hq_in B YC.length) Z)
    (hw : b_X10_encode_19 v0 v1 t0 t1 k M) (hs : hq_S vwCl SLx D cA YC B s.heap M H locs) (hl : lv_has ls 7 [(0, .ref (B + v0)), (1, .ref (B + v1))])
     : W p l e ({ frames := 6, cells := 0, slots := 0, locals := 136 } : Room) s m args below meth c H locs 0 0 (MQ below (hq_Q vwCl SLx D cA YC B (hq_qv k)) args s 0 0 (hq_in B YC.length)) (F0 m 19 ls [.int (w3 t1), .ref (B + t0)]) := by
  have hx := C.1.1
  have hb := C.1.2.1
  unfold b_X10_encode_19 at hw
  refine hq_putZ (o := t0) C hs fX10_encode_154 ht0 (by decide) rfl rt1 dX10_encode_19 (fun M1 eM1 H locs hs => ?_)
  have hw := hw M1 eM1
  refine lv_aload_n hx hb dX10_encode_22 rfl (lv_at hl 1 rfl) ?_
  refine lv_aload_n hx hb dX10_encode_23 rfl (lv_at hl 0 rfl) ?_
  refine hq_getR (o := v0) C hs fX10_encode_12 hv0 (by decide) rfl dX10_encode_24 ?_
  refine hq_getI (o := (v0 + 1)) C hs fX10_encode_122 (tc_10_0 hv0) (by decide) rfl dX10_encode_27 (fun g2 => ?_)
  refine hq_putI (o := v1) C hs fX10_encode_157 hv1 (by decide) rfl g2 dX10_encode_30 (fun M3 eM3 H locs hs => ?_)
  have hw := hw M3 eM3
  refine lv_aload_n hx hb dX10_encode_33 rfl (lv_at hl 0 rfl) ?_
  refine hq_getR (o := v0) C hs fX10_encode_34 hv0 (by decide) rfl dX10_encode_34 ?_
  refine hq_cV (n := 0) (ci := 6) (o := (v0 + 12)) (qc := (TX6, 2)) C hs (c_X6_empty l C.2.2.2.2.1 (v0 + 12) (tc_10_3 hv0) _ _ hw) gX10_encode_X6_empty rfl ⟨rfl, rfl⟩ (by decide +kernel) ⟨Nat.le_of_ble_eq_true rfl, Nat.le_of_ble_eq_true rfl⟩ (tc_10_3 hv0) (by decide) rfl rfl hl.1 rfl (Nat.le_of_ble_eq_true rfl) dX10_encode_37 (hq_kv (fun M4 H locs hw hs => ?_))
  refine hq_iconst C dX10_encode_40 ?_
  refine lv_istore (lv' := [(4, .int (w3 0)), (0, .ref (B + v0)), (1, .ref (B + v1))]) hx hb dX10_encode_41 hl (by decide) rfl (fun ls hl => ?_)
  obtain ⟨n9, hw⟩ := hw
  refine cl_X10_encode_43 v0 hv0 v1 hv1 C ?_ n9 0 (by decide : rg 0) _ _ _ _ hw hs (lv_sub hl [1, 2, 0] rfl)
  · intro M5 H locs ls hw hs hl
    refine lv_aload_n hx hb dX10_encode_100 rfl (lv_at hl 0 rfl) ?_
    refine lv_aload_n hx hb dX10_encode_101 rfl (lv_at hl 1 rfl) ?_
    refine hq_cV (n := 1) (ci := 10) (o := v0) (qc := (TX10, 8)) C hs (c_X10_encodeStart l C.2.2.2.2.1 v0 hv0 v1 hv1 _ _ hw) gX10_encode_X10_encodeStart rfl ⟨rfl, rfl⟩ (by decide +kernel) ⟨Nat.le_of_ble_eq_true rfl, Nat.le_of_ble_eq_true rfl⟩ hv0 (by decide) rfl rfl hl.1 rfl (Nat.le_of_ble_eq_true rfl) dX10_encode_102 (hq_kv (fun M6 H locs hw hs => ?_))
    refine lv_aload_n hx hb dX10_encode_105 rfl (lv_at hl 1 rfl) ?_
    refine hq_getR (o := v1) C hs fX10_encode_177 hv1 (by decide) rfl dX10_encode_106 ?_
    refine lv_aload_n hx hb dX10_encode_109 rfl (lv_at hl 0 rfl) ?_
    refine hq_getR (o := v0) C hs fX10_encode_34 hv0 (by decide) rfl dX10_encode_110 ?_
    refine hq_cV (n := 1) (ci := 6) (o := (v1 + 3)) (qc := (TX6, 2)) C hs (c_X6_addAll l C.2.2.2.2.1 (v1 + 3) (tc_0_2 hv1) (v0 + 12) (tc_10_3 hv0) _ _ hw) gX10_encode_X6_addAll rfl ⟨rfl, rfl⟩ (by decide +kernel) ⟨Nat.le_of_ble_eq_true rfl, Nat.le_of_ble_eq_true rfl⟩ (tc_0_2 hv1) (by decide) rfl rfl hl.1 rfl (Nat.le_of_ble_eq_true rfl) dX10_encode_113 (hq_kv (fun M7 H locs hw hs => ?_))
    exact hq_vret C hs hw dX10_encode_116
set_option maxHeartbeats 4000000 in
set_option maxRecDepth 100000 in
theorem cb_X10_encode_18 {p : Program} {l : Launch} {e : Env} {s : State} {m : MethodId} {args : Array Value} {below : List Frame} {meth : Method} {c : Code} {D : va_G} {cA : Nat → ClassId} {B : Nat} {Z : State → Prop} (v0 : Nat) (hv0 : YC[v0]? = some (10, 0)) (v1 : Nat) (hv1 : YC[v1]? = some (0, 0)) (t0 : Nat) (ht0 : YC[t0]? = some (10, 0))  {k : hq_M → Prop} {M : hq_M} {H : Heap} {locs : List Loc} {ls : Array Slot} (C : hq_C vwCl p m c cX10_encode 7 s args wsX10_encode RX10 meth none D cA (hq_in B YC.length) Z)
    (hw : b_X10_encode_18 v0 v1 t0 k M) (hs : hq_S vwCl SLx D cA YC B s.heap M H locs) (hl : lv_has ls 7 [(0, .ref (B + v0)), (1, .ref (B + v1))])
     : W p l e ({ frames := 6, cells := 0, slots := 0, locals := 136 } : Room) s m args below meth c H locs 0 0 (MQ below (hq_Q vwCl SLx D cA YC B (hq_qv k)) args s 0 0 (hq_in B YC.length)) (F0 m 18 ls [.ref (B + t0)]) := by
  have hx := C.1.1
  have hb := C.1.2.1
  unfold b_X10_encode_18 at hw
  refine hq_iconst C dX10_encode_18 ?_
  refine cb_X10_encode_19 v0 hv0 v1 hv1 t0 ht0 0 (by decide) C hw hs (lv_sub hl [0, 1] rfl) 
set_option maxHeartbeats 4000000 in
set_option maxRecDepth 100000 in
theorem c_X10_encode (l : Launch) {D : va_G} {cA : Nat → ClassId} {B : Nat} {Z : State → Prop} (hZ : hq_Zo Z (hq_in B YC.length)) (v0 : Nat) (hv0 : YC[v0]? = some (10, 0)) (v1 : Nat) (hv1 : YC[v1]? = some (0, 0)) (v2 : Int) (rv2 : rb v2) (v3 : Int) (rv3 : rb v3) (M : hq_M) (k : hq_M → Prop) (hw : w_X10_encode v0 v1 v2 v3 M k) : hq_T vwCl SLx l yX10_encode wsX10_encode ({ frames := 6, cells := 0, slots := 0, locals := 136 } : Room) D cA YC B Z [.ref (B + v0), .ref (B + v1), .int (w3 v2), .int (w3 v3)] M (hq_qv k) := by
  refine hq_meth (cc := cX10_encode) (maxL := 7) (ret := none) (own := RX10) hZ rfl (by decide +kernel) rfl (Nat.le_of_ble_eq_true rfl) ?_
  intro p e s m below meth c ls C hs hl
  have hx := C.1.1
  have hb := C.1.2.1
  unfold w_X10_encode at hw
  have hl : lv_has ls 7 [(0, .ref (B + v0)), (1, .ref (B + v1)), (2, .int (w3 v2)), (3, .int (w3 v3))] := hl
  refine lv_aload_n hx hb dX10_encode_0 rfl (lv_at hl 0 rfl) ?_
  refine lv_iload_n hx hb dX10_encode_1 rfl (lv_at hl 2 rfl) ?_
  refine hq_putZ (o := v0) C hs fX10_encode_150 hv0 (by decide) rfl rv2 dX10_encode_2 (fun M1 eM1 H locs hs => ?_)
  have hw := hw M1 eM1
  refine lv_aload_n hx hb dX10_encode_5 rfl (lv_at hl 0 rfl) ?_
  refine lv_iload_n hx hb dX10_encode_6 rfl (lv_at hl 2 rfl) ?_
  refine hq_if_eq (tgt := 18) C (rb_rg rv2) dX10_encode_7 (by decide) (fun h => ?_) (fun h => ?_)
  · have hw := hw.1 h
    refine cb_X10_encode_18 v0 hv0 v1 hv1 v0 hv0 C hw hs (lv_sub hl [0, 1] rfl) 
  · have hw := hw.2 h
    refine lv_iload_n hx hb dX10_encode_10 rfl (lv_at hl 3 rfl) ?_
    refine hq_if_eq (tgt := 18) C (rb_rg rv3) dX10_encode_11 (by decide) (fun h => ?_) (fun h => ?_)
    · have hw := hw.1 h
      refine cb_X10_encode_18 v0 hv0 v1 hv1 v0 hv0 C hw hs (lv_sub hl [0, 1] rfl) 
    · have hw := hw.2 h
      refine hq_iconst C dX10_encode_14 ?_
      refine hq_goto (tgt := 19) C dX10_encode_15 (by decide) ?_
      refine cb_X10_encode_19 v0 hv0 v1 hv1 v0 hv0 1 (by decide) C hw hs (lv_sub hl [0, 1] rfl) 
theorem iX10_hear_0 : ∀ w ∈ u_ws RX0 TX0 8, w ∈ wsX10_hear := fun w h => List.mem_cons_of_mem _ (List.mem_append_left _ (List.mem_append_left _ (List.mem_append_right _ h)))
theorem iX10_hear_10 : ∀ w ∈ u_ws RX10 TX10 8, w ∈ wsX10_hear := fun w h => List.mem_cons_of_mem _ (List.mem_append_left _ (List.mem_append_left _ (List.mem_append_left _ (List.mem_append_right _ h))))
set_option maxRecDepth 20000 in
theorem fX10_hear_12 : hq_fl vwCl wsX10_hear RX10 12 10 0 true (.object "HeadTables$Table") := ⟨RX10, TX10, 8, tyX10, rfl, by decide, iX10_hear_10, by decide +kernel, rfl, tyX10_ok 0 (by decide), tyX10_ok, nmX10⟩
set_option maxRecDepth 20000 in
theorem fX10_hear_45 : hq_fl vwCl wsX10_hear RX10 45 10 5 false .int := ⟨RX10, TX10, 8, tyX10, rfl, by decide, iX10_hear_10, by decide +kernel, rfl, tyX10_ok 5 (by decide), tyX10_ok, nmX10⟩
set_option maxRecDepth 20000 in
theorem fX10_hear_184 : hq_fl vwCl wsX10_hear RX10 184 0 3 false .int := ⟨RX0, TX0, 8, tyX0, rfl, by decide, iX10_hear_0, by decide +kernel, rfl, tyX0_ok 3 (by decide), tyX0_ok, nmX0⟩
set_option maxRecDepth 20000 in
theorem fX10_hear_212 : hq_fl vwCl wsX10_hear RX10 212 0 0 true .int := ⟨RX0, TX0, 8, tyX0, rfl, by decide, iX10_hear_0, by decide +kernel, rfl, tyX0_ok 0 (by decide), tyX0_ok, nmX0⟩
set_option maxRecDepth 20000 in
theorem fX10_hear_224 : hq_fl vwCl wsX10_hear RX10 224 0 7 false .boolean := ⟨RX0, TX0, 8, tyX0, rfl, by decide, iX10_hear_0, by decide +kernel, rfl, tyX0_ok 7 (by decide), tyX0_ok, nmX0⟩
set_option maxRecDepth 20000 in
theorem mX10_hear_207 : Cond.methodLink RX10 207 Lib.Math.max.name ∈ wsX10_hear ∧ Cond.static Lib.Math.max.name ∈ wsX10_hear ∧ Cond.initialized "java/lang/Math" ∈ wsX10_hear ∧ Cond.code Lib.Math.max.name Lib.Math.max.code 2 (some .int) ∈ wsX10_hear := ⟨by decide +kernel, by decide +kernel, by decide +kernel, by decide +kernel⟩
set_option maxHeartbeats 4000000 in
set_option maxRecDepth 100000 in
theorem cb_X10_hear_42 {p : Program} {l : Launch} {e : Env} {s : State} {m : MethodId} {args : Array Value} {below : List Frame} {meth : Method} {c : Code} {D : va_G} {cA : Nat → ClassId} {B : Nat} {Z : State → Prop} (v0 : Nat) (hv0 : YC[v0]? = some (10, 0)) (v1 : Int) (rv1 : rg v1) (t1 : Int) (rt1 : rg t1)  {k : hq_M → Prop} {M : hq_M} {H : Heap} {locs : List Loc} {ls : Array Slot} (C : hq_C vwCl p m c cX10_hear 4 s args wsX10_hear RX10 meth none D cA (hq_in B YC.length) Z)
    (hw : b_X10_hear_42 v0 v1 t1 k M) (hs : hq_S vwCl SLx D cA YC B s.heap M H locs) (hl : lv_has ls 4 [(0, .ref (B + v0)), (1, .int (w3 v1))])
     : W p l e ({ frames := 1, cells := 0, slots := 0, locals := 22 } : Room) s m args below meth c H locs 0 0 (MQ below (hq_Q vwCl SLx D cA YC B (hq_qv k)) args s 0 0 (hq_in B YC.length)) (F0 m 42 ls [.int (w3 t1), .ref (B + 168)]) := by
  have hx := C.1.1
  have hb := C.1.2.1
  unfold b_X10_hear_42 at hw
  refine hq_cV (n := 1) (ci := 1) (o := 168) (qc := (TX1, 2)) C hs (c_X1_at l C.2.2.2.2.1 t1 rt1 _ _ hw) gX10_hear_X1_at rfl ⟨rfl, rfl⟩ (by decide +kernel) ⟨Nat.le_of_ble_eq_true rfl, Nat.le_of_ble_eq_true rfl⟩ tkC_168 (by decide) rfl rfl hl.1 rfl (Nat.le_of_ble_eq_true rfl) dX10_hear_42 (hq_kr (fun M9 H locs hw hs => ?_) (fun o1 M9 H locs ho1 hw hs => ?_))
  · obtain ⟨e9, hw⟩ := hw; rw [e9] at hs
    have hw := hw.1 rfl
    refine lv_astore_nN (lv' := [(3, .null), (0, .ref (B + v0)), (1, .int (w3 v1))]) hx hb dX10_hear_45 rfl hl (by decide) rfl (fun ls hl => ?_)
    refine lv_aload_nN hx hb dX10_hear_46 rfl (lv_at hl 0 rfl) ?_
    refine lv_ifnonnullN hx hb dX10_hear_47 ?_
    exact hq_vret C hs hw dX10_hear_50
  · obtain ⟨e9, hw⟩ := hw; rw [e9] at hs
    have hw := hw.2 o1 rfl
    refine lv_astore_n (lv' := [(3, .ref (B + o1)), (0, .ref (B + v0)), (1, .int (w3 v1))]) hx hb dX10_hear_45 rfl hl (by decide) rfl (fun ls hl => ?_)
    refine lv_aload_n hx hb dX10_hear_46 rfl (lv_at hl 0 rfl) ?_
    refine lv_ifnonnull (tgt := 51) hx hb dX10_hear_47 (by decide) ?_
    refine lv_aload_n hx hb dX10_hear_51 rfl (lv_at hl 0 rfl) ?_
    refine hq_iconst C dX10_hear_52 ?_
    refine hq_putZ (o := o1) C hs fX10_hear_224 ho1 (by decide) rfl (by decide) dX10_hear_53 (fun M3 eM3 H locs hs => ?_)
    have hw := hw M3 eM3
    refine lv_aload_n hx hb dX10_hear_56 rfl (lv_at hl 1 rfl) ?_
    refine hq_getR (o := v0) C hs fX10_hear_12 hv0 (by decide) rfl dX10_hear_57 ?_
    refine lv_aload_n hx hb dX10_hear_60 rfl (lv_at hl 0 rfl) ?_
    refine hq_getI (o := o1) C hs fX10_hear_212 ho1 (by decide) rfl dX10_hear_61 (fun g4 => ?_)
    refine hq_cV (n := 1) (ci := 9) (o := (v0 + 1)) (qc := (TX9, 7)) C hs (c_X9_release l C.2.2.2.2.1 (v0 + 1) (tc_10_0 hv0) (M3 o1 0) g4 _ _ hw) gX10_hear_X9_release rfl ⟨rfl, rfl⟩ (by decide +kernel) ⟨Nat.le_of_ble_eq_true rfl, Nat.le_of_ble_eq_true rfl⟩ (tc_10_0 hv0) (by decide) rfl rfl hl.1 rfl (Nat.le_of_ble_eq_true rfl) dX10_hear_64 (hq_kv (fun M5 H locs hw hs => ?_))
    refine lv_iload_n hx hb dX10_hear_67 rfl (lv_at hl 2 rfl) ?_
    refine hq_sipush C dX10_hear_68 (by decide) ?_
    refine hq_icmp_lt (tgt := 89) C rv1 (by decide : rg 128) dX10_hear_71 (by decide) (fun h => ?_) (fun h => ?_)
    · have hw := hw.1 h
      exact hq_vret C hs hw dX10_hear_89
    · have hw := hw.2 h
      refine lv_aload_n hx hb dX10_hear_74 rfl (lv_at hl 1 rfl) ?_
      refine lv_aload_n hx hb dX10_hear_75 rfl (lv_at hl 1 rfl) ?_
      refine hq_getI (o := v0) C hs fX10_hear_45 hv0 (by decide) rfl dX10_hear_76 (fun g6 => ?_)
      refine lv_aload_n hx hb dX10_hear_79 rfl (lv_at hl 0 rfl) ?_
      refine hq_getI (o := o1) C hs fX10_hear_184 ho1 (by decide) rfl dX10_hear_80 (fun g7 => ?_)
      refine hq_mmax C mX10_hear_207 hl.1 ⟨Nat.le_of_ble_eq_true rfl, Nat.le_of_ble_eq_true rfl, Nat.zero_le _, Nat.zero_le _⟩ g6 g7 dX10_hear_83 ?_
      refine hq_putI (o := v0) C hs fX10_hear_45 hv0 (by decide) rfl (hq_rmax g6 g7) dX10_hear_86 (fun M8 eM8 H locs hs => ?_)
      have hw := hw M8 eM8
      exact hq_vret C hs hw dX10_hear_89
set_option maxHeartbeats 4000000 in
set_option maxRecDepth 100000 in
theorem c_X10_hear (l : Launch) {D : va_G} {cA : Nat → ClassId} {B : Nat} {Z : State → Prop} (hZ : hq_Zo Z (hq_in B YC.length)) (v0 : Nat) (hv0 : YC[v0]? = some (10, 0)) (v1 : Int) (rv1 : rg v1) (M : hq_M) (k : hq_M → Prop) (hw : w_X10_hear v0 v1 M k) : hq_T vwCl SLx l yX10_hear wsX10_hear ({ frames := 1, cells := 0, slots := 0, locals := 22 } : Room) D cA YC B Z [.ref (B + v0), .int (w3 v1), .ref (B + 168)] M (hq_qv k) := by
  refine hq_meth (cc := cX10_hear) (maxL := 4) (ret := none) (own := RX10) hZ rfl (by decide +kernel) rfl (Nat.le_of_ble_eq_true rfl) ?_
  intro p e s m below meth c ls C hs hl
  have hx := C.1.1
  have hb := C.1.2.1
  unfold w_X10_hear at hw
  have hl : lv_has ls 4 [(0, .ref (B + v0)), (1, .int (w3 v1)), (2, .ref (B + 168))] := hl
  refine lv_iload_n hx hb dX10_hear_0 rfl (lv_at hl 1 rfl) ?_
  refine hq_if_ge (tgt := 5) C rv1 dX10_hear_1 (by decide) (fun h => ?_) (fun h => ?_)
  · have hw := hw.1 h
    refine lv_iload_n hx hb dX10_hear_5 rfl (lv_at hl 1 rfl) ?_
    refine hq_bipush C dX10_hear_6 (by decide) ?_
    refine hq_icmp_ge (tgt := 22) C rv1 (by decide : rg 64) dX10_hear_8 (by decide) (fun h => ?_) (fun h => ?_)
    · have hw := hw.1 h
      refine lv_aload_n hx hb dX10_hear_22 rfl (lv_at hl 2 rfl) ?_
      refine lv_iload_n hx hb dX10_hear_23 rfl (lv_at hl 1 rfl) ?_
      refine hq_sipush C dX10_hear_24 (by decide) ?_
      refine hq_icmp_ge (tgt := 37) C rv1 (by decide : rg 128) dX10_hear_27 (by decide) (fun h => ?_) (fun h => ?_)
      · have hw := hw.1 h
        refine lv_iload_n hx hb dX10_hear_37 rfl (lv_at hl 1 rfl) ?_
        refine hq_sipush C dX10_hear_38 (by decide) ?_
        obtain ⟨g1, hw⟩ := hw
        refine hq_isub C dX10_hear_41 ?_
        refine cb_X10_hear_42 v0 hv0 v1 rv1 (v1 - 128) g1 C hw hs (lv_sub hl [0, 1] rfl) 
      · have hw := hw.2 h
        refine lv_iload_n hx hb dX10_hear_30 rfl (lv_at hl 1 rfl) ?_
        refine hq_bipush C dX10_hear_31 (by decide) ?_
        obtain ⟨g2, hw⟩ := hw
        refine hq_isub C dX10_hear_33 ?_
        refine hq_goto (tgt := 42) C dX10_hear_34 (by decide) ?_
        refine cb_X10_hear_42 v0 hv0 v1 rv1 (v1 - 64) g2 C hw hs (lv_sub hl [0, 1] rfl) 
    · have hw := hw.2 h
      refine lv_aload_n hx hb dX10_hear_11 rfl (lv_at hl 0 rfl) ?_
      refine lv_dup hx hb dX10_hear_12 rfl ?_
      refine hq_getI (o := v0) C hs fX10_hear_45 hv0 (by decide) rfl dX10_hear_13 (fun g3 => ?_)
      refine lv_iload_n hx hb dX10_hear_16 rfl (lv_at hl 1 rfl) ?_
      obtain ⟨g4, hw⟩ := hw
      refine hq_iadd C dX10_hear_17 ?_
      refine hq_putI (o := v0) C hs fX10_hear_45 hv0 (by decide) rfl g4 dX10_hear_18 (fun M5 eM5 H locs hs => ?_)
      have hw := hw M5 eM5
      exact hq_vret C hs hw dX10_hear_21
  · have hw := hw.2 h
    exact hq_vret C hs hw dX10_hear_4
theorem iX11_restart_1 : ∀ w ∈ u_ws RX1 TX1 2, w ∈ wsX11_restart := fun w h => List.mem_cons_of_mem _ (List.mem_append_left _ (List.mem_append_left _ (List.mem_append_left _ (List.mem_append_left _ (List.mem_append_left _ (List.mem_append_right _ h))))))
theorem iX11_restart_11 : ∀ w ∈ u_ws RX11 TX11 11, w ∈ wsX11_restart := fun w h => List.mem_cons_of_mem _ (List.mem_append_left _ (List.mem_append_left _ (List.mem_append_left _ (List.mem_append_left _ (List.mem_append_left _ (List.mem_append_left _ (List.mem_append_right _ h)))))))
set_option maxRecDepth 20000 in
theorem fX11_restart_14 : hq_fl vwCl wsX11_restart RX11 14 11 0 true (.object "HeadTables$Row") := ⟨RX11, TX11, 11, tyX11, rfl, by decide, iX11_restart_11, by decide +kernel, rfl, tyX11_ok 0 (by decide), tyX11_ok, nmX11⟩
set_option maxRecDepth 20000 in
theorem fX11_restart_18 : hq_fl vwCl wsX11_restart RX11 18 11 1 true (.object "HeadTables$Row") := ⟨RX11, TX11, 11, tyX11, rfl, by decide, iX11_restart_11, by decide +kernel, rfl, tyX11_ok 1 (by decide), tyX11_ok, nmX11⟩
set_option maxRecDepth 20000 in
theorem fX11_restart_36 : hq_fl vwCl wsX11_restart RX11 36 11 9 false (.object "HeadTables$Settings") := ⟨RX11, TX11, 11, tyX11, rfl, by decide, iX11_restart_11, by decide +kernel, rfl, tyX11_ok 9 (by decide), tyX11_ok, nmX11⟩
set_option maxRecDepth 20000 in
theorem fX11_restart_46 : hq_fl vwCl wsX11_restart RX11 46 11 4 true (.object "HeadTables$Letters") := ⟨RX11, TX11, 11, tyX11, rfl, by decide, iX11_restart_11, by decide +kernel, rfl, tyX11_ok 4 (by decide), tyX11_ok, nmX11⟩
set_option maxRecDepth 20000 in
theorem fX11_restart_55 : hq_fl vwCl wsX11_restart RX11 55 11 5 true (.object "HeadTables$Writer") := ⟨RX11, TX11, 11, tyX11, rfl, by decide, iX11_restart_11, by decide +kernel, rfl, tyX11_ok 5 (by decide), tyX11_ok, nmX11⟩
set_option maxRecDepth 20000 in
theorem fX11_restart_62 : hq_fl vwCl wsX11_restart RX11 62 11 6 true (.object "HeadTables$Reader") := ⟨RX11, TX11, 11, tyX11, rfl, by decide, iX11_restart_11, by decide +kernel, rfl, tyX11_ok 6 (by decide), tyX11_ok, nmX11⟩
set_option maxRecDepth 20000 in
theorem fX11_restart_79 : hq_fl vwCl wsX11_restart RX11 79 1 1 false .int := ⟨RX1, TX1, 2, tyX1, rfl, by decide, iX11_restart_1, by decide +kernel, rfl, tyX1_ok 1 (by decide), tyX1_ok, nmX1⟩
set_option maxHeartbeats 4000000 in
set_option maxRecDepth 100000 in
theorem c_X11_restart (l : Launch) {D : va_G} {cA : Nat → ClassId} {B : Nat} {Z : State → Prop} (hZ : hq_Zo Z (hq_in B YC.length))  (M : hq_M) (k : hq_M → Prop) (hw : w_X11_restart  M k) : hq_T vwCl SLx l yX11_restart wsX11_restart ({ frames := 3, cells := 0, slots := 0, locals := 61 } : Room) D cA YC B Z [.ref (B + 0)] M (hq_qv k) := by
  refine hq_meth (cc := cX11_restart) (maxL := 1) (ret := none) (own := RX11) hZ rfl (by decide +kernel) rfl (Nat.le_of_ble_eq_true rfl) ?_
  intro p e s m below meth c ls C hs hl
  have hx := C.1.1
  have hb := C.1.2.1
  unfold w_X11_restart at hw
  have hl : lv_has ls 1 [(0, .ref (B + 0))] := hl
  refine lv_aload_n hx hb dX11_restart_0 rfl (lv_at hl 0 rfl) ?_
  refine hq_getA (o := 0) C hs fX11_restart_14 tkC_0 (by decide) rfl dX11_restart_1 ?_
  refine hq_cV (n := 0) (ci := 6) (o := 1) (qc := (TX6, 2)) C hs (c_X6_empty l C.2.2.2.2.1 1 tkC_1 _ _ hw) gX11_restart_X6_empty rfl ⟨rfl, rfl⟩ (by decide +kernel) ⟨Nat.le_of_ble_eq_true rfl, Nat.le_of_ble_eq_true rfl⟩ tkC_1 (by decide) rfl rfl hl.1 rfl (Nat.le_of_ble_eq_true rfl) dX11_restart_4 (hq_kv (fun M1 H locs hw hs => ?_))
  refine lv_aload_n hx hb dX11_restart_7 rfl (lv_at hl 0 rfl) ?_
  refine hq_getA (o := 0) C hs fX11_restart_18 tkC_0 (by decide) rfl dX11_restart_8 ?_
  refine hq_cV (n := 0) (ci := 6) (o := 3) (qc := (TX6, 2)) C hs (c_X6_empty l C.2.2.2.2.1 3 tkC_3 _ _ hw) gX11_restart_X6_empty rfl ⟨rfl, rfl⟩ (by decide +kernel) ⟨Nat.le_of_ble_eq_true rfl, Nat.le_of_ble_eq_true rfl⟩ tkC_3 (by decide) rfl rfl hl.1 rfl (Nat.le_of_ble_eq_true rfl) dX11_restart_11 (hq_kv (fun M2 H locs hw hs => ?_))
  refine lv_aload_n hx hb dX11_restart_14 rfl (lv_at hl 0 rfl) ?_
  refine hq_getA (o := 0) C hs fX11_restart_46 tkC_0 (by decide) rfl dX11_restart_15 ?_
  refine hq_iconst C dX11_restart_18 ?_
  refine hq_putI (o := 168) C hs fX11_restart_79 tkC_168 (by decide) rfl (by decide : rg 0) dX11_restart_19 (fun M3 eM3 H locs hs => ?_)
  have hw := hw M3 eM3
  refine lv_aload_n hx hb dX11_restart_22 rfl (lv_at hl 0 rfl) ?_
  refine hq_getA (o := 0) C hs fX11_restart_55 tkC_0 (by decide) rfl dX11_restart_23 ?_
  refine lv_aload_n hx hb dX11_restart_26 rfl (lv_at hl 0 rfl) ?_
  refine hq_getS (o := 0) C hs fX11_restart_36 tkC_0 (by decide) rfl dX11_restart_27 (fun g4 => ?_)
  obtain ⟨o5, eo5⟩ : ∃ y : Nat, y = (M3 0 9).toNat := ⟨_, rfl⟩
  rw [← eo5] at g4 ⊢
  have hw := hw o5 eo5
  refine hq_cV (n := 1) (ci := 10) (o := 370) (qc := (TX10, 8)) C hs (c_X10_restart l C.2.2.2.2.1 370 tkC_370 o5 g4 _ _ hw) gX11_restart_X10_restart rfl ⟨rfl, rfl⟩ (by decide +kernel) ⟨Nat.le_of_ble_eq_true rfl, Nat.le_of_ble_eq_true rfl⟩ tkC_370 (by decide) rfl rfl hl.1 rfl (Nat.le_of_ble_eq_true rfl) dX11_restart_30 (hq_kv (fun M6 H locs hw hs => ?_))
  refine lv_aload_n hx hb dX11_restart_33 rfl (lv_at hl 0 rfl) ?_
  refine hq_getA (o := 0) C hs fX11_restart_62 tkC_0 (by decide) rfl dX11_restart_34 ?_
  refine hq_cV (n := 0) (ci := 5) (o := 384) (qc := (TX5, 3)) C hs (c_X5_restart l C.2.2.2.2.1 _ _ hw) gX11_restart_X5_restart rfl ⟨rfl, rfl⟩ (by decide +kernel) ⟨Nat.le_of_ble_eq_true rfl, Nat.le_of_ble_eq_true rfl⟩ tkC_384 (by decide) rfl rfl hl.1 rfl (Nat.le_of_ble_eq_true rfl) dX11_restart_37 (hq_kv (fun M7 H locs hw hs => ?_))
  exact hq_vret C hs hw dX11_restart_40
theorem iX11_type_6 : ∀ w ∈ u_ws RX6 TX6 2, w ∈ wsX11_type := fun w h => List.mem_cons_of_mem _ (List.mem_append_right _ h)
theorem iX11_type_11 : ∀ w ∈ u_ws RX11 TX11 11, w ∈ wsX11_type := fun w h => List.mem_cons_of_mem _ (List.mem_append_left _ (List.mem_append_right _ h))
set_option maxRecDepth 20000 in
theorem fX11_type_14 : hq_fl vwCl wsX11_type RX11 14 11 0 true (.object "HeadTables$Row") := ⟨RX11, TX11, 11, tyX11, rfl, by decide, iX11_type_11, by decide +kernel, rfl, tyX11_ok 0 (by decide), tyX11_ok, nmX11⟩
set_option maxRecDepth 20000 in
theorem fX11_type_92 : hq_fl vwCl wsX11_type RX11 92 6 1 false .int := ⟨RX6, TX6, 2, tyX6, rfl, by decide, iX11_type_6, by decide +kernel, rfl, tyX6_ok 1 (by decide), tyX6_ok, nmX6⟩
set_option maxHeartbeats 4000000 in
set_option maxRecDepth 100000 in
theorem c_X11_type (l : Launch) {D : va_G} {cA : Nat → ClassId} {B : Nat} {Z : State → Prop} (hZ : hq_Zo Z (hq_in B YC.length)) (v1 : Int) (rv1 : rg v1) (M : hq_M) (k : Int → hq_M → Prop) (hw : w_X11_type v1 M k) : hq_T vwCl SLx l yX11_type wsX11_type ({ frames := 1, cells := 0, slots := 0, locals := 21 } : Room) D cA YC B Z [.ref (B + 0), .int (w3 v1)] M (hq_qi k) := by
  refine hq_meth (cc := cX11_type) (maxL := 2) (ret := (some .int)) (own := RX11) hZ rfl (by decide +kernel) rfl (Nat.le_of_ble_eq_true rfl) ?_
  intro p e s m below meth c ls C hs hl
  have hx := C.1.1
  have hb := C.1.2.1
  unfold w_X11_type at hw
  have hl : lv_has ls 2 [(0, .ref (B + 0)), (1, .int (w3 v1))] := hl
  refine lv_iload_n hx hb dX11_type_0 rfl (lv_at hl 1 rfl) ?_
  refine hq_if_lt (tgt := 11) C rv1 dX11_type_1 (by decide) (fun h => ?_) (fun h => ?_)
  · have hw := hw.1 h
    refine hq_iconst C dX11_type_11 ?_
    exact hq_iret C hs (by decide : rg (-1)) hw dX11_type_12
  · have hw := hw.2 h
    refine lv_iload_n hx hb dX11_type_4 rfl (lv_at hl 1 rfl) ?_
    refine hq_sipush C dX11_type_5 (by decide) ?_
    refine hq_icmp_le (tgt := 13) C rv1 (by decide : rg 255) dX11_type_8 (by decide) (fun h => ?_) (fun h => ?_)
    · have hw := hw.1 h
      refine lv_aload_n hx hb dX11_type_13 rfl (lv_at hl 0 rfl) ?_
      refine hq_getA (o := 0) C hs fX11_type_14 tkC_0 (by decide) rfl dX11_type_14 ?_
      refine lv_iload_n hx hb dX11_type_17 rfl (lv_at hl 1 rfl) ?_
      refine hq_cV (n := 1) (ci := 6) (o := 1) (qc := (TX6, 2)) C hs (c_X6_add l C.2.2.2.2.1 1 tkC_1 v1 rv1 _ _ hw) gX11_type_X6_add rfl ⟨rfl, rfl⟩ (by decide +kernel) ⟨Nat.le_of_ble_eq_true rfl, Nat.le_of_ble_eq_true rfl⟩ tkC_1 (by decide) rfl rfl hl.1 rfl (Nat.le_of_ble_eq_true rfl) dX11_type_18 (hq_kz (fun x2 M1 H locs rx2 hw hs => ?_))
      refine hq_if_eq (tgt := 34) C (rb_rg rx2) dX11_type_21 (by decide) (fun h => ?_) (fun h => ?_)
      · have hw := hw.1 h
        refine hq_bipush C dX11_type_34 (by decide) ?_
        exact hq_iret C hs (by decide : rg (-3)) hw dX11_type_36
      · have hw := hw.2 h
        refine lv_aload_n hx hb dX11_type_24 rfl (lv_at hl 0 rfl) ?_
        refine hq_getA (o := 0) C hs fX11_type_14 tkC_0 (by decide) rfl dX11_type_25 ?_
        refine hq_getI (o := 1) C hs fX11_type_92 tkC_1 (by decide) rfl dX11_type_28 (fun g3 => ?_)
        refine hq_goto (tgt := 36) C dX11_type_31 (by decide) ?_
        exact hq_iret C hs g3 hw dX11_type_36
    · have hw := hw.2 h
      refine hq_iconst C dX11_type_11 ?_
      exact hq_iret C hs (by decide : rg (-1)) hw dX11_type_12
theorem iX11_clear_6 : ∀ w ∈ u_ws RX6 TX6 2, w ∈ wsX11_clear := fun w h => List.mem_cons_of_mem _ (List.mem_append_right _ h)
theorem iX11_clear_11 : ∀ w ∈ u_ws RX11 TX11 11, w ∈ wsX11_clear := fun w h => List.mem_cons_of_mem _ (List.mem_append_left _ (List.mem_append_right _ h))
set_option maxRecDepth 20000 in
theorem fX11_clear_14 : hq_fl vwCl wsX11_clear RX11 14 11 0 true (.object "HeadTables$Row") := ⟨RX11, TX11, 11, tyX11, rfl, by decide, iX11_clear_11, by decide +kernel, rfl, tyX11_ok 0 (by decide), tyX11_ok, nmX11⟩
set_option maxRecDepth 20000 in
theorem fX11_clear_92 : hq_fl vwCl wsX11_clear RX11 92 6 1 false .int := ⟨RX6, TX6, 2, tyX6, rfl, by decide, iX11_clear_6, by decide +kernel, rfl, tyX6_ok 1 (by decide), tyX6_ok, nmX6⟩
set_option maxHeartbeats 4000000 in
set_option maxRecDepth 100000 in
theorem c_X11_clear (l : Launch) {D : va_G} {cA : Nat → ClassId} {B : Nat} {Z : State → Prop} (hZ : hq_Zo Z (hq_in B YC.length))  (M : hq_M) (k : Int → hq_M → Prop) (hw : w_X11_clear  M k) : hq_T vwCl SLx l yX11_clear wsX11_clear ({ frames := 1, cells := 0, slots := 0, locals := 20 } : Room) D cA YC B Z [.ref (B + 0)] M (hq_qi k) := by
  refine hq_meth (cc := cX11_clear) (maxL := 2) (ret := (some .int)) (own := RX11) hZ rfl (by decide +kernel) rfl (Nat.le_of_ble_eq_true rfl) ?_
  intro p e s m below meth c ls C hs hl
  have hx := C.1.1
  have hb := C.1.2.1
  unfold w_X11_clear at hw
  have hl : lv_has ls 2 [(0, .ref (B + 0))] := hl
  refine lv_aload_n hx hb dX11_clear_0 rfl (lv_at hl 0 rfl) ?_
  refine hq_getA (o := 0) C hs fX11_clear_14 tkC_0 (by decide) rfl dX11_clear_1 ?_
  refine hq_getI (o := 1) C hs fX11_clear_92 tkC_1 (by decide) rfl dX11_clear_4 (fun g1 => ?_)
  refine hq_nm (fun x2 ex2 => ?_)
  have hw := hw x2 ex2
  have rx2 : rg x2 := by rw [ex2]; exact g1
  refine lv_istore_n (lv' := [(1, .int (w3 x2)), (0, .ref (B + 0))]) hx hb dX11_clear_7 rfl hl (by decide) rfl (fun ls hl => ?_)
  refine lv_aload_n hx hb dX11_clear_8 rfl (lv_at hl 1 rfl) ?_
  refine hq_getA (o := 0) C hs fX11_clear_14 tkC_0 (by decide) rfl dX11_clear_9 ?_
  refine hq_cV (n := 0) (ci := 6) (o := 1) (qc := (TX6, 2)) C hs (c_X6_empty l C.2.2.2.2.1 1 tkC_1 _ _ hw) gX11_clear_X6_empty rfl ⟨rfl, rfl⟩ (by decide +kernel) ⟨Nat.le_of_ble_eq_true rfl, Nat.le_of_ble_eq_true rfl⟩ tkC_1 (by decide) rfl rfl hl.1 rfl (Nat.le_of_ble_eq_true rfl) dX11_clear_12 (hq_kv (fun M3 H locs hw hs => ?_))
  refine lv_iload_n hx hb dX11_clear_15 rfl (lv_at hl 0 rfl) ?_
  exact hq_iret C hs rx2 hw dX11_clear_16
theorem iX11_tells_4 : ∀ w ∈ u_ws RX4 TX4 6, w ∈ wsX11_tells := fun w h => List.mem_cons_of_mem _ (List.mem_append_left _ (List.mem_append_left _ (List.mem_append_left _ (List.mem_append_left _ (List.mem_append_left _ (List.mem_append_left _ (List.mem_append_left _ (List.mem_append_left _ (List.mem_append_left _ (List.mem_append_right _ h))))))))))
theorem iX11_tells_11 : ∀ w ∈ u_ws RX11 TX11 11, w ∈ wsX11_tells := fun w h => List.mem_cons_of_mem _ (List.mem_append_left _ (List.mem_append_left _ (List.mem_append_left _ (List.mem_append_left _ (List.mem_append_left _ (List.mem_append_left _ (List.mem_append_left _ (List.mem_append_left _ (List.mem_append_left _ (List.mem_append_left _ (List.mem_append_right _ h)))))))))))
set_option maxRecDepth 20000 in
theorem fX11_tells_29 : hq_fl vwCl wsX11_tells RX11 29 11 3 true (.object "HeadTables$Parser") := ⟨RX11, TX11, 11, tyX11, rfl, by decide, iX11_tells_11, by decide +kernel, rfl, tyX11_ok 3 (by decide), tyX11_ok, nmX11⟩
set_option maxRecDepth 20000 in
theorem fX11_tells_36 : hq_fl vwCl wsX11_tells RX11 36 11 9 false (.object "HeadTables$Settings") := ⟨RX11, TX11, 11, tyX11, rfl, by decide, iX11_tells_11, by decide +kernel, rfl, tyX11_ok 9 (by decide), tyX11_ok, nmX11⟩
set_option maxRecDepth 20000 in
theorem fX11_tells_40 : hq_fl vwCl wsX11_tells RX11 40 11 10 false (.object "HeadTables$Settings") := ⟨RX11, TX11, 11, tyX11, rfl, by decide, iX11_tells_11, by decide +kernel, rfl, tyX11_ok 10 (by decide), tyX11_ok, nmX11⟩
set_option maxRecDepth 20000 in
theorem fX11_tells_97 : hq_fl vwCl wsX11_tells RX11 97 4 4 false .int := ⟨RX4, TX4, 6, tyX4, rfl, by decide, iX11_tells_4, by decide +kernel, rfl, tyX4_ok 4 (by decide), tyX4_ok, nmX4⟩
set_option maxRecDepth 20000 in
theorem fX11_tells_101 : hq_fl vwCl wsX11_tells RX11 101 4 3 false .int := ⟨RX4, TX4, 6, tyX4, rfl, by decide, iX11_tells_4, by decide +kernel, rfl, tyX4_ok 3 (by decide), tyX4_ok, nmX4⟩
set_option maxHeartbeats 4000000 in
set_option maxRecDepth 100000 in
theorem c_X11_tells (l : Launch) {D : va_G} {cA : Nat → ClassId} {B : Nat} {Z : State → Prop} (hZ : hq_Zo Z (hq_in B YC.length)) {hqS hqV : Nat → Nat} (hSt : hq_St Z hqS hqV (hq_in B YC.length))  (M : hq_M) (k : Int → hq_M → Prop) (hw : w_X11_tells  M k) : hq_T vwCl SLx l yX11_tells wsX11_tells ({ frames := 7, cells := 0, slots := 0, locals := 150 } : Room) D cA YC B Z [.ref (B + 0)] M (hq_qi k) := by
  refine hq_meth (cc := cX11_tells) (maxL := 2) (ret := (some .int)) (own := RX11) hZ rfl (by decide +kernel) rfl (Nat.le_of_ble_eq_true rfl) ?_
  intro p e s m below meth c ls C hs hl
  have hx := C.1.1
  have hb := C.1.2.1
  unfold w_X11_tells at hw
  have hl : lv_has ls 2 [(0, .ref (B + 0))] := hl
  refine lv_aload_n hx hb dX11_tells_0 rfl (lv_at hl 0 rfl) ?_
  refine hq_getA (o := 0) C hs fX11_tells_29 tkC_0 (by decide) rfl dX11_tells_1 ?_
  refine lv_aload_n hx hb dX11_tells_4 rfl (lv_at hl 0 rfl) ?_
  refine hq_getS (o := 0) C hs fX11_tells_40 tkC_0 (by decide) rfl dX11_tells_5 (fun g1 => ?_)
  obtain ⟨o2, eo2⟩ : ∃ y : Nat, y = (M 0 10).toNat := ⟨_, rfl⟩
  rw [← eo2] at g1 ⊢
  have hw := hw o2 eo2
  refine hq_cV (n := 1) (ci := 4) (o := 7) (qc := (TX4, 6)) C hs (c_X4_reads l C.2.2.2.2.1 hSt o2 g1 _ _ hw) gX11_tells_X4_reads rfl ⟨rfl, rfl⟩ (by decide +kernel) ⟨Nat.le_of_ble_eq_true rfl, Nat.le_of_ble_eq_true rfl⟩ tkC_7 (by decide) rfl rfl hl.1 rfl (Nat.le_of_ble_eq_true rfl) dX11_tells_8 (hq_kz (fun x4 M3 H locs rx4 hw hs => ?_))
  refine hq_if_ne (tgt := 25) C (rb_rg rx4) dX11_tells_11 (by decide) (fun h => ?_) (fun h => ?_)
  · have hw := hw.1 h
    refine lv_aload_n hx hb dX11_tells_25 rfl (lv_at hl 0 rfl) ?_
    refine hq_getS (o := 0) C hs fX11_tells_36 tkC_0 (by decide) rfl dX11_tells_26 (fun g5 => ?_)
    obtain ⟨o6, eo6⟩ : ∃ y : Nat, y = (M3 0 9).toNat := ⟨_, rfl⟩
    rw [← eo6] at g5 ⊢
    have hw := hw o6 eo6
    refine lv_astore_n (lv' := [(1, .ref (B + o6)), (0, .ref (B + 0))]) hx hb dX11_tells_29 rfl hl (by decide) rfl (fun ls hl => ?_)
    refine lv_aload_n hx hb dX11_tells_30 rfl (lv_at hl 1 rfl) ?_
    refine lv_aload_n hx hb dX11_tells_31 rfl (lv_at hl 1 rfl) ?_
    refine hq_getS (o := 0) C hs fX11_tells_40 tkC_0 (by decide) rfl dX11_tells_32 (fun g7 => ?_)
    obtain ⟨o8, eo8⟩ : ∃ y : Nat, y = (M3 0 10).toNat := ⟨_, rfl⟩
    rw [← eo8] at g7 ⊢
    have hw := hw o8 eo8
    refine hq_putS (o := 0) C hs fX11_tells_36 tkC_0 (by decide) rfl g7 dX11_tells_35 (fun M9 eM9 H locs hs => ?_)
    have hw := hw M9 eM9
    refine lv_aload_n hx hb dX11_tells_38 rfl (lv_at hl 1 rfl) ?_
    refine lv_aload_n hx hb dX11_tells_39 rfl (lv_at hl 0 rfl) ?_
    refine hq_putS (o := 0) C hs fX11_tells_40 tkC_0 (by decide) rfl g5 dX11_tells_40 (fun M10 eM10 H locs hs => ?_)
    have hw := hw M10 eM10
    refine lv_aload_n hx hb dX11_tells_43 rfl (lv_at hl 1 rfl) ?_
    refine hq_cV (n := 0) (ci := 11) (o := 0) (qc := (TX11, 11)) C hs (c_X11_restart l C.2.2.2.2.1 _ _ hw) gX11_tells_X11_restart rfl ⟨rfl, rfl⟩ (by decide +kernel) ⟨Nat.le_of_ble_eq_true rfl, Nat.le_of_ble_eq_true rfl⟩ tkC_0 (by decide) rfl rfl hl.1 rfl (Nat.le_of_ble_eq_true rfl) dX11_tells_44 (hq_kv (fun M11 H locs hw hs => ?_))
    refine lv_aload_n hx hb dX11_tells_47 rfl (lv_at hl 1 rfl) ?_
    refine hq_getA (o := 0) C hs fX11_tells_29 tkC_0 (by decide) rfl dX11_tells_48 ?_
    refine hq_getI (o := 7) C hs fX11_tells_101 tkC_7 (by decide) rfl dX11_tells_51 (fun g12 => ?_)
    exact hq_iret C hs g12 hw dX11_tells_54
  · have hw := hw.2 h
    refine hq_bipush C dX11_tells_14 (by decide) ?_
    refine lv_aload_n hx hb dX11_tells_16 rfl (lv_at hl 0 rfl) ?_
    refine hq_getA (o := 0) C hs fX11_tells_29 tkC_0 (by decide) rfl dX11_tells_17 ?_
    refine hq_getI (o := 7) C hs fX11_tells_97 tkC_7 (by decide) rfl dX11_tells_20 (fun g13 => ?_)
    obtain ⟨g14, hw⟩ := hw
    refine hq_isub C dX11_tells_23 ?_
    exact hq_iret C hs g14 hw dX11_tells_24
theorem iX11_spells_2 : ∀ w ∈ u_ws RX2 TX2 2, w ∈ wsX11_spells := fun w h => List.mem_cons_of_mem _ (List.mem_append_left _ (List.mem_append_left _ (List.mem_append_right _ h)))
theorem iX11_spells_6 : ∀ w ∈ u_ws RX6 TX6 2, w ∈ wsX11_spells := fun w h => List.mem_cons_of_mem _ (List.mem_append_left _ (List.mem_append_right _ h))
theorem iX11_spells_7 : ∀ w ∈ u_ws RX7 TX7 4, w ∈ wsX11_spells := fun w h => List.mem_cons_of_mem _ (List.mem_append_left _ (List.mem_append_left _ (List.mem_append_left _ (List.mem_append_right _ h))))
theorem iX11_spells_11 : ∀ w ∈ u_ws RX11 TX11 11, w ∈ wsX11_spells := fun w h => List.mem_cons_of_mem _ (List.mem_append_left _ (List.mem_append_left _ (List.mem_append_left _ (List.mem_append_left _ (List.mem_append_right _ h)))))
set_option maxRecDepth 20000 in
theorem fX11_spells_36 : hq_fl vwCl wsX11_spells RX11 36 11 9 false (.object "HeadTables$Settings") := ⟨RX11, TX11, 11, tyX11, rfl, by decide, iX11_spells_11, by decide +kernel, rfl, tyX11_ok 9 (by decide), tyX11_ok, nmX11⟩
set_option maxRecDepth 20000 in
theorem fX11_spells_92 : hq_fl vwCl wsX11_spells RX11 92 6 1 false .int := ⟨RX6, TX6, 2, tyX6, rfl, by decide, iX11_spells_6, by decide +kernel, rfl, tyX6_ok 1 (by decide), tyX6_ok, nmX6⟩
set_option maxRecDepth 20000 in
theorem fX11_spells_104 : hq_fl vwCl wsX11_spells RX11 104 7 0 true (.object "HeadTables$Pairs") := ⟨RX7, TX7, 4, tyX7, rfl, by decide, iX11_spells_7, by decide +kernel, rfl, tyX7_ok 0 (by decide), tyX7_ok, nmX7⟩
set_option maxRecDepth 20000 in
theorem fX11_spells_114 : hq_fl vwCl wsX11_spells RX11 114 7 1 true (.object "HeadTables$Pairs") := ⟨RX7, TX7, 4, tyX7, rfl, by decide, iX11_spells_7, by decide +kernel, rfl, tyX7_ok 1 (by decide), tyX7_ok, nmX7⟩
set_option maxRecDepth 20000 in
theorem fX11_spells_117 : hq_fl vwCl wsX11_spells RX11 117 2 0 true (.object "HeadTables$Row") := ⟨RX2, TX2, 2, tyX2, rfl, by decide, iX11_spells_2, by decide +kernel, rfl, tyX2_ok 0 (by decide), tyX2_ok, nmX2⟩
set_option maxRecDepth 20000 in
theorem fX11_spells_122 : hq_fl vwCl wsX11_spells RX11 122 2 1 true (.object "HeadTables$Row") := ⟨RX2, TX2, 2, tyX2, rfl, by decide, iX11_spells_2, by decide +kernel, rfl, tyX2_ok 1 (by decide), tyX2_ok, nmX2⟩
set_option maxHeartbeats 4000000 in
set_option maxRecDepth 100000 in
theorem cb_X11_spells_81 {p : Program} {l : Launch} {e : Env} {s : State} {m : MethodId} {args : Array Value} {below : List Frame} {meth : Method} {c : Code} {D : va_G} {cA : Nat → ClassId} {B : Nat} {Z : State → Prop} (v4 : Int) (rv4 : rg v4) (t0 : Nat) (ht0 : YC[t0]? = some (6, 0))  {k : Int → Prop} {M : hq_M} {H : Heap} {locs : List Loc} {ls : Array Slot} (C : hq_C vwCl p m c cX11_spells 7 s args wsX11_spells RX11 meth (some .int) D cA (hq_in B YC.length) Z)
    (hw : b_X11_spells_81 v4 t0 k M) (hs : hq_S vwCl SLx D cA YC B s.heap M H locs) (hl : lv_has ls 7 [(4, .int (w3 v4))])
     : W p l e ({ frames := 1, cells := 0, slots := 0, locals := 21 } : Room) s m args below meth c H locs 0 0 (MQ below (hq_Q vwCl SLx D cA YC B (hq_qi (fun z M' => M' = M ∧ k z))) args s 0 0 (hq_in B YC.length)) (F0 m 81 ls [.ref (B + t0)]) := by
  have hx := C.1.1
  have hb := C.1.2.1
  unfold b_X11_spells_81 at hw
  refine lv_astore (lv' := [(6, .ref (B + t0)), (4, .int (w3 v4))]) hx hb dX11_spells_81 hl (by decide) rfl (fun ls hl => ?_)
  refine lv_iload hx hb dX11_spells_83 (lv_at hl 1 rfl) ?_
  refine hq_iconst C dX11_spells_85 ?_
  refine hq_icmp_ne (tgt := 97) C rv4 (by decide : rg (-1)) dX11_spells_86 (by decide) (fun h => ?_) (fun h => ?_)
  · have hw := hw.1 h
    refine lv_aload hx hb dX11_spells_97 (lv_at hl 0 rfl) ?_
    refine lv_iload hx hb dX11_spells_99 (lv_at hl 1 rfl) ?_
    refine hq_cV (n := 1) (ci := 6) (o := t0) (qc := (TX6, 2)) C hs (c_X6_at l C.2.2.2.2.1 t0 ht0 v4 rv4 _ _ hw) gX11_spells_X6_at rfl ⟨rfl, rfl⟩ (by decide +kernel) ⟨Nat.le_of_ble_eq_true rfl, Nat.le_of_ble_eq_true rfl⟩ ht0 (by decide) rfl rfl hl.1 rfl (Nat.le_of_ble_eq_true rfl) dX11_spells_101 (hq_ki (fun x1 M9 H locs rx1 hw hs => ?_))
    obtain ⟨e9, hw⟩ := hw; rw [e9] at hs
    exact hq_iret C hs rx1 ⟨rfl, hw⟩ dX11_spells_104
  · have hw := hw.2 h
    refine lv_aload hx hb dX11_spells_89 (lv_at hl 0 rfl) ?_
    refine hq_getI (o := t0) C hs fX11_spells_92 ht0 (by decide) rfl dX11_spells_91 (fun g2 => ?_)
    refine hq_goto (tgt := 104) C dX11_spells_94 (by decide) ?_
    exact hq_iret C hs g2 ⟨rfl, hw⟩ dX11_spells_104
set_option maxHeartbeats 4000000 in
set_option maxRecDepth 100000 in
theorem cb_X11_spells_55 {p : Program} {l : Launch} {e : Env} {s : State} {m : MethodId} {args : Array Value} {below : List Frame} {meth : Method} {c : Code} {D : va_G} {cA : Nat → ClassId} {B : Nat} {Z : State → Prop} (v3 : Int) (rv3 : rg v3) (v4 : Int) (rv4 : rg v4) (t0 : Option Nat) (ht0 : ∀ x, t0 = some x → YC[x]? = some (2, 0))  {k : Int → Prop} {M : hq_M} {H : Heap} {locs : List Loc} {ls : Array Slot} (C : hq_C vwCl p m c cX11_spells 7 s args wsX11_spells RX11 meth (some .int) D cA (hq_in B YC.length) Z)
    (hw : b_X11_spells_55 v3 v4 t0 k M) (hs : hq_S vwCl SLx D cA YC B s.heap M H locs) (hl : lv_has ls 7 [(3, .int (w3 v3)), (4, .int (w3 v4))])
     : W p l e ({ frames := 1, cells := 0, slots := 0, locals := 21 } : Room) s m args below meth c H locs 0 0 (MQ below (hq_Q vwCl SLx D cA YC B (hq_qi (fun z M' => M' = M ∧ k z))) args s 0 0 (hq_in B YC.length)) (F0 m 55 ls [hq_rf B t0]) := by
  have hx := C.1.1
  have hb := C.1.2.1
  unfold b_X11_spells_55 at hw
  rcases t0 with _ | o1
  · have hw := hw.1 rfl
    have hl : lv_has ls 7 [(3, .int (w3 v3)), (4, .int (w3 v4))] := hl
    refine lv_astoreN (lv' := [(5, .null), (3, .int (w3 v3)), (4, .int (w3 v4))]) hx hb dX11_spells_55 hl (by decide) rfl (fun ls hl => ?_)
    refine lv_aloadN hx hb dX11_spells_57 (lv_at hl 0 rfl) ?_
    refine lv_ifnonnullN hx hb dX11_spells_59 ?_
    refine hq_iconst C dX11_spells_62 ?_
    exact hq_iret C hs (by decide : rg (-1)) ⟨rfl, hw⟩ dX11_spells_63
  · have ho1 := ht0 o1 rfl
    have hw := hw.2 o1 rfl
    have hl : lv_has ls 7 [(3, .int (w3 v3)), (4, .int (w3 v4))] := hl
    refine lv_astore (lv' := [(5, .ref (B + o1)), (3, .int (w3 v3)), (4, .int (w3 v4))]) hx hb dX11_spells_55 hl (by decide) rfl (fun ls hl => ?_)
    refine lv_aload hx hb dX11_spells_57 (lv_at hl 0 rfl) ?_
    refine lv_ifnonnull (tgt := 64) hx hb dX11_spells_59 (by decide) ?_
    refine lv_iload_n hx hb dX11_spells_64 rfl (lv_at hl 1 rfl) ?_
    refine hq_if_ne (tgt := 76) C rv3 dX11_spells_65 (by decide) (fun h => ?_) (fun h => ?_)
    · have hw := hw.1 h
      refine lv_aload hx hb dX11_spells_76 (lv_at hl 0 rfl) ?_
      refine hq_getR (o := o1) C hs fX11_spells_122 ho1 (by decide) rfl dX11_spells_78 ?_
      refine cb_X11_spells_81 v4 rv4 (o1 + 3) (tc_2_1 ho1) C hw hs (lv_sub hl [2] rfl) 
    · have hw := hw.2 h
      refine lv_aload hx hb dX11_spells_68 (lv_at hl 0 rfl) ?_
      refine hq_getR (o := o1) C hs fX11_spells_117 ho1 (by decide) rfl dX11_spells_70 ?_
      refine hq_goto (tgt := 81) C dX11_spells_73 (by decide) ?_
      refine cb_X11_spells_81 v4 rv4 (o1 + 1) (tc_2_0 ho1) C hw hs (lv_sub hl [2] rfl) 
set_option maxHeartbeats 4000000 in
set_option maxRecDepth 100000 in
theorem c_X11_spells (l : Launch) {D : va_G} {cA : Nat → ClassId} {B : Nat} {Z : State → Prop} (hZ : hq_Zo Z (hq_in B YC.length)) (v1 : Int) (rv1 : rg v1) (v2 : Int) (rv2 : rg v2) (v3 : Int) (rv3 : rg v3) (v4 : Int) (rv4 : rg v4) (M : hq_M) (k : Int → Prop) (hw : w_X11_spells v1 v2 v3 v4 M k) : hq_T vwCl SLx l yX11_spells wsX11_spells ({ frames := 1, cells := 0, slots := 0, locals := 21 } : Room) D cA YC B Z [.ref (B + 0), .int (w3 v1), .int (w3 v2), .int (w3 v3), .int (w3 v4)] M (hq_qi (fun z M' => M' = M ∧ k z)) := by
  refine hq_meth (cc := cX11_spells) (maxL := 7) (ret := (some .int)) (own := RX11) hZ rfl (by decide +kernel) rfl (Nat.le_of_ble_eq_true rfl) ?_
  intro p e s m below meth c ls C hs hl
  have hx := C.1.1
  have hb := C.1.2.1
  unfold w_X11_spells at hw
  have hl : lv_has ls 7 [(0, .ref (B + 0)), (1, .int (w3 v1)), (2, .int (w3 v2)), (3, .int (w3 v3)), (4, .int (w3 v4))] := hl
  refine lv_iload_n hx hb dX11_spells_0 rfl (lv_at hl 1 rfl) ?_
  refine hq_if_lt (tgt := 24) C rv1 dX11_spells_1 (by decide) (fun h => ?_) (fun h => ?_)
  · have hw := hw.1 h
    refine hq_iconst C dX11_spells_24 ?_
    exact hq_iret C hs (by decide : rg (-1)) ⟨rfl, hw⟩ dX11_spells_25
  · have hw := hw.2 h
    refine lv_iload_n hx hb dX11_spells_4 rfl (lv_at hl 1 rfl) ?_
    refine hq_iconst C dX11_spells_5 ?_
    refine hq_icmp_gt (tgt := 24) C rv1 (by decide : rg 1) dX11_spells_6 (by decide) (fun h => ?_) (fun h => ?_)
    · have hw := hw.1 h
      refine hq_iconst C dX11_spells_24 ?_
      exact hq_iret C hs (by decide : rg (-1)) ⟨rfl, hw⟩ dX11_spells_25
    · have hw := hw.2 h
      refine lv_iload_n hx hb dX11_spells_9 rfl (lv_at hl 3 rfl) ?_
      refine hq_if_lt (tgt := 24) C rv3 dX11_spells_10 (by decide) (fun h => ?_) (fun h => ?_)
      · have hw := hw.1 h
        refine hq_iconst C dX11_spells_24 ?_
        exact hq_iret C hs (by decide : rg (-1)) ⟨rfl, hw⟩ dX11_spells_25
      · have hw := hw.2 h
        refine lv_iload_n hx hb dX11_spells_13 rfl (lv_at hl 3 rfl) ?_
        refine hq_iconst C dX11_spells_14 ?_
        refine hq_icmp_gt (tgt := 24) C rv3 (by decide : rg 1) dX11_spells_15 (by decide) (fun h => ?_) (fun h => ?_)
        · have hw := hw.1 h
          refine hq_iconst C dX11_spells_24 ?_
          exact hq_iret C hs (by decide : rg (-1)) ⟨rfl, hw⟩ dX11_spells_25
        · have hw := hw.2 h
          refine lv_iload hx hb dX11_spells_18 (lv_at hl 4 rfl) ?_
          refine hq_iconst C dX11_spells_20 ?_
          refine hq_icmp_ge (tgt := 26) C rv4 (by decide : rg (-1)) dX11_spells_21 (by decide) (fun h => ?_) (fun h => ?_)
          · have hw := hw.1 h
            refine lv_iload_n hx hb dX11_spells_26 rfl (lv_at hl 1 rfl) ?_
            refine hq_if_ne (tgt := 44) C rv1 dX11_spells_27 (by decide) (fun h => ?_) (fun h => ?_)
            · have hw := hw.1 h
              refine lv_aload_n hx hb dX11_spells_44 rfl (lv_at hl 0 rfl) ?_
              refine hq_getS (o := 0) C hs fX11_spells_36 tkC_0 (by decide) rfl dX11_spells_45 (fun g1 => ?_)
              obtain ⟨o2, eo2⟩ : ∃ y : Nat, y = (M 0 9).toNat := ⟨_, rfl⟩
              rw [← eo2] at g1 ⊢
              have hw := hw o2 eo2
              refine hq_getR (o := o2) C hs fX11_spells_114 g1 (by decide) rfl dX11_spells_48 ?_
              refine lv_iload_n hx hb dX11_spells_51 rfl (lv_at hl 2 rfl) ?_
              refine hq_cV (n := 1) (ci := 3) (o := (o2 + 38)) (qc := (TX3, 2)) C hs (c_X3_at l C.2.2.2.2.1 (o2 + 38) (tc_7_1 g1) v2 rv2 _ _ hw) gX11_spells_X3_at rfl ⟨rfl, rfl⟩ (by decide +kernel) ⟨Nat.le_of_ble_eq_true rfl, Nat.le_of_ble_eq_true rfl⟩ (tc_7_1 g1) (by decide) rfl rfl hl.1 rfl (Nat.le_of_ble_eq_true rfl) dX11_spells_52 (hq_kr (fun M9 H locs hw hs => ?_) (fun o3 M9 H locs ho3 hw hs => ?_))
              · obtain ⟨e9, hw⟩ := hw; rw [e9] at hs
                have hw := hw.1 rfl
                refine cb_X11_spells_55 v3 rv3 v4 rv4 none (fun x h => by cases h) C hw hs (lv_sub hl [3, 4] rfl) 
              · obtain ⟨e9, hw⟩ := hw; rw [e9] at hs
                have hw := hw.2 o3 rfl
                refine cb_X11_spells_55 v3 rv3 v4 rv4 (some o3) (fun x h => by cases h; exact ho3) C hw hs (lv_sub hl [3, 4] rfl) 
            · have hw := hw.2 h
              refine lv_aload_n hx hb dX11_spells_30 rfl (lv_at hl 0 rfl) ?_
              refine hq_getS (o := 0) C hs fX11_spells_36 tkC_0 (by decide) rfl dX11_spells_31 (fun g5 => ?_)
              obtain ⟨o6, eo6⟩ : ∃ y : Nat, y = (M 0 9).toNat := ⟨_, rfl⟩
              rw [← eo6] at g5 ⊢
              have hw := hw o6 eo6
              refine hq_getR (o := o6) C hs fX11_spells_104 g5 (by decide) rfl dX11_spells_34 ?_
              refine lv_iload_n hx hb dX11_spells_37 rfl (lv_at hl 2 rfl) ?_
              refine hq_cV (n := 1) (ci := 3) (o := (o6 + 1)) (qc := (TX3, 2)) C hs (c_X3_at l C.2.2.2.2.1 (o6 + 1) (tc_7_0 g5) v2 rv2 _ _ hw) gX11_spells_X3_at rfl ⟨rfl, rfl⟩ (by decide +kernel) ⟨Nat.le_of_ble_eq_true rfl, Nat.le_of_ble_eq_true rfl⟩ (tc_7_0 g5) (by decide) rfl rfl hl.1 rfl (Nat.le_of_ble_eq_true rfl) dX11_spells_38 (hq_kr (fun M9 H locs hw hs => ?_) (fun o7 M9 H locs ho7 hw hs => ?_))
              · obtain ⟨e9, hw⟩ := hw; rw [e9] at hs
                have hw := hw.1 rfl
                refine hq_goto (tgt := 55) C dX11_spells_41 (by decide) ?_
                refine cb_X11_spells_55 v3 rv3 v4 rv4 none (fun x h => by cases h) C hw hs (lv_sub hl [3, 4] rfl) 
              · obtain ⟨e9, hw⟩ := hw; rw [e9] at hs
                have hw := hw.2 o7 rfl
                refine hq_goto (tgt := 55) C dX11_spells_41 (by decide) ?_
                refine cb_X11_spells_55 v3 rv3 v4 rv4 (some o7) (fun x h => by cases h; exact ho7) C hw hs (lv_sub hl [3, 4] rfl) 
          · have hw := hw.2 h
            refine hq_iconst C dX11_spells_24 ?_
            exact hq_iret C hs (by decide : rg (-1)) ⟨rfl, hw⟩ dX11_spells_25
theorem iX11_capacity_11 : ∀ w ∈ u_ws RX11 TX11 11, w ∈ wsX11_capacity := fun w h => List.mem_cons_of_mem _ (List.mem_append_left _ (List.mem_append_left _ (List.mem_append_left _ (List.mem_append_left _ (List.mem_append_left _ (List.mem_append_right _ h))))))
set_option maxRecDepth 20000 in
theorem fX11_capacity_55 : hq_fl vwCl wsX11_capacity RX11 55 11 5 true (.object "HeadTables$Writer") := ⟨RX11, TX11, 11, tyX11, rfl, by decide, iX11_capacity_11, by decide +kernel, rfl, tyX11_ok 5 (by decide), tyX11_ok, nmX11⟩
set_option maxHeartbeats 4000000 in
set_option maxRecDepth 100000 in
theorem c_X11_capacity (l : Launch) {D : va_G} {cA : Nat → ClassId} {B : Nat} {Z : State → Prop} (hZ : hq_Zo Z (hq_in B YC.length)) (v1 : Int) (rv1 : rg v1) (M : hq_M) (k : Int → hq_M → Prop) (hw : w_X11_capacity v1 M k) : hq_T vwCl SLx l yX11_capacity wsX11_capacity ({ frames := 4, cells := 0, slots := 0, locals := 89 } : Room) D cA YC B Z [.ref (B + 0), .int (w3 v1)] M (hq_qi k) := by
  refine hq_meth (cc := cX11_capacity) (maxL := 2) (ret := (some .int)) (own := RX11) hZ rfl (by decide +kernel) rfl (Nat.le_of_ble_eq_true rfl) ?_
  intro p e s m below meth c ls C hs hl
  have hx := C.1.1
  have hb := C.1.2.1
  unfold w_X11_capacity at hw
  have hl : lv_has ls 2 [(0, .ref (B + 0)), (1, .int (w3 v1))] := hl
  refine lv_aload_n hx hb dX11_capacity_0 rfl (lv_at hl 0 rfl) ?_
  refine hq_getA (o := 0) C hs fX11_capacity_55 tkC_0 (by decide) rfl dX11_capacity_1 ?_
  refine lv_iload_n hx hb dX11_capacity_4 rfl (lv_at hl 1 rfl) ?_
  refine hq_cV (n := 1) (ci := 10) (o := 370) (qc := (TX10, 8)) C hs (c_X10_changeCapacity l C.2.2.2.2.1 370 tkC_370 v1 rv1 _ _ hw) gX11_capacity_X10_changeCapacity rfl ⟨rfl, rfl⟩ (by decide +kernel) ⟨Nat.le_of_ble_eq_true rfl, Nat.le_of_ble_eq_true rfl⟩ tkC_370 (by decide) rfl rfl hl.1 rfl (Nat.le_of_ble_eq_true rfl) dX11_capacity_5 (hq_ki (fun x2 M1 H locs rx2 hw hs => ?_))
  exact hq_iret C hs rx2 hw dX11_capacity_8
theorem iX11_inserts_11 : ∀ w ∈ u_ws RX11 TX11 11, w ∈ wsX11_inserts := fun w h => List.mem_cons_of_mem _ (List.mem_append_left _ (List.mem_append_left _ (List.mem_append_left _ (List.mem_append_left _ (List.mem_append_left _ (List.mem_append_left _ (List.mem_append_left _ (List.mem_append_right _ h))))))))
set_option maxRecDepth 20000 in
theorem fX11_inserts_55 : hq_fl vwCl wsX11_inserts RX11 55 11 5 true (.object "HeadTables$Writer") := ⟨RX11, TX11, 11, tyX11, rfl, by decide, iX11_inserts_11, by decide +kernel, rfl, tyX11_ok 5 (by decide), tyX11_ok, nmX11⟩
set_option maxHeartbeats 4000000 in
set_option maxRecDepth 100000 in
theorem c_X11_inserts (l : Launch) {D : va_G} {cA : Nat → ClassId} {B : Nat} {Z : State → Prop} (hZ : hq_Zo Z (hq_in B YC.length)) (v1 : Int) (rv1 : rg v1) (M : hq_M) (k : Int → hq_M → Prop) (hw : w_X11_inserts v1 M k) : hq_T vwCl SLx l yX11_inserts wsX11_inserts ({ frames := 5, cells := 0, slots := 0, locals := 111 } : Room) D cA YC B Z [.ref (B + 0), .int (w3 v1)] M (hq_qi k) := by
  refine hq_meth (cc := cX11_inserts) (maxL := 2) (ret := (some .int)) (own := RX11) hZ rfl (by decide +kernel) rfl (Nat.le_of_ble_eq_true rfl) ?_
  intro p e s m below meth c ls C hs hl
  have hx := C.1.1
  have hb := C.1.2.1
  unfold w_X11_inserts at hw
  have hl : lv_has ls 2 [(0, .ref (B + 0)), (1, .int (w3 v1))] := hl
  refine lv_aload_n hx hb dX11_inserts_0 rfl (lv_at hl 0 rfl) ?_
  refine hq_getA (o := 0) C hs fX11_inserts_55 tkC_0 (by decide) rfl dX11_inserts_1 ?_
  refine lv_iload_n hx hb dX11_inserts_4 rfl (lv_at hl 1 rfl) ?_
  refine hq_cV (n := 1) (ci := 10) (o := 370) (qc := (TX10, 8)) C hs (c_X10_insertField l C.2.2.2.2.1 370 tkC_370 v1 rv1 _ _ hw) gX11_inserts_X10_insertField rfl ⟨rfl, rfl⟩ (by decide +kernel) ⟨Nat.le_of_ble_eq_true rfl, Nat.le_of_ble_eq_true rfl⟩ tkC_370 (by decide) rfl rfl hl.1 rfl (Nat.le_of_ble_eq_true rfl) dX11_inserts_5 (hq_ki (fun x2 M1 H locs rx2 hw hs => ?_))
  exact hq_iret C hs rx2 hw dX11_inserts_8
theorem iX11_repeats_11 : ∀ w ∈ u_ws RX11 TX11 11, w ∈ wsX11_repeats := fun w h => List.mem_cons_of_mem _ (List.mem_append_left _ (List.mem_append_left _ (List.mem_append_left _ (List.mem_append_left _ (List.mem_append_right _ h)))))
set_option maxRecDepth 20000 in
theorem fX11_repeats_55 : hq_fl vwCl wsX11_repeats RX11 55 11 5 true (.object "HeadTables$Writer") := ⟨RX11, TX11, 11, tyX11, rfl, by decide, iX11_repeats_11, by decide +kernel, rfl, tyX11_ok 5 (by decide), tyX11_ok, nmX11⟩
set_option maxHeartbeats 4000000 in
set_option maxRecDepth 100000 in
theorem c_X11_repeats (l : Launch) {D : va_G} {cA : Nat → ClassId} {B : Nat} {Z : State → Prop} (hZ : hq_Zo Z (hq_in B YC.length)) (v1 : Int) (rv1 : rg v1) (M : hq_M) (k : Int → hq_M → Prop) (hw : w_X11_repeats v1 M k) : hq_T vwCl SLx l yX11_repeats wsX11_repeats ({ frames := 5, cells := 0, slots := 0, locals := 110 } : Room) D cA YC B Z [.ref (B + 0), .int (w3 v1)] M (hq_qi k) := by
  refine hq_meth (cc := cX11_repeats) (maxL := 2) (ret := (some .int)) (own := RX11) hZ rfl (by decide +kernel) rfl (Nat.le_of_ble_eq_true rfl) ?_
  intro p e s m below meth c ls C hs hl
  have hx := C.1.1
  have hb := C.1.2.1
  unfold w_X11_repeats at hw
  have hl : lv_has ls 2 [(0, .ref (B + 0)), (1, .int (w3 v1))] := hl
  refine lv_aload_n hx hb dX11_repeats_0 rfl (lv_at hl 0 rfl) ?_
  refine hq_getA (o := 0) C hs fX11_repeats_55 tkC_0 (by decide) rfl dX11_repeats_1 ?_
  refine lv_iload_n hx hb dX11_repeats_4 rfl (lv_at hl 1 rfl) ?_
  refine hq_cV (n := 1) (ci := 10) (o := 370) (qc := (TX10, 8)) C hs (c_X10_repeatEntry l C.2.2.2.2.1 370 tkC_370 v1 rv1 _ _ hw) gX11_repeats_X10_repeatEntry rfl ⟨rfl, rfl⟩ (by decide +kernel) ⟨Nat.le_of_ble_eq_true rfl, Nat.le_of_ble_eq_true rfl⟩ tkC_370 (by decide) rfl rfl hl.1 rfl (Nat.le_of_ble_eq_true rfl) dX11_repeats_5 (hq_ki (fun x2 M1 H locs rx2 hw hs => ?_))
  exact hq_iret C hs rx2 hw dX11_repeats_8
theorem iX11_puts_6 : ∀ w ∈ u_ws RX6 TX6 2, w ∈ wsX11_puts := fun w h => List.mem_cons_of_mem _ (List.mem_append_left _ (List.mem_append_right _ h))
theorem iX11_puts_7 : ∀ w ∈ u_ws RX7 TX7 4, w ∈ wsX11_puts := fun w h => List.mem_cons_of_mem _ (List.mem_append_left _ (List.mem_append_left _ (List.mem_append_right _ h)))
theorem iX11_puts_11 : ∀ w ∈ u_ws RX11 TX11 11, w ∈ wsX11_puts := fun w h => List.mem_cons_of_mem _ (List.mem_append_left _ (List.mem_append_left _ (List.mem_append_left _ (List.mem_append_right _ h))))
set_option maxRecDepth 20000 in
theorem fX11_puts_18 : hq_fl vwCl wsX11_puts RX11 18 11 1 true (.object "HeadTables$Row") := ⟨RX11, TX11, 11, tyX11, rfl, by decide, iX11_puts_11, by decide +kernel, rfl, tyX11_ok 1 (by decide), tyX11_ok, nmX11⟩
set_option maxRecDepth 20000 in
theorem fX11_puts_36 : hq_fl vwCl wsX11_puts RX11 36 11 9 false (.object "HeadTables$Settings") := ⟨RX11, TX11, 11, tyX11, rfl, by decide, iX11_puts_11, by decide +kernel, rfl, tyX11_ok 9 (by decide), tyX11_ok, nmX11⟩
set_option maxRecDepth 20000 in
theorem fX11_puts_92 : hq_fl vwCl wsX11_puts RX11 92 6 1 false .int := ⟨RX6, TX6, 2, tyX6, rfl, by decide, iX11_puts_6, by decide +kernel, rfl, tyX6_ok 1 (by decide), tyX6_ok, nmX6⟩
set_option maxRecDepth 20000 in
theorem fX11_puts_104 : hq_fl vwCl wsX11_puts RX11 104 7 0 true (.object "HeadTables$Pairs") := ⟨RX7, TX7, 4, tyX7, rfl, by decide, iX11_puts_7, by decide +kernel, rfl, tyX7_ok 0 (by decide), tyX7_ok, nmX7⟩
set_option maxHeartbeats 4000000 in
set_option maxRecDepth 100000 in
theorem c_X11_puts (l : Launch) {D : va_G} {cA : Nat → ClassId} {B : Nat} {Z : State → Prop} (hZ : hq_Zo Z (hq_in B YC.length)) (v1 : Int) (rv1 : rg v1) (M : hq_M) (k : Int → hq_M → Prop) (hw : w_X11_puts v1 M k) : hq_T vwCl SLx l yX11_puts wsX11_puts ({ frames := 1, cells := 0, slots := 0, locals := 21 } : Room) D cA YC B Z [.ref (B + 0), .int (w3 v1)] M (hq_qi k) := by
  refine hq_meth (cc := cX11_puts) (maxL := 2) (ret := (some .int)) (own := RX11) hZ rfl (by decide +kernel) rfl (Nat.le_of_ble_eq_true rfl) ?_
  intro p e s m below meth c ls C hs hl
  have hx := C.1.1
  have hb := C.1.2.1
  unfold w_X11_puts at hw
  have hl : lv_has ls 2 [(0, .ref (B + 0)), (1, .int (w3 v1))] := hl
  refine lv_aload_n hx hb dX11_puts_0 rfl (lv_at hl 0 rfl) ?_
  refine hq_getS (o := 0) C hs fX11_puts_36 tkC_0 (by decide) rfl dX11_puts_1 (fun g1 => ?_)
  obtain ⟨o2, eo2⟩ : ∃ y : Nat, y = (M 0 9).toNat := ⟨_, rfl⟩
  rw [← eo2] at g1 ⊢
  have hw := hw o2 eo2
  refine hq_getR (o := o2) C hs fX11_puts_104 g1 (by decide) rfl dX11_puts_4 ?_
  refine lv_iload_n hx hb dX11_puts_7 rfl (lv_at hl 1 rfl) ?_
  refine hq_cV (n := 1) (ci := 3) (o := (o2 + 1)) (qc := (TX3, 2)) C hs (c_X3_at l C.2.2.2.2.1 (o2 + 1) (tc_7_0 g1) v1 rv1 _ _ hw) gX11_puts_X3_at rfl ⟨rfl, rfl⟩ (by decide +kernel) ⟨Nat.le_of_ble_eq_true rfl, Nat.le_of_ble_eq_true rfl⟩ (tc_7_0 g1) (by decide) rfl rfl hl.1 rfl (Nat.le_of_ble_eq_true rfl) dX11_puts_8 (hq_kr (fun M9 H locs hw hs => ?_) (fun o3 M9 H locs ho3 hw hs => ?_))
  · obtain ⟨e9, hw⟩ := hw; rw [e9] at hs
    have hw := hw.1 rfl
    refine lv_ifnonnullN hx hb dX11_puts_11 ?_
    refine hq_iconst C dX11_puts_14 ?_
    exact hq_iret C hs (by decide : rg (-1)) hw dX11_puts_15
  · obtain ⟨e9, hw⟩ := hw; rw [e9] at hs
    have hw := hw.2 o3 rfl
    refine lv_ifnonnull (tgt := 16) hx hb dX11_puts_11 (by decide) ?_
    refine lv_aload_n hx hb dX11_puts_16 rfl (lv_at hl 0 rfl) ?_
    refine hq_getA (o := 0) C hs fX11_puts_18 tkC_0 (by decide) rfl dX11_puts_17 ?_
    refine lv_iload_n hx hb dX11_puts_20 rfl (lv_at hl 1 rfl) ?_
    refine hq_cV (n := 1) (ci := 6) (o := 3) (qc := (TX6, 2)) C hs (c_X6_add l C.2.2.2.2.1 3 tkC_3 v1 rv1 _ _ hw) gX11_puts_X6_add rfl ⟨rfl, rfl⟩ (by decide +kernel) ⟨Nat.le_of_ble_eq_true rfl, Nat.le_of_ble_eq_true rfl⟩ tkC_3 (by decide) rfl rfl hl.1 rfl (Nat.le_of_ble_eq_true rfl) dX11_puts_21 (hq_kz (fun x6 M5 H locs rx6 hw hs => ?_))
    refine hq_if_eq (tgt := 37) C (rb_rg rx6) dX11_puts_24 (by decide) (fun h => ?_) (fun h => ?_)
    · have hw := hw.1 h
      refine hq_bipush C dX11_puts_37 (by decide) ?_
      exact hq_iret C hs (by decide : rg (-3)) hw dX11_puts_39
    · have hw := hw.2 h
      refine lv_aload_n hx hb dX11_puts_27 rfl (lv_at hl 0 rfl) ?_
      refine hq_getA (o := 0) C hs fX11_puts_18 tkC_0 (by decide) rfl dX11_puts_28 ?_
      refine hq_getI (o := 3) C hs fX11_puts_92 tkC_3 (by decide) rfl dX11_puts_31 (fun g7 => ?_)
      refine hq_goto (tgt := 39) C dX11_puts_34 (by decide) ?_
      exact hq_iret C hs g7 hw dX11_puts_39
theorem iX11_takes_6 : ∀ w ∈ u_ws RX6 TX6 2, w ∈ wsX11_takes := fun w h => List.mem_cons_of_mem _ (List.mem_append_right _ h)
theorem iX11_takes_11 : ∀ w ∈ u_ws RX11 TX11 11, w ∈ wsX11_takes := fun w h => List.mem_cons_of_mem _ (List.mem_append_left _ (List.mem_append_right _ h))
set_option maxRecDepth 20000 in
theorem fX11_takes_18 : hq_fl vwCl wsX11_takes RX11 18 11 1 true (.object "HeadTables$Row") := ⟨RX11, TX11, 11, tyX11, rfl, by decide, iX11_takes_11, by decide +kernel, rfl, tyX11_ok 1 (by decide), tyX11_ok, nmX11⟩
set_option maxRecDepth 20000 in
theorem fX11_takes_92 : hq_fl vwCl wsX11_takes RX11 92 6 1 false .int := ⟨RX6, TX6, 2, tyX6, rfl, by decide, iX11_takes_6, by decide +kernel, rfl, tyX6_ok 1 (by decide), tyX6_ok, nmX6⟩
set_option maxHeartbeats 4000000 in
set_option maxRecDepth 100000 in
theorem c_X11_takes (l : Launch) {D : va_G} {cA : Nat → ClassId} {B : Nat} {Z : State → Prop} (hZ : hq_Zo Z (hq_in B YC.length))  (M : hq_M) (k : Int → hq_M → Prop) (hw : w_X11_takes  M k) : hq_T vwCl SLx l yX11_takes wsX11_takes ({ frames := 2, cells := 0, slots := 0, locals := 42 } : Room) D cA YC B Z [.ref (B + 0)] M (hq_qi k) := by
  refine hq_meth (cc := cX11_takes) (maxL := 1) (ret := (some .int)) (own := RX11) hZ rfl (by decide +kernel) rfl (Nat.le_of_ble_eq_true rfl) ?_
  intro p e s m below meth c ls C hs hl
  have hx := C.1.1
  have hb := C.1.2.1
  unfold w_X11_takes at hw
  have hl : lv_has ls 1 [(0, .ref (B + 0))] := hl
  refine lv_aload_n hx hb dX11_takes_0 rfl (lv_at hl 0 rfl) ?_
  refine hq_getA (o := 0) C hs fX11_takes_18 tkC_0 (by decide) rfl dX11_takes_1 ?_
  refine hq_getI (o := 3) C hs fX11_takes_92 tkC_3 (by decide) rfl dX11_takes_4 (fun g1 => ?_)
  refine hq_if_ne (tgt := 15) C g1 dX11_takes_7 (by decide) (fun h => ?_) (fun h => ?_)
  · have hw := hw.1 h
    refine lv_aload_n hx hb dX11_takes_15 rfl (lv_at hl 0 rfl) ?_
    refine hq_getA (o := 0) C hs fX11_takes_18 tkC_0 (by decide) rfl dX11_takes_16 ?_
    refine hq_cV (n := 0) (ci := 6) (o := 3) (qc := (TX6, 2)) C hs (c_X6_removeLast l C.2.2.2.2.1 3 tkC_3 _ _ hw) gX11_takes_X6_removeLast rfl ⟨rfl, rfl⟩ (by decide +kernel) ⟨Nat.le_of_ble_eq_true rfl, Nat.le_of_ble_eq_true rfl⟩ tkC_3 (by decide) rfl rfl hl.1 rfl (Nat.le_of_ble_eq_true rfl) dX11_takes_19 (hq_ki (fun x3 M2 H locs rx3 hw hs => ?_))
    exact hq_iret C hs rx3 hw dX11_takes_22
  · have hw := hw.2 h
    refine hq_bipush C dX11_takes_10 (by decide) ?_
    refine hq_goto (tgt := 22) C dX11_takes_12 (by decide) ?_
    exact hq_iret C hs (by decide : rg (-2)) hw dX11_takes_22
theorem iX11_mayReferToAny_7 : ∀ w ∈ u_ws RX7 TX7 4, w ∈ wsX11_mayReferToAny := fun w h => List.mem_cons_of_mem _ (List.mem_append_left _ (List.mem_append_left _ (List.mem_append_right _ h)))
theorem iX11_mayReferToAny_10 : ∀ w ∈ u_ws RX10 TX10 8, w ∈ wsX11_mayReferToAny := fun w h => List.mem_cons_of_mem _ (List.mem_append_left _ (List.mem_append_left _ (List.mem_append_left _ (List.mem_append_right _ h))))
theorem iX11_mayReferToAny_11 : ∀ w ∈ u_ws RX11 TX11 11, w ∈ wsX11_mayReferToAny := fun w h => List.mem_cons_of_mem _ (List.mem_append_left _ (List.mem_append_left _ (List.mem_append_left _ (List.mem_append_left _ (List.mem_append_right _ h)))))
set_option maxRecDepth 20000 in
theorem fX11_mayReferToAny_36 : hq_fl vwCl wsX11_mayReferToAny RX11 36 11 9 false (.object "HeadTables$Settings") := ⟨RX11, TX11, 11, tyX11, rfl, by decide, iX11_mayReferToAny_11, by decide +kernel, rfl, tyX11_ok 9 (by decide), tyX11_ok, nmX11⟩
set_option maxRecDepth 20000 in
theorem fX11_mayReferToAny_46 : hq_fl vwCl wsX11_mayReferToAny RX11 46 11 4 true (.object "HeadTables$Letters") := ⟨RX11, TX11, 11, tyX11, rfl, by decide, iX11_mayReferToAny_11, by decide +kernel, rfl, tyX11_ok 4 (by decide), tyX11_ok, nmX11⟩
set_option maxRecDepth 20000 in
theorem fX11_mayReferToAny_55 : hq_fl vwCl wsX11_mayReferToAny RX11 55 11 5 true (.object "HeadTables$Writer") := ⟨RX11, TX11, 11, tyX11, rfl, by decide, iX11_mayReferToAny_11, by decide +kernel, rfl, tyX11_ok 5 (by decide), tyX11_ok, nmX11⟩
set_option maxRecDepth 20000 in
theorem fX11_mayReferToAny_174 : hq_fl vwCl wsX11_mayReferToAny RX11 174 10 5 false .int := ⟨RX10, TX10, 8, tyX10, rfl, by decide, iX11_mayReferToAny_10, by decide +kernel, rfl, tyX10_ok 5 (by decide), tyX10_ok, nmX10⟩
set_option maxRecDepth 20000 in
theorem fX11_mayReferToAny_180 : hq_fl vwCl wsX11_mayReferToAny RX11 180 7 3 false .int := ⟨RX7, TX7, 4, tyX7, rfl, by decide, iX11_mayReferToAny_7, by decide +kernel, rfl, tyX7_ok 3 (by decide), tyX7_ok, nmX7⟩
set_option maxHeartbeats 4000000 in
set_option maxRecDepth 100000 in
theorem c_X11_mayReferToAny (l : Launch) {D : va_G} {cA : Nat → ClassId} {B : Nat} {Z : State → Prop} (hZ : hq_Zo Z (hq_in B YC.length)) (v1 : Int) (rv1 : rg v1) (M : hq_M) (k : Int → Prop) (hw : w_X11_mayReferToAny v1 M k) : hq_T vwCl SLx l yX11_mayReferToAny wsX11_mayReferToAny ({ frames := 2, cells := 0, slots := 0, locals := 45 } : Room) D cA YC B Z [.ref (B + 0), .int (w3 v1)] M (hq_qz (fun z M' => M' = M ∧ k z)) := by
  refine hq_meth (cc := cX11_mayReferToAny) (maxL := 2) (ret := (some .boolean)) (own := RX11) hZ rfl (by decide +kernel) rfl (Nat.le_of_ble_eq_true rfl) ?_
  intro p e s m below meth c ls C hs hl
  have hx := C.1.1
  have hb := C.1.2.1
  unfold w_X11_mayReferToAny at hw
  have hl : lv_has ls 2 [(0, .ref (B + 0)), (1, .int (w3 v1))] := hl
  refine lv_iload_n hx hb dX11_mayReferToAny_0 rfl (lv_at hl 1 rfl) ?_
  refine hq_if_le (tgt := 32) C rv1 dX11_mayReferToAny_1 (by decide) (fun h => ?_) (fun h => ?_)
  · have hw := hw.1 h
    refine hq_iconst C dX11_mayReferToAny_32 ?_
    exact hq_zret C hs (by decide) ⟨rfl, hw⟩ dX11_mayReferToAny_33
  · have hw := hw.2 h
    refine lv_aload_n hx hb dX11_mayReferToAny_4 rfl (lv_at hl 0 rfl) ?_
    refine hq_getA (o := 0) C hs fX11_mayReferToAny_46 tkC_0 (by decide) rfl dX11_mayReferToAny_5 ?_
    refine lv_aload_n hx hb dX11_mayReferToAny_8 rfl (lv_at hl 0 rfl) ?_
    refine hq_getA (o := 0) C hs fX11_mayReferToAny_55 tkC_0 (by decide) rfl dX11_mayReferToAny_9 ?_
    refine hq_getI (o := 370) C hs fX11_mayReferToAny_174 tkC_370 (by decide) rfl dX11_mayReferToAny_12 (fun g1 => ?_)
    refine hq_cV (n := 1) (ci := 1) (o := 168) (qc := (TX1, 2)) C hs (c_X1_atRisk l C.2.2.2.2.1 (M 370 5) g1 _ _ hw) gX11_mayReferToAny_X1_atRisk rfl ⟨rfl, rfl⟩ (by decide +kernel) ⟨Nat.le_of_ble_eq_true rfl, Nat.le_of_ble_eq_true rfl⟩ tkC_168 (by decide) rfl rfl hl.1 rfl (Nat.le_of_ble_eq_true rfl) dX11_mayReferToAny_15 (hq_ki (fun x2 M9 H locs rx2 hw hs => ?_))
    obtain ⟨e9, hw⟩ := hw; rw [e9] at hs
    refine lv_aload_n hx hb dX11_mayReferToAny_18 rfl (lv_at hl 0 rfl) ?_
    refine hq_getS (o := 0) C hs fX11_mayReferToAny_36 tkC_0 (by decide) rfl dX11_mayReferToAny_19 (fun g3 => ?_)
    obtain ⟨o4, eo4⟩ : ∃ y : Nat, y = (M 0 9).toNat := ⟨_, rfl⟩
    rw [← eo4] at g3 ⊢
    have hw := hw o4 eo4
    refine hq_getI (o := o4) C hs fX11_mayReferToAny_180 g3 (by decide) rfl dX11_mayReferToAny_22 (fun g5 => ?_)
    refine hq_icmp_ge (tgt := 32) C rx2 g5 dX11_mayReferToAny_25 (by decide) (fun h => ?_) (fun h => ?_)
    · have hw := hw.1 h
      refine hq_iconst C dX11_mayReferToAny_32 ?_
      exact hq_zret C hs (by decide) ⟨rfl, hw⟩ dX11_mayReferToAny_33
    · have hw := hw.2 h
      refine hq_iconst C dX11_mayReferToAny_28 ?_
      refine hq_goto (tgt := 33) C dX11_mayReferToAny_29 (by decide) ?_
      exact hq_zret C hs (by decide) ⟨rfl, hw⟩ dX11_mayReferToAny_33
theorem iX11_sends_0 : ∀ w ∈ u_ws RX0 TX0 8, w ∈ wsX11_sends := fun w h => List.mem_cons_of_mem _ (List.mem_append_left _ (List.mem_append_left _ (List.mem_append_left _ (List.mem_append_left _ (List.mem_append_left _ (List.mem_append_left _ (List.mem_append_left _ (List.mem_append_right _ h))))))))
theorem iX11_sends_1 : ∀ w ∈ u_ws RX1 TX1 2, w ∈ wsX11_sends := fun w h => List.mem_cons_of_mem _ (List.mem_append_left _ (List.mem_append_left _ (List.mem_append_left _ (List.mem_append_left _ (List.mem_append_left _ (List.mem_append_left _ (List.mem_append_left _ (List.mem_append_left _ (List.mem_append_right _ h)))))))))
theorem iX11_sends_11 : ∀ w ∈ u_ws RX11 TX11 11, w ∈ wsX11_sends := fun w h => List.mem_cons_of_mem _ (List.mem_append_left _ (List.mem_append_left _ (List.mem_append_left _ (List.mem_append_left _ (List.mem_append_left _ (List.mem_append_left _ (List.mem_append_left _ (List.mem_append_left _ (List.mem_append_left _ (List.mem_append_right _ h))))))))))
set_option maxRecDepth 20000 in
theorem fX11_sends_18 : hq_fl vwCl wsX11_sends RX11 18 11 1 true (.object "HeadTables$Row") := ⟨RX11, TX11, 11, tyX11, rfl, by decide, iX11_sends_11, by decide +kernel, rfl, tyX11_ok 1 (by decide), tyX11_ok, nmX11⟩
set_option maxRecDepth 20000 in
theorem fX11_sends_46 : hq_fl vwCl wsX11_sends RX11 46 11 4 true (.object "HeadTables$Letters") := ⟨RX11, TX11, 11, tyX11, rfl, by decide, iX11_sends_11, by decide +kernel, rfl, tyX11_ok 4 (by decide), tyX11_ok, nmX11⟩
set_option maxRecDepth 20000 in
theorem fX11_sends_55 : hq_fl vwCl wsX11_sends RX11 55 11 5 true (.object "HeadTables$Writer") := ⟨RX11, TX11, 11, tyX11, rfl, by decide, iX11_sends_11, by decide +kernel, rfl, tyX11_ok 5 (by decide), tyX11_ok, nmX11⟩
set_option maxRecDepth 20000 in
theorem fX11_sends_79 : hq_fl vwCl wsX11_sends RX11 79 1 1 false .int := ⟨RX1, TX1, 2, tyX1, rfl, by decide, iX11_sends_1, by decide +kernel, rfl, tyX1_ok 1 (by decide), tyX1_ok, nmX1⟩
set_option maxRecDepth 20000 in
theorem fX11_sends_155 : hq_fl vwCl wsX11_sends RX11 155 0 0 true .int := ⟨RX0, TX0, 8, tyX0, rfl, by decide, iX11_sends_0, by decide +kernel, rfl, tyX0_ok 0 (by decide), tyX0_ok, nmX0⟩
set_option maxHeartbeats 4000000 in
set_option maxRecDepth 100000 in
theorem cb_X11_sends_54 {p : Program} {l : Launch} {e : Env} {s : State} {m : MethodId} {args : Array Value} {below : List Frame} {meth : Method} {c : Code} {D : va_G} {cA : Nat → ClassId} {B : Nat} {Z : State → Prop} (v2 : Nat) (hv2 : YC[v2]? = some (0, 0)) (t1 : Nat) (ht1 : YC[t1]? = some (0, 0)) (t2 : Int) (rt2 : rb t2) (t3 : Int) (rt3 : rb t3)  {k : Int → hq_M → Prop} {M : hq_M} {H : Heap} {locs : List Loc} {ls : Array Slot} (C : hq_C vwCl p m c cX11_sends 3 s args wsX11_sends RX11 meth (some .int) D cA (hq_in B YC.length) Z)
    (hw : b_X11_sends_54 v2 t1 t2 t3 k M) (hs : hq_S vwCl SLx D cA YC B s.heap M H locs) (hl : lv_has ls 3 [(0, .ref (B + 0)), (2, .ref (B + v2))])
     : W p l e ({ frames := 7, cells := 0, slots := 0, locals := 162 } : Room) s m args below meth c H locs 0 0 (MQ below (hq_Q vwCl SLx D cA YC B (hq_qi k)) args s 0 0 (hq_in B YC.length)) (F0 m 54 ls [.int (w3 t3), .int (w3 t2), .ref (B + t1), .ref (B + 370)]) := by
  have hx := C.1.1
  have hb := C.1.2.1
  unfold b_X11_sends_54 at hw
  refine hq_cV (n := 3) (ci := 10) (o := 370) (qc := (TX10, 8)) C hs (c_X10_encode l C.2.2.2.2.1 370 tkC_370 t1 ht1 t2 rt2 t3 rt3 _ _ hw) gX11_sends_X10_encode rfl ⟨rfl, rfl⟩ (by decide +kernel) ⟨Nat.le_of_ble_eq_true rfl, Nat.le_of_ble_eq_true rfl⟩ tkC_370 (by decide) rfl rfl hl.1 rfl (Nat.le_of_ble_eq_true rfl) dX11_sends_54 (hq_kv (fun M1 H locs hw hs => ?_))
  refine lv_aload_n hx hb dX11_sends_57 rfl (lv_at hl 0 rfl) ?_
  refine hq_getA (o := 0) C hs fX11_sends_46 tkC_0 (by decide) rfl dX11_sends_58 ?_
  refine lv_dup hx hb dX11_sends_61 rfl ?_
  refine hq_getI (o := 168) C hs fX11_sends_79 tkC_168 (by decide) rfl dX11_sends_62 (fun g2 => ?_)
  refine hq_iconst C dX11_sends_65 ?_
  obtain ⟨g3, hw⟩ := hw
  refine hq_iadd C dX11_sends_66 ?_
  refine hq_putI (o := 168) C hs fX11_sends_79 tkC_168 (by decide) rfl g3 dX11_sends_67 (fun M4 eM4 H locs hs => ?_)
  have hw := hw M4 eM4
  refine lv_aload_n hx hb dX11_sends_70 rfl (lv_at hl 0 rfl) ?_
  refine hq_getA (o := 0) C hs fX11_sends_18 tkC_0 (by decide) rfl dX11_sends_71 ?_
  refine hq_cV (n := 0) (ci := 6) (o := 3) (qc := (TX6, 2)) C hs (c_X6_empty l C.2.2.2.2.1 3 tkC_3 _ _ hw) gX11_sends_X6_empty rfl ⟨rfl, rfl⟩ (by decide +kernel) ⟨Nat.le_of_ble_eq_true rfl, Nat.le_of_ble_eq_true rfl⟩ tkC_3 (by decide) rfl rfl hl.1 rfl (Nat.le_of_ble_eq_true rfl) dX11_sends_74 (hq_kv (fun M5 H locs hw hs => ?_))
  refine lv_aload_n hx hb dX11_sends_77 rfl (lv_at hl 1 rfl) ?_
  refine hq_getI (o := v2) C hs fX11_sends_155 hv2 (by decide) rfl dX11_sends_78 (fun g6 => ?_)
  exact hq_iret C hs g6 hw dX11_sends_81
set_option maxHeartbeats 4000000 in
set_option maxRecDepth 100000 in
theorem c_X11_sends (l : Launch) {D : va_G} {cA : Nat → ClassId} {B : Nat} {Z : State → Prop} (hZ : hq_Zo Z (hq_in B YC.length)) (v1 : Int) (rv1 : rg v1) (M : hq_M) (k : Int → hq_M → Prop) (hw : w_X11_sends v1 M k) : hq_T vwCl SLx l yX11_sends wsX11_sends ({ frames := 7, cells := 0, slots := 0, locals := 162 } : Room) D cA YC B Z [.ref (B + 0), .int (w3 v1)] M (hq_qi k) := by
  refine hq_meth (cc := cX11_sends) (maxL := 3) (ret := (some .int)) (own := RX11) hZ rfl (by decide +kernel) rfl (Nat.le_of_ble_eq_true rfl) ?_
  intro p e s m below meth c ls C hs hl
  have hx := C.1.1
  have hb := C.1.2.1
  unfold w_X11_sends at hw
  have hl : lv_has ls 3 [(0, .ref (B + 0)), (1, .int (w3 v1))] := hl
  refine lv_iload_n hx hb dX11_sends_0 rfl (lv_at hl 1 rfl) ?_
  refine hq_if_lt (tgt := 9) C rv1 dX11_sends_1 (by decide) (fun h => ?_) (fun h => ?_)
  · have hw := hw.1 h
    refine hq_iconst C dX11_sends_9 ?_
    exact hq_iret C hs (by decide : rg (-1)) hw dX11_sends_10
  · have hw := hw.2 h
    refine lv_iload_n hx hb dX11_sends_4 rfl (lv_at hl 1 rfl) ?_
    refine hq_iconst C dX11_sends_5 ?_
    refine hq_icmp_le (tgt := 11) C rv1 (by decide : rg 2) dX11_sends_6 (by decide) (fun h => ?_) (fun h => ?_)
    · have hw := hw.1 h
      refine lv_aload_n hx hb dX11_sends_11 rfl (lv_at hl 0 rfl) ?_
      refine hq_getA (o := 0) C hs fX11_sends_46 tkC_0 (by decide) rfl dX11_sends_12 ?_
      refine hq_cV (n := 0) (ci := 1) (o := 168) (qc := (TX1, 2)) C hs (c_X1_next l C.2.2.2.2.1 _ _ hw) gX11_sends_X1_next rfl ⟨rfl, rfl⟩ (by decide +kernel) ⟨Nat.le_of_ble_eq_true rfl, Nat.le_of_ble_eq_true rfl⟩ tkC_168 (by decide) rfl rfl hl.1 rfl (Nat.le_of_ble_eq_true rfl) dX11_sends_15 (hq_kr (fun M9 H locs hw hs => ?_) (fun o1 M9 H locs ho1 hw hs => ?_))
      · obtain ⟨e9, hw⟩ := hw; rw [e9] at hs
        have hw := hw.1 rfl
        refine lv_astore_nN (lv' := [(2, .null), (0, .ref (B + 0)), (1, .int (w3 v1))]) hx hb dX11_sends_18 rfl hl (by decide) rfl (fun ls hl => ?_)
        refine lv_aload_nN hx hb dX11_sends_19 rfl (lv_at hl 0 rfl) ?_
        refine lv_ifnonnullN hx hb dX11_sends_20 ?_
        refine hq_bipush C dX11_sends_23 (by decide) ?_
        exact hq_iret C hs (by decide : rg (-3)) hw dX11_sends_25
      · obtain ⟨e9, hw⟩ := hw; rw [e9] at hs
        have hw := hw.2 o1 rfl
        refine lv_astore_n (lv' := [(2, .ref (B + o1)), (0, .ref (B + 0)), (1, .int (w3 v1))]) hx hb dX11_sends_18 rfl hl (by decide) rfl (fun ls hl => ?_)
        refine lv_aload_n hx hb dX11_sends_19 rfl (lv_at hl 0 rfl) ?_
        refine lv_ifnonnull (tgt := 26) hx hb dX11_sends_20 (by decide) ?_
        refine lv_aload_n hx hb dX11_sends_26 rfl (lv_at hl 0 rfl) ?_
        refine lv_aload_n hx hb dX11_sends_27 rfl (lv_at hl 1 rfl) ?_
        refine hq_getA (o := 0) C hs fX11_sends_18 tkC_0 (by decide) rfl dX11_sends_28 ?_
        refine hq_cV (n := 1) (ci := 0) (o := o1) (qc := (TX0, 8)) C hs (c_X0_begin l C.2.2.2.2.1 o1 ho1 3 tkC_3 _ _ hw) gX11_sends_X0_begin rfl ⟨rfl, rfl⟩ (by decide +kernel) ⟨Nat.le_of_ble_eq_true rfl, Nat.le_of_ble_eq_true rfl⟩ ho1 (by decide) rfl rfl hl.1 rfl (Nat.le_of_ble_eq_true rfl) dX11_sends_31 (hq_kv (fun M3 H locs hw hs => ?_))
        refine lv_aload_n hx hb dX11_sends_34 rfl (lv_at hl 1 rfl) ?_
        refine hq_getA (o := 0) C hs fX11_sends_55 tkC_0 (by decide) rfl dX11_sends_35 ?_
        refine lv_aload_n hx hb dX11_sends_38 rfl (lv_at hl 0 rfl) ?_
        refine lv_aload_n hx hb dX11_sends_39 rfl (lv_at hl 1 rfl) ?_
        refine lv_iload_n hx hb dX11_sends_40 rfl (lv_at hl 2 rfl) ?_
        refine hq_cV (n := 1) (ci := 11) (o := 0) (qc := (TX11, 11)) C hs (c_X11_mayReferToAny l C.2.2.2.2.1 v1 rv1 _ _ hw) gX11_sends_X11_mayReferToAny rfl ⟨rfl, rfl⟩ (by decide +kernel) ⟨Nat.le_of_ble_eq_true rfl, Nat.le_of_ble_eq_true rfl⟩ tkC_0 (by decide) rfl rfl hl.1 rfl (Nat.le_of_ble_eq_true rfl) dX11_sends_41 (hq_kz (fun x4 M9 H locs rx4 hw hs => ?_))
        obtain ⟨e9, hw⟩ := hw; rw [e9] at hs
        refine lv_iload_n hx hb dX11_sends_44 rfl (lv_at hl 2 rfl) ?_
        refine hq_iconst C dX11_sends_45 ?_
        refine hq_icmp_ne (tgt := 53) C rv1 (by decide : rg 2) dX11_sends_46 (by decide) (fun h => ?_) (fun h => ?_)
        · have hw := hw.1 h
          refine hq_iconst C dX11_sends_53 ?_
          refine cb_X11_sends_54 o1 ho1 o1 ho1 x4 rx4 0 (by decide) C hw hs (lv_sub hl [1, 0] rfl) 
        · have hw := hw.2 h
          refine hq_iconst C dX11_sends_49 ?_
          refine hq_goto (tgt := 54) C dX11_sends_50 (by decide) ?_
          refine cb_X11_sends_54 o1 ho1 o1 ho1 x4 rx4 1 (by decide) C hw hs (lv_sub hl [1, 0] rfl) 
    · have hw := hw.2 h
      refine hq_iconst C dX11_sends_9 ?_
      exact hq_iret C hs (by decide : rg (-1)) hw dX11_sends_10
theorem iX11_cost_0 : ∀ w ∈ u_ws RX0 TX0 8, w ∈ wsX11_cost := fun w h => List.mem_cons_of_mem _ (List.mem_append_left _ (List.mem_append_left _ (List.mem_append_left _ (List.mem_append_left _ (List.mem_append_left _ (List.mem_append_right _ h))))))
theorem iX11_cost_6 : ∀ w ∈ u_ws RX6 TX6 2, w ∈ wsX11_cost := fun w h => List.mem_cons_of_mem _ (List.mem_append_left _ (List.mem_append_left _ (List.mem_append_left _ (List.mem_append_left _ (List.mem_append_left _ (List.mem_append_left _ (List.mem_append_right _ h)))))))
theorem iX11_cost_8 : ∀ w ∈ u_ws RX8 TX8 5, w ∈ wsX11_cost := fun w h => List.mem_cons_of_mem _ (List.mem_append_left _ (List.mem_append_left _ (List.mem_append_left _ (List.mem_append_left _ (List.mem_append_left _ (List.mem_append_left _ (List.mem_append_left _ (List.mem_append_right _ h))))))))
theorem iX11_cost_10 : ∀ w ∈ u_ws RX10 TX10 8, w ∈ wsX11_cost := fun w h => List.mem_cons_of_mem _ (List.mem_append_left _ (List.mem_append_left _ (List.mem_append_left _ (List.mem_append_left _ (List.mem_append_left _ (List.mem_append_left _ (List.mem_append_left _ (List.mem_append_left _ (List.mem_append_right _ h)))))))))
theorem iX11_cost_11 : ∀ w ∈ u_ws RX11 TX11 11, w ∈ wsX11_cost := fun w h => List.mem_cons_of_mem _ (List.mem_append_left _ (List.mem_append_left _ (List.mem_append_left _ (List.mem_append_left _ (List.mem_append_left _ (List.mem_append_left _ (List.mem_append_left _ (List.mem_append_left _ (List.mem_append_left _ (List.mem_append_right _ h))))))))))
set_option maxRecDepth 20000 in
theorem fX11_cost_18 : hq_fl vwCl wsX11_cost RX11 18 11 1 true (.object "HeadTables$Row") := ⟨RX11, TX11, 11, tyX11, rfl, by decide, iX11_cost_11, by decide +kernel, rfl, tyX11_ok 1 (by decide), tyX11_ok, nmX11⟩
set_option maxRecDepth 20000 in
theorem fX11_cost_55 : hq_fl vwCl wsX11_cost RX11 55 11 5 true (.object "HeadTables$Writer") := ⟨RX11, TX11, 11, tyX11, rfl, by decide, iX11_cost_11, by decide +kernel, rfl, tyX11_ok 5 (by decide), tyX11_ok, nmX11⟩
set_option maxRecDepth 20000 in
theorem fX11_cost_66 : hq_fl vwCl wsX11_cost RX11 66 11 7 true (.object "HeadTables$Writer") := ⟨RX11, TX11, 11, tyX11, rfl, by decide, iX11_cost_11, by decide +kernel, rfl, tyX11_ok 7 (by decide), tyX11_ok, nmX11⟩
set_option maxRecDepth 20000 in
theorem fX11_cost_72 : hq_fl vwCl wsX11_cost RX11 72 11 8 true (.object "HeadTables$Letter") := ⟨RX11, TX11, 11, tyX11, rfl, by decide, iX11_cost_11, by decide +kernel, rfl, tyX11_ok 8 (by decide), tyX11_ok, nmX11⟩
set_option maxRecDepth 20000 in
theorem fX11_cost_92 : hq_fl vwCl wsX11_cost RX11 92 6 1 false .int := ⟨RX6, TX6, 2, tyX6, rfl, by decide, iX11_cost_6, by decide +kernel, rfl, tyX6_ok 1 (by decide), tyX6_ok, nmX6⟩
set_option maxRecDepth 20000 in
theorem fX11_cost_162 : hq_fl vwCl wsX11_cost RX11 162 10 1 true (.object "HeadTables$Stream") := ⟨RX10, TX10, 8, tyX10, rfl, by decide, iX11_cost_10, by decide +kernel, rfl, tyX10_ok 1 (by decide), tyX10_ok, nmX10⟩
set_option maxRecDepth 20000 in
theorem fX11_cost_166 : hq_fl vwCl wsX11_cost RX11 166 8 0 true (.object "HeadTables$Row") := ⟨RX8, TX8, 5, tyX8, rfl, by decide, iX11_cost_8, by decide +kernel, rfl, tyX8_ok 0 (by decide), tyX8_ok, nmX8⟩
set_option maxRecDepth 20000 in
theorem fX11_cost_171 : hq_fl vwCl wsX11_cost RX11 171 0 2 true (.object "HeadTables$Row") := ⟨RX0, TX0, 8, tyX0, rfl, by decide, iX11_cost_0, by decide +kernel, rfl, tyX0_ok 2 (by decide), tyX0_ok, nmX0⟩
set_option maxHeartbeats 4000000 in
set_option maxRecDepth 100000 in
theorem cb_X11_cost_56 {p : Program} {l : Launch} {e : Env} {s : State} {m : MethodId} {args : Array Value} {below : List Frame} {meth : Method} {c : Code} {D : va_G} {cA : Nat → ClassId} {B : Nat} {Z : State → Prop} (t2 : Int) (rt2 : rb t2) (t3 : Int) (rt3 : rb t3)  {k : Int → hq_M → Prop} {M : hq_M} {H : Heap} {locs : List Loc} {ls : Array Slot} (C : hq_C vwCl p m c cX11_cost 3 s args wsX11_cost RX11 meth (some .int) D cA (hq_in B YC.length) Z)
    (hw : b_X11_cost_56 t2 t3 k M) (hs : hq_S vwCl SLx D cA YC B s.heap M H locs) (hl : lv_has ls 3 [(0, .ref (B + 0))])
     : W p l e ({ frames := 7, cells := 0, slots := 0, locals := 162 } : Room) s m args below meth c H locs 0 0 (MQ below (hq_Q vwCl SLx D cA YC B (hq_qi k)) args s 0 0 (hq_in B YC.length)) (F0 m 56 ls [.int (w3 t3), .int (w3 t2), .ref (B + 405), .ref (B + 391)]) := by
  have hx := C.1.1
  have hb := C.1.2.1
  unfold b_X11_cost_56 at hw
  refine hq_cV (n := 3) (ci := 10) (o := 391) (qc := (TX10, 8)) C hs (c_X10_encode l C.2.2.2.2.1 391 tkC_391 405 tkC_405 t2 rt2 t3 rt3 _ _ hw) gX11_cost_X10_encode rfl ⟨rfl, rfl⟩ (by decide +kernel) ⟨Nat.le_of_ble_eq_true rfl, Nat.le_of_ble_eq_true rfl⟩ tkC_391 (by decide) rfl rfl hl.1 rfl (Nat.le_of_ble_eq_true rfl) dX11_cost_56 (hq_kv (fun M1 H locs hw hs => ?_))
  refine lv_aload_n hx hb dX11_cost_59 rfl (lv_at hl 0 rfl) ?_
  refine hq_getA (o := 0) C hs fX11_cost_66 tkC_0 (by decide) rfl dX11_cost_60 ?_
  refine hq_getR (o := 391) C hs fX11_cost_162 tkC_391 (by decide) rfl dX11_cost_63 ?_
  refine hq_getR (o := 396) C hs fX11_cost_166 tkC_396 (by decide) rfl dX11_cost_66 ?_
  refine hq_getI (o := 397) C hs fX11_cost_92 tkC_397 (by decide) rfl dX11_cost_69 (fun g2 => ?_)
  refine lv_aload_n hx hb dX11_cost_72 rfl (lv_at hl 0 rfl) ?_
  refine hq_getA (o := 0) C hs fX11_cost_55 tkC_0 (by decide) rfl dX11_cost_73 ?_
  refine hq_getR (o := 370) C hs fX11_cost_162 tkC_370 (by decide) rfl dX11_cost_76 ?_
  refine hq_getR (o := 375) C hs fX11_cost_166 tkC_375 (by decide) rfl dX11_cost_79 ?_
  refine hq_getI (o := 376) C hs fX11_cost_92 tkC_376 (by decide) rfl dX11_cost_82 (fun g3 => ?_)
  obtain ⟨g4, hw⟩ := hw
  refine hq_isub C dX11_cost_85 ?_
  refine hq_nm (fun x5 ex5 => ?_)
  have hw := hw x5 ex5
  have rx5 : rg x5 := by rw [ex5]; exact g4
  refine lv_istore_n (lv' := [(2, .int (w3 x5)), (0, .ref (B + 0))]) hx hb dX11_cost_86 rfl hl (by decide) rfl (fun ls hl => ?_)
  refine lv_aload_n hx hb dX11_cost_87 rfl (lv_at hl 1 rfl) ?_
  refine hq_getA (o := 0) C hs fX11_cost_72 tkC_0 (by decide) rfl dX11_cost_88 ?_
  refine hq_getR (o := 405) C hs fX11_cost_171 tkC_405 (by decide) rfl dX11_cost_91 ?_
  refine hq_getI (o := 408) C hs fX11_cost_92 tkC_408 (by decide) rfl dX11_cost_94 (fun g6 => ?_)
  refine lv_iload_n hx hb dX11_cost_97 rfl (lv_at hl 0 rfl) ?_
  obtain ⟨g7, hw⟩ := hw
  refine hq_iadd C dX11_cost_98 ?_
  exact hq_iret C hs g7 hw dX11_cost_99
set_option maxHeartbeats 4000000 in
set_option maxRecDepth 100000 in
theorem c_X11_cost (l : Launch) {D : va_G} {cA : Nat → ClassId} {B : Nat} {Z : State → Prop} (hZ : hq_Zo Z (hq_in B YC.length)) (v1 : Int) (rv1 : rg v1) (M : hq_M) (k : Int → hq_M → Prop) (hw : w_X11_cost v1 M k) : hq_T vwCl SLx l yX11_cost wsX11_cost ({ frames := 7, cells := 0, slots := 0, locals := 162 } : Room) D cA YC B Z [.ref (B + 0), .int (w3 v1)] M (hq_qi k) := by
  refine hq_meth (cc := cX11_cost) (maxL := 3) (ret := (some .int)) (own := RX11) hZ rfl (by decide +kernel) rfl (Nat.le_of_ble_eq_true rfl) ?_
  intro p e s m below meth c ls C hs hl
  have hx := C.1.1
  have hb := C.1.2.1
  unfold w_X11_cost at hw
  have hl : lv_has ls 3 [(0, .ref (B + 0)), (1, .int (w3 v1))] := hl
  refine lv_iload_n hx hb dX11_cost_0 rfl (lv_at hl 1 rfl) ?_
  refine hq_if_lt (tgt := 9) C rv1 dX11_cost_1 (by decide) (fun h => ?_) (fun h => ?_)
  · have hw := hw.1 h
    refine hq_iconst C dX11_cost_9 ?_
    exact hq_iret C hs (by decide : rg (-1)) hw dX11_cost_10
  · have hw := hw.2 h
    refine lv_iload_n hx hb dX11_cost_4 rfl (lv_at hl 1 rfl) ?_
    refine hq_iconst C dX11_cost_5 ?_
    refine hq_icmp_le (tgt := 11) C rv1 (by decide : rg 2) dX11_cost_6 (by decide) (fun h => ?_) (fun h => ?_)
    · have hw := hw.1 h
      refine lv_aload_n hx hb dX11_cost_11 rfl (lv_at hl 0 rfl) ?_
      refine hq_getA (o := 0) C hs fX11_cost_66 tkC_0 (by decide) rfl dX11_cost_12 ?_
      refine lv_aload_n hx hb dX11_cost_15 rfl (lv_at hl 0 rfl) ?_
      refine hq_getA (o := 0) C hs fX11_cost_55 tkC_0 (by decide) rfl dX11_cost_16 ?_
      refine hq_cV (n := 1) (ci := 10) (o := 391) (qc := (TX10, 8)) C hs (c_X10_copyOf l C.2.2.2.2.1 391 tkC_391 370 tkC_370 _ _ hw) gX11_cost_X10_copyOf rfl ⟨rfl, rfl⟩ (by decide +kernel) ⟨Nat.le_of_ble_eq_true rfl, Nat.le_of_ble_eq_true rfl⟩ tkC_391 (by decide) rfl rfl hl.1 rfl (Nat.le_of_ble_eq_true rfl) dX11_cost_19 (hq_kv (fun M1 H locs hw hs => ?_))
      refine lv_aload_n hx hb dX11_cost_22 rfl (lv_at hl 0 rfl) ?_
      refine hq_getA (o := 0) C hs fX11_cost_72 tkC_0 (by decide) rfl dX11_cost_23 ?_
      refine lv_aload_n hx hb dX11_cost_26 rfl (lv_at hl 0 rfl) ?_
      refine hq_getA (o := 0) C hs fX11_cost_18 tkC_0 (by decide) rfl dX11_cost_27 ?_
      refine hq_cV (n := 1) (ci := 0) (o := 405) (qc := (TX0, 8)) C hs (c_X0_begin l C.2.2.2.2.1 405 tkC_405 3 tkC_3 _ _ hw) gX11_cost_X0_begin rfl ⟨rfl, rfl⟩ (by decide +kernel) ⟨Nat.le_of_ble_eq_true rfl, Nat.le_of_ble_eq_true rfl⟩ tkC_405 (by decide) rfl rfl hl.1 rfl (Nat.le_of_ble_eq_true rfl) dX11_cost_30 (hq_kv (fun M2 H locs hw hs => ?_))
      refine lv_aload_n hx hb dX11_cost_33 rfl (lv_at hl 0 rfl) ?_
      refine hq_getA (o := 0) C hs fX11_cost_66 tkC_0 (by decide) rfl dX11_cost_34 ?_
      refine lv_aload_n hx hb dX11_cost_37 rfl (lv_at hl 0 rfl) ?_
      refine hq_getA (o := 0) C hs fX11_cost_72 tkC_0 (by decide) rfl dX11_cost_38 ?_
      refine lv_aload_n hx hb dX11_cost_41 rfl (lv_at hl 0 rfl) ?_
      refine lv_iload_n hx hb dX11_cost_42 rfl (lv_at hl 1 rfl) ?_
      refine hq_cV (n := 1) (ci := 11) (o := 0) (qc := (TX11, 11)) C hs (c_X11_mayReferToAny l C.2.2.2.2.1 v1 rv1 _ _ hw) gX11_cost_X11_mayReferToAny rfl ⟨rfl, rfl⟩ (by decide +kernel) ⟨Nat.le_of_ble_eq_true rfl, Nat.le_of_ble_eq_true rfl⟩ tkC_0 (by decide) rfl rfl hl.1 rfl (Nat.le_of_ble_eq_true rfl) dX11_cost_43 (hq_kz (fun x3 M9 H locs rx3 hw hs => ?_))
      obtain ⟨e9, hw⟩ := hw; rw [e9] at hs
      refine lv_iload_n hx hb dX11_cost_46 rfl (lv_at hl 1 rfl) ?_
      refine hq_iconst C dX11_cost_47 ?_
      refine hq_icmp_ne (tgt := 55) C rv1 (by decide : rg 2) dX11_cost_48 (by decide) (fun h => ?_) (fun h => ?_)
      · have hw := hw.1 h
        refine hq_iconst C dX11_cost_55 ?_
        refine cb_X11_cost_56 x3 rx3 0 (by decide) C hw hs (lv_sub hl [0] rfl) 
      · have hw := hw.2 h
        refine hq_iconst C dX11_cost_51 ?_
        refine hq_goto (tgt := 56) C dX11_cost_52 (by decide) ?_
        refine cb_X11_cost_56 x3 rx3 1 (by decide) C hw hs (lv_sub hl [0] rfl) 
    · have hw := hw.2 h
      refine hq_iconst C dX11_cost_9 ?_
      exact hq_iret C hs (by decide : rg (-1)) hw dX11_cost_10
theorem iX11_loose_10 : ∀ w ∈ u_ws RX10 TX10 8, w ∈ wsX11_loose := fun w h => List.mem_cons_of_mem _ (List.mem_append_left _ (List.mem_append_right _ h))
theorem iX11_loose_11 : ∀ w ∈ u_ws RX11 TX11 11, w ∈ wsX11_loose := fun w h => List.mem_cons_of_mem _ (List.mem_append_left _ (List.mem_append_left _ (List.mem_append_right _ h)))
set_option maxRecDepth 20000 in
theorem fX11_loose_55 : hq_fl vwCl wsX11_loose RX11 55 11 5 true (.object "HeadTables$Writer") := ⟨RX11, TX11, 11, tyX11, rfl, by decide, iX11_loose_11, by decide +kernel, rfl, tyX11_ok 5 (by decide), tyX11_ok, nmX11⟩
set_option maxRecDepth 20000 in
theorem fX11_loose_174 : hq_fl vwCl wsX11_loose RX11 174 10 5 false .int := ⟨RX10, TX10, 8, tyX10, rfl, by decide, iX11_loose_10, by decide +kernel, rfl, tyX10_ok 5 (by decide), tyX10_ok, nmX10⟩
set_option maxRecDepth 20000 in
theorem fX11_loose_183 : hq_fl vwCl wsX11_loose RX11 183 10 0 true (.object "HeadTables$Table") := ⟨RX10, TX10, 8, tyX10, rfl, by decide, iX11_loose_10, by decide +kernel, rfl, tyX10_ok 0 (by decide), tyX10_ok, nmX10⟩
set_option maxHeartbeats 4000000 in
set_option maxRecDepth 100000 in
theorem c_X11_loose (l : Launch) {D : va_G} {cA : Nat → ClassId} {B : Nat} {Z : State → Prop} (hZ : hq_Zo Z (hq_in B YC.length))  (M : hq_M) (k : Int → Prop) (hw : w_X11_loose  M k) : hq_T vwCl SLx l yX11_loose wsX11_loose ({ frames := 2, cells := 0, slots := 0, locals := 45 } : Room) D cA YC B Z [.ref (B + 0)] M (hq_qi (fun z M' => M' = M ∧ k z)) := by
  refine hq_meth (cc := cX11_loose) (maxL := 1) (ret := (some .int)) (own := RX11) hZ rfl (by decide +kernel) rfl (Nat.le_of_ble_eq_true rfl) ?_
  intro p e s m below meth c ls C hs hl
  have hx := C.1.1
  have hb := C.1.2.1
  unfold w_X11_loose at hw
  have hl : lv_has ls 1 [(0, .ref (B + 0))] := hl
  refine lv_aload_n hx hb dX11_loose_0 rfl (lv_at hl 0 rfl) ?_
  refine hq_getA (o := 0) C hs fX11_loose_55 tkC_0 (by decide) rfl dX11_loose_1 ?_
  refine hq_getR (o := 370) C hs fX11_loose_183 tkC_370 (by decide) rfl dX11_loose_4 ?_
  refine lv_aload_n hx hb dX11_loose_7 rfl (lv_at hl 0 rfl) ?_
  refine hq_getA (o := 0) C hs fX11_loose_55 tkC_0 (by decide) rfl dX11_loose_8 ?_
  refine hq_getI (o := 370) C hs fX11_loose_174 tkC_370 (by decide) rfl dX11_loose_11 (fun g1 => ?_)
  refine hq_cV (n := 1) (ci := 9) (o := 371) (qc := (TX9, 7)) C hs (c_X9_evictable l C.2.2.2.2.1 371 tkC_371 (M 370 5) g1 _ _ hw) gX11_loose_X9_evictable rfl ⟨rfl, rfl⟩ (by decide +kernel) ⟨Nat.le_of_ble_eq_true rfl, Nat.le_of_ble_eq_true rfl⟩ tkC_371 (by decide) rfl rfl hl.1 rfl (Nat.le_of_ble_eq_true rfl) dX11_loose_14 (hq_ki (fun x2 M9 H locs rx2 hw hs => ?_))
  obtain ⟨e9, hw⟩ := hw; rw [e9] at hs
  exact hq_iret C hs rx2 ⟨rfl, hw⟩ dX11_loose_17
theorem iX11_feeds_5 : ∀ w ∈ u_ws RX5 TX5 3, w ∈ wsX11_feeds := fun w h => List.mem_cons_of_mem _ (List.mem_append_left _ (List.mem_append_left _ (List.mem_append_left _ (List.mem_append_left _ (List.mem_append_left _ (List.mem_append_left _ (List.mem_append_right _ h)))))))
theorem iX11_feeds_6 : ∀ w ∈ u_ws RX6 TX6 2, w ∈ wsX11_feeds := fun w h => List.mem_cons_of_mem _ (List.mem_append_left _ (List.mem_append_left _ (List.mem_append_left _ (List.mem_append_left _ (List.mem_append_left _ (List.mem_append_left _ (List.mem_append_left _ (List.mem_append_right _ h))))))))
theorem iX11_feeds_8 : ∀ w ∈ u_ws RX8 TX8 5, w ∈ wsX11_feeds := fun w h => List.mem_cons_of_mem _ (List.mem_append_left _ (List.mem_append_left _ (List.mem_append_left _ (List.mem_append_left _ (List.mem_append_left _ (List.mem_append_left _ (List.mem_append_left _ (List.mem_append_left _ (List.mem_append_right _ h)))))))))
theorem iX11_feeds_10 : ∀ w ∈ u_ws RX10 TX10 8, w ∈ wsX11_feeds := fun w h => List.mem_cons_of_mem _ (List.mem_append_left _ (List.mem_append_left _ (List.mem_append_left _ (List.mem_append_left _ (List.mem_append_left _ (List.mem_append_left _ (List.mem_append_left _ (List.mem_append_left _ (List.mem_append_left _ (List.mem_append_right _ h))))))))))
theorem iX11_feeds_11 : ∀ w ∈ u_ws RX11 TX11 11, w ∈ wsX11_feeds := fun w h => List.mem_cons_of_mem _ (List.mem_append_left _ (List.mem_append_left _ (List.mem_append_left _ (List.mem_append_left _ (List.mem_append_left _ (List.mem_append_left _ (List.mem_append_left _ (List.mem_append_left _ (List.mem_append_left _ (List.mem_append_left _ (List.mem_append_right _ h)))))))))))
set_option maxRecDepth 20000 in
theorem fX11_feeds_36 : hq_fl vwCl wsX11_feeds RX11 36 11 9 false (.object "HeadTables$Settings") := ⟨RX11, TX11, 11, tyX11, rfl, by decide, iX11_feeds_11, by decide +kernel, rfl, tyX11_ok 9 (by decide), tyX11_ok, nmX11⟩
set_option maxRecDepth 20000 in
theorem fX11_feeds_46 : hq_fl vwCl wsX11_feeds RX11 46 11 4 true (.object "HeadTables$Letters") := ⟨RX11, TX11, 11, tyX11, rfl, by decide, iX11_feeds_11, by decide +kernel, rfl, tyX11_ok 4 (by decide), tyX11_ok, nmX11⟩
set_option maxRecDepth 20000 in
theorem fX11_feeds_55 : hq_fl vwCl wsX11_feeds RX11 55 11 5 true (.object "HeadTables$Writer") := ⟨RX11, TX11, 11, tyX11, rfl, by decide, iX11_feeds_11, by decide +kernel, rfl, tyX11_ok 5 (by decide), tyX11_ok, nmX11⟩
set_option maxRecDepth 20000 in
theorem fX11_feeds_62 : hq_fl vwCl wsX11_feeds RX11 62 11 6 true (.object "HeadTables$Reader") := ⟨RX11, TX11, 11, tyX11, rfl, by decide, iX11_feeds_11, by decide +kernel, rfl, tyX11_ok 6 (by decide), tyX11_ok, nmX11⟩
set_option maxRecDepth 20000 in
theorem fX11_feeds_92 : hq_fl vwCl wsX11_feeds RX11 92 6 1 false .int := ⟨RX6, TX6, 2, tyX6, rfl, by decide, iX11_feeds_6, by decide +kernel, rfl, tyX6_ok 1 (by decide), tyX6_ok, nmX6⟩
set_option maxRecDepth 20000 in
theorem fX11_feeds_162 : hq_fl vwCl wsX11_feeds RX11 162 10 1 true (.object "HeadTables$Stream") := ⟨RX10, TX10, 8, tyX10, rfl, by decide, iX11_feeds_10, by decide +kernel, rfl, tyX10_ok 1 (by decide), tyX10_ok, nmX10⟩
set_option maxRecDepth 20000 in
theorem fX11_feeds_166 : hq_fl vwCl wsX11_feeds RX11 166 8 0 true (.object "HeadTables$Row") := ⟨RX8, TX8, 5, tyX8, rfl, by decide, iX11_feeds_8, by decide +kernel, rfl, tyX8_ok 0 (by decide), tyX8_ok, nmX8⟩
set_option maxRecDepth 20000 in
theorem fX11_feeds_192 : hq_fl vwCl wsX11_feeds RX11 192 8 4 false .int := ⟨RX8, TX8, 5, tyX8, rfl, by decide, iX11_feeds_8, by decide +kernel, rfl, tyX8_ok 4 (by decide), tyX8_ok, nmX8⟩
set_option maxRecDepth 20000 in
theorem fX11_feeds_201 : hq_fl vwCl wsX11_feeds RX11 201 5 0 true (.object "HeadTables$Table") := ⟨RX5, TX5, 3, tyX5, rfl, by decide, iX11_feeds_5, by decide +kernel, rfl, tyX5_ok 0 (by decide), tyX5_ok, nmX5⟩
set_option maxRecDepth 20000 in
theorem mX11_feeds_195 : Cond.methodLink RX11 195 Lib.Math.min.name ∈ wsX11_feeds ∧ Cond.static Lib.Math.min.name ∈ wsX11_feeds ∧ Cond.initialized "java/lang/Math" ∈ wsX11_feeds ∧ Cond.code Lib.Math.min.name Lib.Math.min.code 2 (some .int) ∈ wsX11_feeds := ⟨by decide +kernel, by decide +kernel, by decide +kernel, by decide +kernel⟩
set_option maxHeartbeats 4000000 in
set_option maxRecDepth 100000 in
theorem cb_X11_feeds_86 {p : Program} {l : Launch} {e : Env} {s : State} {m : MethodId} {args : Array Value} {below : List Frame} {meth : Method} {c : Code} {D : va_G} {cA : Nat → ClassId} {B : Nat} {Z : State → Prop} (v3 : Int) (rv3 : rg v3) (v4 : Int) (rv4 : rg v4) (u2 : Int) {k_45 : Int → hq_M → Prop} {k : Int → hq_M → Prop} {M : hq_M} {H : Heap} {locs : List Loc} {ls : Array Slot} (C : hq_C vwCl p m c cX11_feeds 5 s args wsX11_feeds RX11 meth (some .int) D cA (hq_in B YC.length) Z)
    (hw : b_X11_feeds_86 v3 v4 k_45 k M) (hs : hq_S vwCl SLx D cA YC B s.heap M H locs) (hl : lv_has ls 5 [(0, .ref (B + 0)), (2, .int (w3 u2)), (3, .int (w3 v3)), (4, .int (w3 v4))])
    (hk_45 : ∀ (y4 : Int) (ry4 : rg y4) (M1 : hq_M) (H : Heap) (locs : List Loc) (ls : Array Slot), k_45 y4 M1 → hq_S vwCl SLx D cA YC B s.heap M1 H locs → lv_has ls 5 [(0, .ref (B + 0)), (2, .int (w3 u2)), (3, .int (w3 v3)), (4, .int (w3 y4))] → W p l e ({ frames := 5, cells := 0, slots := 0, locals := 113 } : Room) s m args below meth c H locs 0 0 (MQ below (hq_Q vwCl SLx D cA YC B (hq_qi k)) args s 0 0 (hq_in B YC.length)) (F0 m 45 ls [])) : W p l e ({ frames := 5, cells := 0, slots := 0, locals := 113 } : Room) s m args below meth c H locs 0 0 (MQ below (hq_Q vwCl SLx D cA YC B (hq_qi k)) args s 0 0 (hq_in B YC.length)) (F0 m 86 ls []) := by
  have hx := C.1.1
  have hb := C.1.2.1
  unfold b_X11_feeds_86 at hw
  obtain ⟨g2, hw⟩ := hw
  refine hq_iinc (k := 3) C dX11_feeds_86 hl rfl (by decide) (fun x1 ex1 ls hl => ?_)
  have hw := hw x1 ex1
  have rx1 : rg x1 := by rw [ex1]; exact g2
  have hl : lv_has ls 5 [(4, .int (w3 x1)), (0, .ref (B + 0)), (2, .int (w3 u2)), (3, .int (w3 v3))] := hl
  refine hq_goto (tgt := 45) C dX11_feeds_89 (by decide) ?_
  exact hk_45 x1 rx1 _ _ _ _ hw hs (lv_sub hl [1, 2, 3, 0] rfl)
set_option maxHeartbeats 4000000 in
set_option maxRecDepth 100000 in
theorem cl_X11_feeds_45 {p : Program} {l : Launch} {e : Env} {s : State} {m : MethodId} {args : Array Value} {below : List Frame} {meth : Method} {c : Code} {D : va_G} {cA : Nat → ClassId} {B : Nat} {Z : State → Prop} (v3 : Int) (rv3 : rg v3) (u2 : Int) {k_92 : hq_M → Prop} {k : Int → hq_M → Prop} (C : hq_C vwCl p m c cX11_feeds 5 s args wsX11_feeds RX11 meth (some .int) D cA (hq_in B YC.length) Z)
    (hk_92 : ∀ (M1 : hq_M) (H : Heap) (locs : List Loc) (ls : Array Slot), k_92 M1 → hq_S vwCl SLx D cA YC B s.heap M1 H locs → lv_has ls 5 [(0, .ref (B + 0)), (2, .int (w3 u2)), (3, .int (w3 v3))] → W p l e ({ frames := 5, cells := 0, slots := 0, locals := 113 } : Room) s m args below meth c H locs 0 0 (MQ below (hq_Q vwCl SLx D cA YC B (hq_qi k)) args s 0 0 (hq_in B YC.length)) (F0 m 92 ls [])) : ∀ (n : Nat) (v4 : Int) (rv4 : rg v4) (M : hq_M) (H : Heap) (locs : List Loc) (ls : Array Slot), l_X11_feeds_45 v3 k_92 k n v4 M → hq_S vwCl SLx D cA YC B s.heap M H locs → lv_has ls 5 [(0, .ref (B + 0)), (2, .int (w3 u2)), (3, .int (w3 v3)), (4, .int (w3 v4))] → W p l e ({ frames := 5, cells := 0, slots := 0, locals := 113 } : Room) s m args below meth c H locs 0 0 (MQ below (hq_Q vwCl SLx D cA YC B (hq_qi k)) args s 0 0 (hq_in B YC.length)) (F0 m 45 ls []) := by
  have hx := C.1.1
  have hb := C.1.2.1
  intro n
  induction n with
  | zero => intro v4 rv4 M H locs ls hw hs hl; exact hw.elim
  | succ n ih =>
    intro v4 rv4 M H locs ls hw hs hl
    unfold l_X11_feeds_45 at hw
    refine lv_iload hx hb dX11_feeds_45 (lv_at hl 3 rfl) ?_
    refine lv_iload_n hx hb dX11_feeds_47 rfl (lv_at hl 2 rfl) ?_
    refine hq_icmp_ge (tgt := 92) C rv4 rv3 dX11_feeds_48 (by decide) (fun h => ?_) (fun h => ?_)
    · have hw := hw.1 h
      exact hk_92 _ _ _ _ hw hs (lv_sub hl [0, 1, 2] rfl)
    · have hw := hw.2 h
      refine lv_aload_n hx hb dX11_feeds_51 rfl (lv_at hl 0 rfl) ?_
      refine hq_getA (o := 0) C hs fX11_feeds_55 tkC_0 (by decide) rfl dX11_feeds_52 ?_
      refine hq_getR (o := 370) C hs fX11_feeds_162 tkC_370 (by decide) rfl dX11_feeds_55 ?_
      refine lv_aload_n hx hb dX11_feeds_58 rfl (lv_at hl 0 rfl) ?_
      refine hq_getA (o := 0) C hs fX11_feeds_62 tkC_0 (by decide) rfl dX11_feeds_59 ?_
      refine hq_getR (o := 384) C hs fX11_feeds_201 tkC_384 (by decide) rfl dX11_feeds_62 ?_
      refine lv_aload_n hx hb dX11_feeds_65 rfl (lv_at hl 0 rfl) ?_
      refine hq_getS (o := 0) C hs fX11_feeds_36 tkC_0 (by decide) rfl dX11_feeds_66 (fun g1 => ?_)
      obtain ⟨o2, eo2⟩ : ∃ y : Nat, y = (M 0 9).toNat := ⟨_, rfl⟩
      rw [← eo2] at g1 ⊢
      have hw := hw o2 eo2
      refine hq_cV (n := 2) (ci := 8) (o := 375) (qc := (TX8, 5)) C hs (c_X8_deliverTo l C.2.2.2.2.1 375 tkC_375 385 tkC_385 o2 g1 _ _ hw) gX11_feeds_X8_deliverTo rfl ⟨rfl, rfl⟩ (by decide +kernel) ⟨Nat.le_of_ble_eq_true rfl, Nat.le_of_ble_eq_true rfl⟩ tkC_375 (by decide) rfl rfl hl.1 rfl (Nat.le_of_ble_eq_true rfl) dX11_feeds_69 (hq_kz (fun x4 M3 H locs rx4 hw hs => ?_))
      refine hq_if_eq (tgt := 86) C (rb_rg rx4) dX11_feeds_72 (by decide) (fun h => ?_) (fun h => ?_)
      · have hw := hw.1 h
        refine cb_X11_feeds_86 v3 rv3 v4 rv4 u2 C hw hs (lv_sub hl [0, 1, 2, 3] rfl) ?_
        · intro y4 ry4 M H locs ls hw hs hl
          exact ih y4 ry4 _ _ _ _ hw hs (lv_sub hl [0, 1, 2, 3] rfl)
      · have hw := hw.2 h
        refine lv_aload_n hx hb dX11_feeds_75 rfl (lv_at hl 0 rfl) ?_
        refine hq_getA (o := 0) C hs fX11_feeds_62 tkC_0 (by decide) rfl dX11_feeds_76 ?_
        refine lv_aload_n hx hb dX11_feeds_79 rfl (lv_at hl 0 rfl) ?_
        refine hq_getA (o := 0) C hs fX11_feeds_46 tkC_0 (by decide) rfl dX11_feeds_80 ?_
        refine hq_cV (n := 1) (ci := 5) (o := 384) (qc := (TX5, 3)) C hs (c_X5_decodeBlocked l C.2.2.2.2.1 _ _ hw) gX11_feeds_X5_decodeBlocked rfl ⟨rfl, rfl⟩ (by decide +kernel) ⟨Nat.le_of_ble_eq_true rfl, Nat.le_of_ble_eq_true rfl⟩ tkC_384 (by decide) rfl rfl hl.1 rfl (Nat.le_of_ble_eq_true rfl) dX11_feeds_83 (hq_kv (fun M5 H locs hw hs => ?_))
        refine cb_X11_feeds_86 v3 rv3 v4 rv4 u2 C hw hs (lv_sub hl [0, 1, 2, 3] rfl) ?_
        · intro y4 ry4 M H locs ls hw hs hl
          exact ih y4 ry4 _ _ _ _ hw hs (lv_sub hl [0, 1, 2, 3] rfl)
set_option maxHeartbeats 4000000 in
set_option maxRecDepth 100000 in
theorem c_X11_feeds (l : Launch) {D : va_G} {cA : Nat → ClassId} {B : Nat} {Z : State → Prop} (hZ : hq_Zo Z (hq_in B YC.length)) (v1 : Int) (rv1 : rg v1) (M : hq_M) (k : Int → hq_M → Prop) (hw : w_X11_feeds v1 M k) : hq_T vwCl SLx l yX11_feeds wsX11_feeds ({ frames := 5, cells := 0, slots := 0, locals := 113 } : Room) D cA YC B Z [.ref (B + 0), .int (w3 v1)] M (hq_qi k) := by
  refine hq_meth (cc := cX11_feeds) (maxL := 5) (ret := (some .int)) (own := RX11) hZ rfl (by decide +kernel) rfl (Nat.le_of_ble_eq_true rfl) ?_
  intro p e s m below meth c ls C hs hl
  have hx := C.1.1
  have hb := C.1.2.1
  unfold w_X11_feeds at hw
  have hl : lv_has ls 5 [(0, .ref (B + 0)), (1, .int (w3 v1))] := hl
  refine lv_iload_n hx hb dX11_feeds_0 rfl (lv_at hl 1 rfl) ?_
  refine hq_iconst C dX11_feeds_1 ?_
  refine hq_icmp_lt (tgt := 11) C rv1 (by decide : rg 1) dX11_feeds_2 (by decide) (fun h => ?_) (fun h => ?_)
  · have hw := hw.1 h
    refine hq_iconst C dX11_feeds_11 ?_
    exact hq_iret C hs (by decide : rg (-1)) hw dX11_feeds_12
  · have hw := hw.2 h
    refine lv_iload_n hx hb dX11_feeds_5 rfl (lv_at hl 1 rfl) ?_
    refine hq_bipush C dX11_feeds_6 (by decide) ?_
    refine hq_icmp_le (tgt := 13) C rv1 (by decide : rg 99) dX11_feeds_8 (by decide) (fun h => ?_) (fun h => ?_)
    · have hw := hw.1 h
      refine lv_aload_n hx hb dX11_feeds_13 rfl (lv_at hl 0 rfl) ?_
      refine hq_getA (o := 0) C hs fX11_feeds_55 tkC_0 (by decide) rfl dX11_feeds_14 ?_
      refine hq_getR (o := 370) C hs fX11_feeds_162 tkC_370 (by decide) rfl dX11_feeds_17 ?_
      refine hq_getI (o := 375) C hs fX11_feeds_192 tkC_375 (by decide) rfl dX11_feeds_20 (fun g1 => ?_)
      refine hq_nm (fun x2 ex2 => ?_)
      have hw := hw x2 ex2
      have rx2 : rg x2 := by rw [ex2]; exact g1
      refine lv_istore_n (lv' := [(2, .int (w3 x2)), (0, .ref (B + 0)), (1, .int (w3 v1))]) hx hb dX11_feeds_23 rfl hl (by decide) rfl (fun ls hl => ?_)
      refine lv_iload_n hx hb dX11_feeds_24 rfl (lv_at hl 2 rfl) ?_
      refine lv_aload_n hx hb dX11_feeds_25 rfl (lv_at hl 1 rfl) ?_
      refine hq_getA (o := 0) C hs fX11_feeds_55 tkC_0 (by decide) rfl dX11_feeds_26 ?_
      refine hq_getR (o := 370) C hs fX11_feeds_162 tkC_370 (by decide) rfl dX11_feeds_29 ?_
      refine hq_getR (o := 375) C hs fX11_feeds_166 tkC_375 (by decide) rfl dX11_feeds_32 ?_
      refine hq_getI (o := 376) C hs fX11_feeds_92 tkC_376 (by decide) rfl dX11_feeds_35 (fun g3 => ?_)
      refine hq_mmin C mX11_feeds_195 hl.1 ⟨Nat.le_of_ble_eq_true rfl, Nat.le_of_ble_eq_true rfl, Nat.zero_le _, Nat.zero_le _⟩ rv1 g3 dX11_feeds_38 ?_
      refine hq_nm (fun x4 ex4 => ?_)
      have hw := hw x4 ex4
      have rx4 : rg x4 := by rw [ex4]; exact (hq_rmin rv1 g3)
      refine lv_istore_n (lv' := [(3, .int (w3 x4)), (2, .int (w3 x2)), (0, .ref (B + 0)), (1, .int (w3 v1))]) hx hb dX11_feeds_41 rfl hl (by decide) rfl (fun ls hl => ?_)
      refine hq_iconst C dX11_feeds_42 ?_
      refine lv_istore (lv' := [(4, .int (w3 0)), (3, .int (w3 x4)), (2, .int (w3 x2)), (0, .ref (B + 0)), (1, .int (w3 v1))]) hx hb dX11_feeds_43 hl (by decide) rfl (fun ls hl => ?_)
      obtain ⟨n9, hw⟩ := hw
      refine cl_X11_feeds_45 x4 rx4 x2 C ?_ n9 0 (by decide : rg 0) _ _ _ _ hw hs (lv_sub hl [3, 2, 1, 0] rfl)
      · intro M5 H locs ls hw hs hl
        refine lv_aload_n hx hb dX11_feeds_92 rfl (lv_at hl 0 rfl) ?_
        refine hq_getA (o := 0) C hs fX11_feeds_55 tkC_0 (by decide) rfl dX11_feeds_93 ?_
        refine hq_getR (o := 370) C hs fX11_feeds_162 tkC_370 (by decide) rfl dX11_feeds_96 ?_
        refine hq_getR (o := 375) C hs fX11_feeds_166 tkC_375 (by decide) rfl dX11_feeds_99 ?_
        refine lv_iload_n hx hb dX11_feeds_102 rfl (lv_at hl 2 rfl) ?_
        refine hq_cV (n := 1) (ci := 6) (o := 376) (qc := (TX6, 2)) C hs (c_X6_drop l C.2.2.2.2.1 376 tkC_376 x4 rx4 _ _ hw) gX11_feeds_X6_drop rfl ⟨rfl, rfl⟩ (by decide +kernel) ⟨Nat.le_of_ble_eq_true rfl, Nat.le_of_ble_eq_true rfl⟩ tkC_376 (by decide) rfl rfl hl.1 rfl (Nat.le_of_ble_eq_true rfl) dX11_feeds_103 (hq_kv (fun M6 H locs hw hs => ?_))
        refine lv_aload_n hx hb dX11_feeds_106 rfl (lv_at hl 0 rfl) ?_
        refine hq_getA (o := 0) C hs fX11_feeds_55 tkC_0 (by decide) rfl dX11_feeds_107 ?_
        refine hq_getR (o := 370) C hs fX11_feeds_162 tkC_370 (by decide) rfl dX11_feeds_110 ?_
        refine hq_getI (o := 375) C hs fX11_feeds_192 tkC_375 (by decide) rfl dX11_feeds_113 (fun g7 => ?_)
        refine lv_iload_n hx hb dX11_feeds_116 rfl (lv_at hl 1 rfl) ?_
        obtain ⟨g8, hw⟩ := hw
        refine hq_isub C dX11_feeds_117 ?_
        exact hq_iret C hs g8 hw dX11_feeds_118
    · have hw := hw.2 h
      refine hq_iconst C dX11_feeds_11 ?_
      exact hq_iret C hs (by decide : rg (-1)) hw dX11_feeds_12
theorem iX11_gives_0 : ∀ w ∈ u_ws RX0 TX0 8, w ∈ wsX11_gives := fun w h => List.mem_cons_of_mem _ (List.mem_append_left _ (List.mem_append_left _ (List.mem_append_left _ (List.mem_append_left _ (List.mem_append_right _ h)))))
theorem iX11_gives_6 : ∀ w ∈ u_ws RX6 TX6 2, w ∈ wsX11_gives := fun w h => List.mem_cons_of_mem _ (List.mem_append_left _ (List.mem_append_left _ (List.mem_append_left _ (List.mem_append_right _ h))))
theorem iX11_gives_11 : ∀ w ∈ u_ws RX11 TX11 11, w ∈ wsX11_gives := fun w h => List.mem_cons_of_mem _ (List.mem_append_left _ (List.mem_append_left _ (List.mem_append_left _ (List.mem_append_left _ (List.mem_append_left _ (List.mem_append_right _ h))))))
set_option maxRecDepth 20000 in
theorem fX11_gives_46 : hq_fl vwCl wsX11_gives RX11 46 11 4 true (.object "HeadTables$Letters") := ⟨RX11, TX11, 11, tyX11, rfl, by decide, iX11_gives_11, by decide +kernel, rfl, tyX11_ok 4 (by decide), tyX11_ok, nmX11⟩
set_option maxRecDepth 20000 in
theorem fX11_gives_62 : hq_fl vwCl wsX11_gives RX11 62 11 6 true (.object "HeadTables$Reader") := ⟨RX11, TX11, 11, tyX11, rfl, by decide, iX11_gives_11, by decide +kernel, rfl, tyX11_ok 6 (by decide), tyX11_ok, nmX11⟩
set_option maxRecDepth 20000 in
theorem fX11_gives_92 : hq_fl vwCl wsX11_gives RX11 92 6 1 false .int := ⟨RX6, TX6, 2, tyX6, rfl, by decide, iX11_gives_6, by decide +kernel, rfl, tyX6_ok 1 (by decide), tyX6_ok, nmX6⟩
set_option maxRecDepth 20000 in
theorem fX11_gives_171 : hq_fl vwCl wsX11_gives RX11 171 0 2 true (.object "HeadTables$Row") := ⟨RX0, TX0, 8, tyX0, rfl, by decide, iX11_gives_0, by decide +kernel, rfl, tyX0_ok 2 (by decide), tyX0_ok, nmX0⟩
set_option maxRecDepth 20000 in
theorem fX11_gives_216 : hq_fl vwCl wsX11_gives RX11 216 0 6 false .int := ⟨RX0, TX0, 8, tyX0, rfl, by decide, iX11_gives_0, by decide +kernel, rfl, tyX0_ok 6 (by decide), tyX0_ok, nmX0⟩
set_option maxRecDepth 20000 in
theorem fX11_gives_219 : hq_fl vwCl wsX11_gives RX11 219 0 5 false .int := ⟨RX0, TX0, 8, tyX0, rfl, by decide, iX11_gives_0, by decide +kernel, rfl, tyX0_ok 5 (by decide), tyX0_ok, nmX0⟩
set_option maxRecDepth 20000 in
theorem mX11_gives_195 : Cond.methodLink RX11 195 Lib.Math.min.name ∈ wsX11_gives ∧ Cond.static Lib.Math.min.name ∈ wsX11_gives ∧ Cond.initialized "java/lang/Math" ∈ wsX11_gives ∧ Cond.code Lib.Math.min.name Lib.Math.min.code 2 (some .int) ∈ wsX11_gives := ⟨by decide +kernel, by decide +kernel, by decide +kernel, by decide +kernel⟩
set_option maxHeartbeats 4000000 in
set_option maxRecDepth 100000 in
theorem cb_X11_gives_83 {p : Program} {l : Launch} {e : Env} {s : State} {m : MethodId} {args : Array Value} {below : List Frame} {meth : Method} {c : Code} {D : va_G} {cA : Nat → ClassId} {B : Nat} {Z : State → Prop} (v3 : Nat) (hv3 : YC[v3]? = some (0, 0))  {k : Int → hq_M → Prop} {M : hq_M} {H : Heap} {locs : List Loc} {ls : Array Slot} (C : hq_C vwCl p m c cX11_gives 4 s args wsX11_gives RX11 meth (some .int) D cA (hq_in B YC.length) Z)
    (hw : b_X11_gives_83 v3 k M) (hs : hq_S vwCl SLx D cA YC B s.heap M H locs) (hl : lv_has ls 4 [(3, .ref (B + v3))])
     : W p l e ({ frames := 4, cells := 0, slots := 0, locals := 89 } : Room) s m args below meth c H locs 0 0 (MQ below (hq_Q vwCl SLx D cA YC B (hq_qi k)) args s 0 0 (hq_in B YC.length)) (F0 m 83 ls []) := by
  have hx := C.1.1
  have hb := C.1.2.1
  unfold b_X11_gives_83 at hw
  refine lv_aload_n hx hb dX11_gives_83 rfl (lv_at hl 0 rfl) ?_
  refine hq_getI (o := v3) C hs fX11_gives_216 hv3 (by decide) rfl dX11_gives_84 (fun g1 => ?_)
  exact hq_iret C hs g1 hw dX11_gives_87
set_option maxHeartbeats 4000000 in
set_option maxRecDepth 100000 in
theorem c_X11_gives (l : Launch) {D : va_G} {cA : Nat → ClassId} {B : Nat} {Z : State → Prop} (hZ : hq_Zo Z (hq_in B YC.length)) (v1 : Int) (rv1 : rg v1) (v2 : Int) (rv2 : rg v2) (M : hq_M) (k : Int → hq_M → Prop) (hw : w_X11_gives v1 v2 M k) : hq_T vwCl SLx l yX11_gives wsX11_gives ({ frames := 4, cells := 0, slots := 0, locals := 89 } : Room) D cA YC B Z [.ref (B + 0), .int (w3 v1), .int (w3 v2)] M (hq_qi k) := by
  refine hq_meth (cc := cX11_gives) (maxL := 4) (ret := (some .int)) (own := RX11) hZ rfl (by decide +kernel) rfl (Nat.le_of_ble_eq_true rfl) ?_
  intro p e s m below meth c ls C hs hl
  have hx := C.1.1
  have hb := C.1.2.1
  unfold w_X11_gives at hw
  have hl : lv_has ls 4 [(0, .ref (B + 0)), (1, .int (w3 v1)), (2, .int (w3 v2))] := hl
  refine lv_aload_n hx hb dX11_gives_0 rfl (lv_at hl 0 rfl) ?_
  refine hq_getA (o := 0) C hs fX11_gives_46 tkC_0 (by decide) rfl dX11_gives_1 ?_
  refine lv_iload_n hx hb dX11_gives_4 rfl (lv_at hl 1 rfl) ?_
  refine hq_cV (n := 1) (ci := 1) (o := 168) (qc := (TX1, 2)) C hs (c_X1_at l C.2.2.2.2.1 v1 rv1 _ _ hw) gX11_gives_X1_at rfl ⟨rfl, rfl⟩ (by decide +kernel) ⟨Nat.le_of_ble_eq_true rfl, Nat.le_of_ble_eq_true rfl⟩ tkC_168 (by decide) rfl rfl hl.1 rfl (Nat.le_of_ble_eq_true rfl) dX11_gives_5 (hq_kr (fun M9 H locs hw hs => ?_) (fun o1 M9 H locs ho1 hw hs => ?_))
  · obtain ⟨e9, hw⟩ := hw; rw [e9] at hs
    have hw := hw.1 rfl
    refine lv_astore_nN (lv' := [(3, .null), (0, .ref (B + 0)), (1, .int (w3 v1)), (2, .int (w3 v2))]) hx hb dX11_gives_8 rfl hl (by decide) rfl (fun ls hl => ?_)
    refine lv_aload_nN hx hb dX11_gives_9 rfl (lv_at hl 0 rfl) ?_
    refine lv_ifnullN (tgt := 24) hx hb dX11_gives_10 (by decide) ?_
    refine hq_iconst C dX11_gives_24 ?_
    exact hq_iret C hs (by decide : rg (-1)) hw dX11_gives_25
  · obtain ⟨e9, hw⟩ := hw; rw [e9] at hs
    have hw := hw.2 o1 rfl
    refine lv_astore_n (lv' := [(3, .ref (B + o1)), (0, .ref (B + 0)), (1, .int (w3 v1)), (2, .int (w3 v2))]) hx hb dX11_gives_8 rfl hl (by decide) rfl (fun ls hl => ?_)
    refine lv_aload_n hx hb dX11_gives_9 rfl (lv_at hl 0 rfl) ?_
    refine lv_ifnull hx hb dX11_gives_10 ?_
    refine lv_iload_n hx hb dX11_gives_13 rfl (lv_at hl 3 rfl) ?_
    refine hq_iconst C dX11_gives_14 ?_
    refine hq_icmp_lt (tgt := 24) C rv2 (by decide : rg 1) dX11_gives_15 (by decide) (fun h => ?_) (fun h => ?_)
    · have hw := hw.1 h
      refine hq_iconst C dX11_gives_24 ?_
      exact hq_iret C hs (by decide : rg (-1)) hw dX11_gives_25
    · have hw := hw.2 h
      refine lv_iload_n hx hb dX11_gives_18 rfl (lv_at hl 3 rfl) ?_
      refine hq_bipush C dX11_gives_19 (by decide) ?_
      refine hq_icmp_le (tgt := 26) C rv2 (by decide : rg 99) dX11_gives_21 (by decide) (fun h => ?_) (fun h => ?_)
      · have hw := hw.1 h
        refine lv_aload_n hx hb dX11_gives_26 rfl (lv_at hl 0 rfl) ?_
        refine hq_getI (o := o1) C hs fX11_gives_216 ho1 (by decide) rfl dX11_gives_27 (fun g3 => ?_)
        refine hq_if_eq (tgt := 36) C g3 dX11_gives_30 (by decide) (fun h => ?_) (fun h => ?_)
        · have hw := hw.1 h
          refine lv_aload_n hx hb dX11_gives_36 rfl (lv_at hl 0 rfl) ?_
          refine lv_dup hx hb dX11_gives_37 rfl ?_
          refine hq_getI (o := o1) C hs fX11_gives_219 ho1 (by decide) rfl dX11_gives_38 (fun g4 => ?_)
          refine lv_iload_n hx hb dX11_gives_41 rfl (lv_at hl 3 rfl) ?_
          refine lv_aload_n hx hb dX11_gives_42 rfl (lv_at hl 0 rfl) ?_
          refine hq_getR (o := o1) C hs fX11_gives_171 ho1 (by decide) rfl dX11_gives_43 ?_
          refine hq_getI (o := (o1 + 3)) C hs fX11_gives_92 (tc_0_2 ho1) (by decide) rfl dX11_gives_46 (fun g5 => ?_)
          refine lv_aload_n hx hb dX11_gives_49 rfl (lv_at hl 0 rfl) ?_
          refine hq_getI (o := o1) C hs fX11_gives_219 ho1 (by decide) rfl dX11_gives_50 (fun g6 => ?_)
          obtain ⟨g7, hw⟩ := hw
          refine hq_isub C dX11_gives_53 ?_
          refine hq_mmin C mX11_gives_195 hl.1 ⟨Nat.le_of_ble_eq_true rfl, Nat.le_of_ble_eq_true rfl, Nat.zero_le _, Nat.zero_le _⟩ rv2 g7 dX11_gives_54 ?_
          obtain ⟨g8, hw⟩ := hw
          refine hq_iadd C dX11_gives_57 ?_
          refine hq_putI (o := o1) C hs fX11_gives_219 ho1 (by decide) rfl g8 dX11_gives_58 (fun M9 eM9 H locs hs => ?_)
          have hw := hw M9 eM9
          refine lv_aload_n hx hb dX11_gives_61 rfl (lv_at hl 0 rfl) ?_
          refine hq_getI (o := o1) C hs fX11_gives_219 ho1 (by decide) rfl dX11_gives_62 (fun g10 => ?_)
          refine lv_aload_n hx hb dX11_gives_65 rfl (lv_at hl 0 rfl) ?_
          refine hq_getR (o := o1) C hs fX11_gives_171 ho1 (by decide) rfl dX11_gives_66 ?_
          refine hq_getI (o := (o1 + 3)) C hs fX11_gives_92 (tc_0_2 ho1) (by decide) rfl dX11_gives_69 (fun g11 => ?_)
          refine hq_icmp_lt (tgt := 83) C g10 g11 dX11_gives_72 (by decide) (fun h => ?_) (fun h => ?_)
          · have hw := hw.1 h
            refine cb_X11_gives_83 o1 ho1 C hw hs (lv_sub hl [0] rfl) 
          · have hw := hw.2 h
            refine lv_aload_n hx hb dX11_gives_75 rfl (lv_at hl 1 rfl) ?_
            refine hq_getA (o := 0) C hs fX11_gives_62 tkC_0 (by decide) rfl dX11_gives_76 ?_
            refine lv_aload_n hx hb dX11_gives_79 rfl (lv_at hl 0 rfl) ?_
            refine hq_cV (n := 1) (ci := 5) (o := 384) (qc := (TX5, 3)) C hs (c_X5_receive l C.2.2.2.2.1 o1 ho1 _ _ hw) gX11_gives_X5_receive rfl ⟨rfl, rfl⟩ (by decide +kernel) ⟨Nat.le_of_ble_eq_true rfl, Nat.le_of_ble_eq_true rfl⟩ tkC_384 (by decide) rfl rfl hl.1 rfl (Nat.le_of_ble_eq_true rfl) dX11_gives_80 (hq_kv (fun M12 H locs hw hs => ?_))
            refine cb_X11_gives_83 o1 ho1 C hw hs (lv_sub hl [0] rfl) 
        · have hw := hw.2 h
          refine hq_bipush C dX11_gives_33 (by decide) ?_
          exact hq_iret C hs (by decide : rg (-2)) hw dX11_gives_35
      · have hw := hw.2 h
        refine hq_iconst C dX11_gives_24 ?_
        exact hq_iret C hs (by decide : rg (-1)) hw dX11_gives_25
