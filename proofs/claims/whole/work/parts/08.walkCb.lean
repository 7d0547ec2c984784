theorem iX4_readNumber_4 : ∀ w ∈ u_ws RX4 TX4 6, w ∈ wsX4_readNumber := fun w h => List.mem_cons_of_mem _ (List.mem_append_left _ (List.mem_append_right _ h))
set_option maxRecDepth 20000 in
theorem fX4_readNumber_9 : hq_fl vwCl wsX4_readNumber RX4 9 4 0 true (.object "HeadTables$Row") := ⟨RX4, TX4, 6, tyX4, rfl, by decide, iX4_readNumber_4, by decide +kernel, rfl, tyX4_ok 0 (by decide), tyX4_ok, nmX4⟩
set_option maxRecDepth 20000 in
theorem fX4_readNumber_31 : hq_fl vwCl wsX4_readNumber RX4 31 4 5 false .int := ⟨RX4, TX4, 6, tyX4, rfl, by decide, iX4_readNumber_4, by decide +kernel, rfl, tyX4_ok 5 (by decide), tyX4_ok, nmX4⟩
set_option maxRecDepth 20000 in
theorem fX4_readNumber_37 : hq_fl vwCl wsX4_readNumber RX4 37 4 4 false .int := ⟨RX4, TX4, 6, tyX4, rfl, by decide, iX4_readNumber_4, by decide +kernel, rfl, tyX4_ok 4 (by decide), tyX4_ok, nmX4⟩
set_option maxHeartbeats 4000000 in
set_option maxRecDepth 100000 in
theorem cl_X4_readNumber_52 {p : Program} {l : Launch} {e : Env} {s : State} {m : MethodId} {args : Array Value} {below : List Frame} {meth : Method} {c : Code} {D : va_G} {cA : Nat → ClassId} {B : Nat} {Z : State → Prop} (u1 : Int) {k_103 : Int → hq_M → Prop} {k : Int → hq_M → Prop} (C : hq_C vwCl p m c cX4_readNumber 5 s args wsX4_readNumber RX4 meth (some .int) D cA (hq_in B YC.length) Z)
    (hk_103 : ∀ (y3 : Int) (ry3 : rg y3) (M1 : hq_M) (H : Heap) (locs : List Loc) (ls : Array Slot), k_103 y3 M1 → hq_S vwCl SLx D cA YC B s.heap M1 H locs → lv_has ls 5 [(0, .ref (B + 7)), (1, .int (w3 u1)), (3, .int (w3 y3))] → W p l e ({ frames := 2, cells := 0, slots := 0, locals := 42 } : Room) s m args below meth c H locs 0 0 (MQ below (hq_Q vwCl SLx D cA YC B (hq_qi k)) args s 0 0 (hq_in B YC.length)) (F0 m 103 ls [])) : ∀ (n : Nat) (v3 : Int) (rv3 : rg v3) (v4 : Int) (rv4 : rg v4) (M : hq_M) (H : Heap) (locs : List Loc) (ls : Array Slot), l_X4_readNumber_52 k_103 k n v3 v4 M → hq_S vwCl SLx D cA YC B s.heap M H locs → lv_has ls 5 [(0, .ref (B + 7)), (1, .int (w3 u1)), (3, .int (w3 v3)), (4, .int (w3 v4))] → W p l e ({ frames := 2, cells := 0, slots := 0, locals := 42 } : Room) s m args below meth c H locs 0 0 (MQ below (hq_Q vwCl SLx D cA YC B (hq_qi k)) args s 0 0 (hq_in B YC.length)) (F0 m 52 ls []) := by
  have hx := C.1.1
  have hb := C.1.2.1
  intro n
  induction n with
  | zero => intro v3 rv3 v4 rv4 M H locs ls hw hs hl; exact hw.elim
  | succ n ih =>
    intro v3 rv3 v4 rv4 M H locs ls hw hs hl
    unfold l_X4_readNumber_52 at hw
    refine lv_iload hx hb dX4_readNumber_52 (lv_at hl 3 rfl) ?_
    refine lv_aload_n hx hb dX4_readNumber_54 rfl (lv_at hl 0 rfl) ?_
    refine hq_getI (o := 7) C hs fX4_readNumber_31 tkC_7 (by decide) rfl dX4_readNumber_55 (fun g1 => ?_)
    refine hq_icmp_ge (tgt := 103) C rv4 g1 dX4_readNumber_58 (by decide) (fun h => ?_) (fun h => ?_)
    · have hw := hw.1 h
      exact hk_103 v3 rv3 _ _ _ _ hw hs (lv_sub hl [0, 1, 2] rfl)
    · have hw := hw.2 h
      refine lv_aload_n hx hb dX4_readNumber_61 rfl (lv_at hl 0 rfl) ?_
      refine hq_getA (o := 7) C hs fX4_readNumber_9 tkC_7 (by decide) rfl dX4_readNumber_62 ?_
      refine lv_iload hx hb dX4_readNumber_65 (lv_at hl 3 rfl) ?_
      refine hq_cV (n := 1) (ci := 6) (o := 1) (qc := (TX6, 2)) C hs (c_X6_at l C.2.2.2.2.1 1 tkC_1 v4 rv4 _ _ hw) gX4_readNumber_X6_at rfl ⟨rfl, rfl⟩ (by decide +kernel) ⟨Nat.le_of_ble_eq_true rfl, Nat.le_of_ble_eq_true rfl⟩ tkC_1 (by decide) rfl rfl hl.1 rfl (Nat.le_of_ble_eq_true rfl) dX4_readNumber_67 (hq_ki (fun x2 M9 H locs rx2 hw hs => ?_))
      obtain ⟨e9, hw⟩ := hw; rw [e9] at hs
      refine hq_cS (n := 1) C hs (c_X4_isDigit l C.2.2.2.2.1 x2 rx2 _ _ hw) gX4_readNumber_X4_isDigit rfl ⟨rfl, rfl⟩ (by decide +kernel) ⟨Nat.le_of_ble_eq_true rfl, Nat.le_of_ble_eq_true rfl⟩ rfl hl.1 rfl (Nat.le_of_ble_eq_true rfl) dX4_readNumber_70 (hq_kz (fun x3 M9 H locs rx3 hw hs => ?_))
      obtain ⟨e9, hw⟩ := hw; rw [e9] at hs
      refine hq_if_ne (tgt := 79) C (rb_rg rx3) dX4_readNumber_73 (by decide) (fun h => ?_) (fun h => ?_)
      · have hw := hw.1 h
        refine lv_iload_n hx hb dX4_readNumber_79 rfl (lv_at hl 2 rfl) ?_
        refine hq_bipush C dX4_readNumber_80 (by decide) ?_
        obtain ⟨g4, hw⟩ := hw
        refine hq_imul C dX4_readNumber_82 ?_
        refine lv_aload_n hx hb dX4_readNumber_83 rfl (lv_at hl 0 rfl) ?_
        refine hq_getA (o := 7) C hs fX4_readNumber_9 tkC_7 (by decide) rfl dX4_readNumber_84 ?_
        refine lv_iload hx hb dX4_readNumber_87 (lv_at hl 3 rfl) ?_
        refine hq_cV (n := 1) (ci := 6) (o := 1) (qc := (TX6, 2)) C hs (c_X6_at l C.2.2.2.2.1 1 tkC_1 v4 rv4 _ _ hw) gX4_readNumber_X6_at rfl ⟨rfl, rfl⟩ (by decide +kernel) ⟨Nat.le_of_ble_eq_true rfl, Nat.le_of_ble_eq_true rfl⟩ tkC_1 (by decide) rfl rfl hl.1 rfl (Nat.le_of_ble_eq_true rfl) dX4_readNumber_89 (hq_ki (fun x5 M9 H locs rx5 hw hs => ?_))
        obtain ⟨e9, hw⟩ := hw; rw [e9] at hs
        obtain ⟨g6, hw⟩ := hw
        refine hq_iadd C dX4_readNumber_92 ?_
        refine hq_bipush C dX4_readNumber_93 (by decide) ?_
        obtain ⟨g7, hw⟩ := hw
        refine hq_isub C dX4_readNumber_95 ?_
        refine hq_nm (fun x8 ex8 => ?_)
        have hw := hw x8 ex8
        have rx8 : rg x8 := by rw [ex8]; exact g7
        refine lv_istore_n (lv' := [(3, .int (w3 x8)), (0, .ref (B + 7)), (1, .int (w3 u1)), (4, .int (w3 v4))]) hx hb dX4_readNumber_96 rfl hl (by decide) rfl (fun ls hl => ?_)
        obtain ⟨g10, hw⟩ := hw
        refine hq_iinc (k := 3) C dX4_readNumber_97 hl rfl (by decide) (fun x9 ex9 ls hl => ?_)
        have hw := hw x9 ex9
        have rx9 : rg x9 := by rw [ex9]; exact g10
        have hl : lv_has ls 5 [(4, .int (w3 x9)), (3, .int (w3 x8)), (0, .ref (B + 7)), (1, .int (w3 u1))] := hl
        refine hq_goto (tgt := 52) C dX4_readNumber_100 (by decide) ?_
        exact ih x8 rx8 x9 rx9 _ _ _ _ hw hs (lv_sub hl [2, 3, 1, 0] rfl)
      · have hw := hw.2 h
        refine hq_bipush C dX4_readNumber_76 (by decide) ?_
        exact hq_iret C hs (by decide : rg (-9)) hw dX4_readNumber_78
set_option maxHeartbeats 4000000 in
set_option maxRecDepth 100000 in
theorem cb_X4_readNumber_44 {p : Program} {l : Launch} {e : Env} {s : State} {m : MethodId} {args : Array Value} {below : List Frame} {meth : Method} {c : Code} {D : va_G} {cA : Nat → ClassId} {B : Nat} {Z : State → Prop} (v1 : Int) (rv1 : rg v1)  {k : Int → hq_M → Prop} {M : hq_M} {H : Heap} {locs : List Loc} {ls : Array Slot} (C : hq_C vwCl p m c cX4_readNumber 5 s args wsX4_readNumber RX4 meth (some .int) D cA (hq_in B YC.length) Z)
    (hw : b_X4_readNumber_44 v1 k M) (hs : hq_S vwCl SLx D cA YC B s.heap M H locs) (hl : lv_has ls 5 [(0, .ref (B + 7)), (1, .int (w3 v1))])
     : W p l e ({ frames := 2, cells := 0, slots := 0, locals := 42 } : Room) s m args below meth c H locs 0 0 (MQ below (hq_Q vwCl SLx D cA YC B (hq_qi k)) args s 0 0 (hq_in B YC.length)) (F0 m 44 ls []) := by
  have hx := C.1.1
  have hb := C.1.2.1
  unfold b_X4_readNumber_44 at hw
  refine hq_iconst C dX4_readNumber_44 ?_
  refine lv_istore_n (lv' := [(3, .int (w3 0)), (0, .ref (B + 7)), (1, .int (w3 v1))]) hx hb dX4_readNumber_45 rfl hl (by decide) rfl (fun ls hl => ?_)
  refine lv_aload_n hx hb dX4_readNumber_46 rfl (lv_at hl 1 rfl) ?_
  refine hq_getI (o := 7) C hs fX4_readNumber_37 tkC_7 (by decide) rfl dX4_readNumber_47 (fun g1 => ?_)
  refine hq_nm (fun x2 ex2 => ?_)
  have hw := hw x2 ex2
  have rx2 : rg x2 := by rw [ex2]; exact g1
  refine lv_istore (lv' := [(4, .int (w3 x2)), (3, .int (w3 0)), (0, .ref (B + 7)), (1, .int (w3 v1))]) hx hb dX4_readNumber_50 hl (by decide) rfl (fun ls hl => ?_)
  obtain ⟨n9, hw⟩ := hw
  refine cl_X4_readNumber_52 v1 C ?_ n9 0 (by decide : rg 0) x2 rx2 _ _ _ _ hw hs (lv_sub hl [2, 3, 1, 0] rfl)
  · intro x4 rx4 M3 H locs ls hw hs hl
    refine lv_iload_n hx hb dX4_readNumber_103 rfl (lv_at hl 2 rfl) ?_
    refine lv_iload_n hx hb dX4_readNumber_104 rfl (lv_at hl 1 rfl) ?_
    refine hq_icmp_le (tgt := 111) C rx4 rv1 dX4_readNumber_105 (by decide) (fun h => ?_) (fun h => ?_)
    · have hw := hw.1 h
      refine lv_aload_n hx hb dX4_readNumber_111 rfl (lv_at hl 0 rfl) ?_
      refine hq_cV (n := 0) (ci := 4) (o := 7) (qc := (TX4, 6)) C hs (c_X4_advance l C.2.2.2.2.1 _ _ hw) gX4_readNumber_X4_advance rfl ⟨rfl, rfl⟩ (by decide +kernel) ⟨Nat.le_of_ble_eq_true rfl, Nat.le_of_ble_eq_true rfl⟩ tkC_7 (by decide) rfl rfl hl.1 rfl (Nat.le_of_ble_eq_true rfl) dX4_readNumber_112 (hq_kv (fun M5 H locs hw hs => ?_))
      refine lv_iload_n hx hb dX4_readNumber_115 rfl (lv_at hl 2 rfl) ?_
      exact hq_iret C hs rx4 hw dX4_readNumber_116
    · have hw := hw.2 h
      refine hq_bipush C dX4_readNumber_108 (by decide) ?_
      exact hq_iret C hs (by decide : rg (-9)) hw dX4_readNumber_110
set_option maxHeartbeats 4000000 in
set_option maxRecDepth 100000 in
theorem c_X4_readNumber (l : Launch) {D : va_G} {cA : Nat → ClassId} {B : Nat} {Z : State → Prop} (hZ : hq_Zo Z (hq_in B YC.length)) (v1 : Int) (rv1 : rg v1) (M : hq_M) (k : Int → hq_M → Prop) (hw : w_X4_readNumber v1 M k) : hq_T vwCl SLx l yX4_readNumber wsX4_readNumber ({ frames := 2, cells := 0, slots := 0, locals := 42 } : Room) D cA YC B Z [.ref (B + 7), .int (w3 v1)] M (hq_qi k) := by
  refine hq_meth (cc := cX4_readNumber) (maxL := 5) (ret := (some .int)) (own := RX4) hZ rfl (by decide +kernel) rfl (Nat.le_of_ble_eq_true rfl) ?_
  intro p e s m below meth c ls C hs hl
  have hx := C.1.1
  have hb := C.1.2.1
  unfold w_X4_readNumber at hw
  have hl : lv_has ls 5 [(0, .ref (B + 7)), (1, .int (w3 v1))] := hl
  refine lv_aload_n hx hb dX4_readNumber_0 rfl (lv_at hl 0 rfl) ?_
  refine hq_getI (o := 7) C hs fX4_readNumber_31 tkC_7 (by decide) rfl dX4_readNumber_1 (fun g1 => ?_)
  refine lv_aload_n hx hb dX4_readNumber_4 rfl (lv_at hl 0 rfl) ?_
  refine hq_getI (o := 7) C hs fX4_readNumber_37 tkC_7 (by decide) rfl dX4_readNumber_5 (fun g2 => ?_)
  obtain ⟨g3, hw⟩ := hw
  refine hq_isub C dX4_readNumber_8 ?_
  refine hq_nm (fun x4 ex4 => ?_)
  have hw := hw x4 ex4
  have rx4 : rg x4 := by rw [ex4]; exact g3
  refine lv_istore_n (lv' := [(2, .int (w3 x4)), (0, .ref (B + 7)), (1, .int (w3 v1))]) hx hb dX4_readNumber_9 rfl hl (by decide) rfl (fun ls hl => ?_)
  refine lv_iload_n hx hb dX4_readNumber_10 rfl (lv_at hl 0 rfl) ?_
  refine hq_iconst C dX4_readNumber_11 ?_
  refine hq_icmp_lt (tgt := 41) C rx4 (by decide : rg 1) dX4_readNumber_12 (by decide) (fun h => ?_) (fun h => ?_)
  · have hw := hw.1 h
    refine hq_bipush C dX4_readNumber_41 (by decide) ?_
    exact hq_iret C hs (by decide : rg (-9)) hw dX4_readNumber_43
  · have hw := hw.2 h
    refine lv_iload_n hx hb dX4_readNumber_15 rfl (lv_at hl 0 rfl) ?_
    refine hq_iconst C dX4_readNumber_16 ?_
    refine hq_icmp_gt (tgt := 41) C rx4 (by decide : rg 3) dX4_readNumber_17 (by decide) (fun h => ?_) (fun h => ?_)
    · have hw := hw.1 h
      refine hq_bipush C dX4_readNumber_41 (by decide) ?_
      exact hq_iret C hs (by decide : rg (-9)) hw dX4_readNumber_43
    · have hw := hw.2 h
      refine lv_iload_n hx hb dX4_readNumber_20 rfl (lv_at hl 0 rfl) ?_
      refine hq_iconst C dX4_readNumber_21 ?_
      refine hq_icmp_le (tgt := 44) C rx4 (by decide : rg 1) dX4_readNumber_22 (by decide) (fun h => ?_) (fun h => ?_)
      · have hw := hw.1 h
        refine cb_X4_readNumber_44 v1 rv1 C hw hs (lv_sub hl [1, 2] rfl) 
      · have hw := hw.2 h
        refine lv_aload_n hx hb dX4_readNumber_25 rfl (lv_at hl 1 rfl) ?_
        refine hq_getA (o := 7) C hs fX4_readNumber_9 tkC_7 (by decide) rfl dX4_readNumber_26 ?_
        refine lv_aload_n hx hb dX4_readNumber_29 rfl (lv_at hl 1 rfl) ?_
        refine hq_getI (o := 7) C hs fX4_readNumber_37 tkC_7 (by decide) rfl dX4_readNumber_30 (fun g5 => ?_)
        refine hq_cV (n := 1) (ci := 6) (o := 1) (qc := (TX6, 2)) C hs (c_X6_at l C.2.2.2.2.1 1 tkC_1 (M 7 4) g5 _ _ hw) gX4_readNumber_X6_at rfl ⟨rfl, rfl⟩ (by decide +kernel) ⟨Nat.le_of_ble_eq_true rfl, Nat.le_of_ble_eq_true rfl⟩ tkC_1 (by decide) rfl rfl hl.1 rfl (Nat.le_of_ble_eq_true rfl) dX4_readNumber_33 (hq_ki (fun x6 M9 H locs rx6 hw hs => ?_))
        obtain ⟨e9, hw⟩ := hw; rw [e9] at hs
        refine hq_bipush C dX4_readNumber_36 (by decide) ?_
        refine hq_icmp_ne (tgt := 44) C rx6 (by decide : rg 48) dX4_readNumber_38 (by decide) (fun h => ?_) (fun h => ?_)
        · have hw := hw.1 h
          refine cb_X4_readNumber_44 v1 rv1 C hw hs (lv_sub hl [1, 2] rfl) 
        · have hw := hw.2 h
          refine hq_bipush C dX4_readNumber_41 (by decide) ?_
          exact hq_iret C hs (by decide : rg (-9)) hw dX4_readNumber_43
theorem iX4_readSign_4 : ∀ w ∈ u_ws RX4 TX4 6, w ∈ wsX4_readSign := fun w h => List.mem_cons_of_mem _ (List.mem_append_left _ (List.mem_append_right _ h))
set_option maxRecDepth 20000 in
theorem fX4_readSign_9 : hq_fl vwCl wsX4_readSign RX4 9 4 0 true (.object "HeadTables$Row") := ⟨RX4, TX4, 6, tyX4, rfl, by decide, iX4_readSign_4, by decide +kernel, rfl, tyX4_ok 0 (by decide), tyX4_ok, nmX4⟩
set_option maxRecDepth 20000 in
theorem fX4_readSign_31 : hq_fl vwCl wsX4_readSign RX4 31 4 5 false .int := ⟨RX4, TX4, 6, tyX4, rfl, by decide, iX4_readSign_4, by decide +kernel, rfl, tyX4_ok 5 (by decide), tyX4_ok, nmX4⟩
set_option maxRecDepth 20000 in
theorem fX4_readSign_37 : hq_fl vwCl wsX4_readSign RX4 37 4 4 false .int := ⟨RX4, TX4, 6, tyX4, rfl, by decide, iX4_readSign_4, by decide +kernel, rfl, tyX4_ok 4 (by decide), tyX4_ok, nmX4⟩
set_option maxHeartbeats 4000000 in
set_option maxRecDepth 100000 in
theorem c_X4_readSign (l : Launch) {D : va_G} {cA : Nat → ClassId} {B : Nat} {Z : State → Prop} (hZ : hq_Zo Z (hq_in B YC.length)) (v1 : Int) (rv1 : rg v1) (M : hq_M) (k : Int → hq_M → Prop) (hw : w_X4_readSign v1 M k) : hq_T vwCl SLx l yX4_readSign wsX4_readSign ({ frames := 2, cells := 0, slots := 0, locals := 42 } : Room) D cA YC B Z [.ref (B + 7), .int (w3 v1)] M (hq_qz k) := by
  refine hq_meth (cc := cX4_readSign) (maxL := 2) (ret := (some .boolean)) (own := RX4) hZ rfl (by decide +kernel) rfl (Nat.le_of_ble_eq_true rfl) ?_
  intro p e s m below meth c ls C hs hl
  have hx := C.1.1
  have hb := C.1.2.1
  unfold w_X4_readSign at hw
  have hl : lv_has ls 2 [(0, .ref (B + 7)), (1, .int (w3 v1))] := hl
  refine lv_aload_n hx hb dX4_readSign_0 rfl (lv_at hl 0 rfl) ?_
  refine hq_getI (o := 7) C hs fX4_readSign_31 tkC_7 (by decide) rfl dX4_readSign_1 (fun g1 => ?_)
  refine lv_aload_n hx hb dX4_readSign_4 rfl (lv_at hl 0 rfl) ?_
  refine hq_getI (o := 7) C hs fX4_readSign_37 tkC_7 (by decide) rfl dX4_readSign_5 (fun g2 => ?_)
  refine hq_icmp_gt (tgt := 26) C g1 g2 dX4_readSign_8 (by decide) (fun h => ?_) (fun h => ?_)
  · have hw := hw.1 h
    refine hq_iconst C dX4_readSign_26 ?_
    exact hq_zret C hs (by decide) hw dX4_readSign_27
  · have hw := hw.2 h
    refine lv_aload_n hx hb dX4_readSign_11 rfl (lv_at hl 0 rfl) ?_
    refine hq_getA (o := 7) C hs fX4_readSign_9 tkC_7 (by decide) rfl dX4_readSign_12 ?_
    refine lv_aload_n hx hb dX4_readSign_15 rfl (lv_at hl 0 rfl) ?_
    refine hq_getI (o := 7) C hs fX4_readSign_37 tkC_7 (by decide) rfl dX4_readSign_16 (fun g3 => ?_)
    refine hq_cV (n := 1) (ci := 6) (o := 1) (qc := (TX6, 2)) C hs (c_X6_at l C.2.2.2.2.1 1 tkC_1 (M 7 4) g3 _ _ hw) gX4_readSign_X6_at rfl ⟨rfl, rfl⟩ (by decide +kernel) ⟨Nat.le_of_ble_eq_true rfl, Nat.le_of_ble_eq_true rfl⟩ tkC_1 (by decide) rfl rfl hl.1 rfl (Nat.le_of_ble_eq_true rfl) dX4_readSign_19 (hq_ki (fun x4 M9 H locs rx4 hw hs => ?_))
    obtain ⟨e9, hw⟩ := hw; rw [e9] at hs
    refine lv_iload_n hx hb dX4_readSign_22 rfl (lv_at hl 1 rfl) ?_
    refine hq_icmp_eq (tgt := 28) C rx4 rv1 dX4_readSign_23 (by decide) (fun h => ?_) (fun h => ?_)
    · have hw := hw.1 h
      refine lv_aload_n hx hb dX4_readSign_28 rfl (lv_at hl 0 rfl) ?_
      refine lv_aload_n hx hb dX4_readSign_29 rfl (lv_at hl 0 rfl) ?_
      refine hq_getI (o := 7) C hs fX4_readSign_37 tkC_7 (by decide) rfl dX4_readSign_30 (fun g5 => ?_)
      refine hq_iconst C dX4_readSign_33 ?_
      obtain ⟨g6, hw⟩ := hw
      refine hq_iadd C dX4_readSign_34 ?_
      refine hq_putI (o := 7) C hs fX4_readSign_31 tkC_7 (by decide) rfl g6 dX4_readSign_35 (fun M7 eM7 H locs hs => ?_)
      have hw := hw M7 eM7
      refine lv_aload_n hx hb dX4_readSign_38 rfl (lv_at hl 0 rfl) ?_
      refine hq_cV (n := 0) (ci := 4) (o := 7) (qc := (TX4, 6)) C hs (c_X4_advance l C.2.2.2.2.1 _ _ hw) gX4_readSign_X4_advance rfl ⟨rfl, rfl⟩ (by decide +kernel) ⟨Nat.le_of_ble_eq_true rfl, Nat.le_of_ble_eq_true rfl⟩ tkC_7 (by decide) rfl rfl hl.1 rfl (Nat.le_of_ble_eq_true rfl) dX4_readSign_39 (hq_kv (fun M8 H locs hw hs => ?_))
      refine hq_iconst C dX4_readSign_42 ?_
      exact hq_zret C hs (by decide) hw dX4_readSign_43
    · have hw := hw.2 h
      refine hq_iconst C dX4_readSign_26 ?_
      exact hq_zret C hs (by decide) hw dX4_readSign_27
theorem iX4_isName_4 : ∀ w ∈ u_ws RX4 TX4 6, w ∈ wsX4_isName := fun w h => List.mem_cons_of_mem _ (List.mem_append_left _ (List.mem_append_right _ h))
set_option maxRecDepth 20000 in
theorem fX4_isName_9 : hq_fl vwCl wsX4_isName RX4 9 4 0 true (.object "HeadTables$Row") := ⟨RX4, TX4, 6, tyX4, rfl, by decide, iX4_isName_4, by decide +kernel, rfl, tyX4_ok 0 (by decide), tyX4_ok, nmX4⟩
set_option maxRecDepth 20000 in
theorem fX4_isName_31 : hq_fl vwCl wsX4_isName RX4 31 4 5 false .int := ⟨RX4, TX4, 6, tyX4, rfl, by decide, iX4_isName_4, by decide +kernel, rfl, tyX4_ok 5 (by decide), tyX4_ok, nmX4⟩
set_option maxRecDepth 20000 in
theorem fX4_isName_37 : hq_fl vwCl wsX4_isName RX4 37 4 4 false .int := ⟨RX4, TX4, 6, tyX4, rfl, by decide, iX4_isName_4, by decide +kernel, rfl, tyX4_ok 4 (by decide), tyX4_ok, nmX4⟩
set_option maxHeartbeats 4000000 in
set_option maxRecDepth 100000 in
theorem cl_X4_isName_32 {p : Program} {l : Launch} {e : Env} {s : State} {m : MethodId} {args : Array Value} {below : List Frame} {meth : Method} {c : Code} {D : va_G} {cA : Nat → ClassId} {B : Nat} {Z : State → Prop}   {k : Int → Prop} {M : hq_M} (C : hq_C vwCl p m c cX4_isName 2 s args wsX4_isName RX4 meth (some .boolean) D cA (hq_in B YC.length) Z)
     : ∀ (n : Nat) (v1 : Int) (rv1 : rg v1) (H : Heap) (locs : List Loc) (ls : Array Slot), l_X4_isName_32 k M n v1 → hq_S vwCl SLx D cA YC B s.heap M H locs → lv_has ls 2 [(0, .ref (B + 7)), (1, .int (w3 v1))] → W p l e ({ frames := 1, cells := 0, slots := 0, locals := 21 } : Room) s m args below meth c H locs 0 0 (MQ below (hq_Q vwCl SLx D cA YC B (hq_qz (fun z M' => M' = M ∧ k z))) args s 0 0 (hq_in B YC.length)) (F0 m 32 ls []) := by
  have hx := C.1.1
  have hb := C.1.2.1
  intro n
  induction n with
  | zero => intro v1 rv1 H locs ls hw hs hl; exact hw.elim
  | succ n ih =>
    intro v1 rv1 H locs ls hw hs hl
    unfold l_X4_isName_32 at hw
    refine lv_iload_n hx hb dX4_isName_32 rfl (lv_at hl 1 rfl) ?_
    refine lv_aload_n hx hb dX4_isName_33 rfl (lv_at hl 0 rfl) ?_
    refine hq_getI (o := 7) C hs fX4_isName_31 tkC_7 (by decide) rfl dX4_isName_34 (fun g1 => ?_)
    refine hq_icmp_ge (tgt := 62) C rv1 g1 dX4_isName_37 (by decide) (fun h => ?_) (fun h => ?_)
    · have hw := hw.1 h
      refine hq_iconst C dX4_isName_62 ?_
      exact hq_zret C hs (by decide) ⟨rfl, hw⟩ dX4_isName_63
    · have hw := hw.2 h
      refine lv_aload_n hx hb dX4_isName_40 rfl (lv_at hl 0 rfl) ?_
      refine hq_getA (o := 7) C hs fX4_isName_9 tkC_7 (by decide) rfl dX4_isName_41 ?_
      refine lv_iload_n hx hb dX4_isName_44 rfl (lv_at hl 1 rfl) ?_
      refine hq_cV (n := 1) (ci := 6) (o := 1) (qc := (TX6, 2)) C hs (c_X6_at l C.2.2.2.2.1 1 tkC_1 v1 rv1 _ _ hw) gX4_isName_X6_at rfl ⟨rfl, rfl⟩ (by decide +kernel) ⟨Nat.le_of_ble_eq_true rfl, Nat.le_of_ble_eq_true rfl⟩ tkC_1 (by decide) rfl rfl hl.1 rfl (Nat.le_of_ble_eq_true rfl) dX4_isName_45 (hq_ki (fun x2 M9 H locs rx2 hw hs => ?_))
      obtain ⟨e9, hw⟩ := hw; rw [e9] at hs
      refine hq_cS (n := 1) C hs (c_X4_isLetter l C.2.2.2.2.1 x2 rx2 _ _ hw) gX4_isName_X4_isLetter rfl ⟨rfl, rfl⟩ (by decide +kernel) ⟨Nat.le_of_ble_eq_true rfl, Nat.le_of_ble_eq_true rfl⟩ rfl hl.1 rfl (Nat.le_of_ble_eq_true rfl) dX4_isName_48 (hq_kz (fun x3 M9 H locs rx3 hw hs => ?_))
      obtain ⟨e9, hw⟩ := hw; rw [e9] at hs
      refine hq_if_ne (tgt := 56) C (rb_rg rx3) dX4_isName_51 (by decide) (fun h => ?_) (fun h => ?_)
      · have hw := hw.1 h
        obtain ⟨g5, hw⟩ := hw
        refine hq_iinc (k := 1) C dX4_isName_56 hl rfl (by decide) (fun x4 ex4 ls hl => ?_)
        have hw := hw x4 ex4
        have rx4 : rg x4 := by rw [ex4]; exact g5
        have hl : lv_has ls 2 [(1, .int (w3 x4)), (0, .ref (B + 7))] := hl
        refine hq_goto (tgt := 32) C dX4_isName_59 (by decide) ?_
        exact ih x4 rx4 _ _ _ hw hs (lv_sub hl [1, 0] rfl)
      · have hw := hw.2 h
        refine hq_iconst C dX4_isName_54 ?_
        exact hq_zret C hs (by decide) ⟨rfl, hw⟩ dX4_isName_55
set_option maxHeartbeats 4000000 in
set_option maxRecDepth 100000 in
theorem c_X4_isName (l : Launch) {D : va_G} {cA : Nat → ClassId} {B : Nat} {Z : State → Prop} (hZ : hq_Zo Z (hq_in B YC.length))  (M : hq_M) (k : Int → Prop) (hw : w_X4_isName  M k) : hq_T vwCl SLx l yX4_isName wsX4_isName ({ frames := 1, cells := 0, slots := 0, locals := 21 } : Room) D cA YC B Z [.ref (B + 7)] M (hq_qz (fun z M' => M' = M ∧ k z)) := by
  refine hq_meth (cc := cX4_isName) (maxL := 2) (ret := (some .boolean)) (own := RX4) hZ rfl (by decide +kernel) rfl (Nat.le_of_ble_eq_true rfl) ?_
  intro p e s m below meth c ls C hs hl
  have hx := C.1.1
  have hb := C.1.2.1
  unfold w_X4_isName at hw
  have hl : lv_has ls 2 [(0, .ref (B + 7))] := hl
  refine lv_aload_n hx hb dX4_isName_0 rfl (lv_at hl 0 rfl) ?_
  refine hq_getI (o := 7) C hs fX4_isName_31 tkC_7 (by decide) rfl dX4_isName_1 (fun g1 => ?_)
  refine lv_aload_n hx hb dX4_isName_4 rfl (lv_at hl 0 rfl) ?_
  refine hq_getI (o := 7) C hs fX4_isName_37 tkC_7 (by decide) rfl dX4_isName_5 (fun g2 => ?_)
  refine hq_icmp_eq (tgt := 25) C g1 g2 dX4_isName_8 (by decide) (fun h => ?_) (fun h => ?_)
  · have hw := hw.1 h
    refine hq_iconst C dX4_isName_25 ?_
    exact hq_zret C hs (by decide) ⟨rfl, hw⟩ dX4_isName_26
  · have hw := hw.2 h
    refine lv_aload_n hx hb dX4_isName_11 rfl (lv_at hl 0 rfl) ?_
    refine hq_getI (o := 7) C hs fX4_isName_31 tkC_7 (by decide) rfl dX4_isName_12 (fun g3 => ?_)
    refine lv_aload_n hx hb dX4_isName_15 rfl (lv_at hl 0 rfl) ?_
    refine hq_getI (o := 7) C hs fX4_isName_37 tkC_7 (by decide) rfl dX4_isName_16 (fun g4 => ?_)
    obtain ⟨g5, hw⟩ := hw
    refine hq_isub C dX4_isName_19 ?_
    refine hq_bipush C dX4_isName_20 (by decide) ?_
    refine hq_icmp_le (tgt := 27) C g5 (by decide : rg 6) dX4_isName_22 (by decide) (fun h => ?_) (fun h => ?_)
    · have hw := hw.1 h
      refine lv_aload_n hx hb dX4_isName_27 rfl (lv_at hl 0 rfl) ?_
      refine hq_getI (o := 7) C hs fX4_isName_37 tkC_7 (by decide) rfl dX4_isName_28 (fun g6 => ?_)
      refine hq_nm (fun x7 ex7 => ?_)
      have hw := hw x7 ex7
      have rx7 : rg x7 := by rw [ex7]; exact g6
      refine lv_istore_n (lv' := [(1, .int (w3 x7)), (0, .ref (B + 7))]) hx hb dX4_isName_31 rfl hl (by decide) rfl (fun ls hl => ?_)
      obtain ⟨n9, hw⟩ := hw
      refine cl_X4_isName_32  C  n9 x7 rx7 _ _ _ hw hs (lv_sub hl [1, 0] rfl)
    · have hw := hw.2 h
      refine hq_iconst C dX4_isName_25 ?_
      exact hq_zret C hs (by decide) ⟨rfl, hw⟩ dX4_isName_26
theorem iX6_add_6 : ∀ w ∈ u_ws RX6 TX6 2, w ∈ wsX6_add := fun w h => List.mem_cons_of_mem _ (List.mem_append_right _ h)
set_option maxRecDepth 20000 in
theorem fX6_add_15 : hq_fl vwCl wsX6_add RX6 15 6 0 true (.array .int) := ⟨RX6, TX6, 2, tyX6, rfl, by decide, iX6_add_6, by decide +kernel, rfl, tyX6_ok 0 (by decide), tyX6_ok, nmX6⟩
set_option maxRecDepth 20000 in
theorem fX6_add_21 : hq_fl vwCl wsX6_add RX6 21 6 1 false .int := ⟨RX6, TX6, 2, tyX6, rfl, by decide, iX6_add_6, by decide +kernel, rfl, tyX6_ok 1 (by decide), tyX6_ok, nmX6⟩
set_option maxHeartbeats 4000000 in
set_option maxRecDepth 100000 in
theorem c_X6_add (l : Launch) {D : va_G} {cA : Nat → ClassId} {B : Nat} {Z : State → Prop} (hZ : hq_Zo Z (hq_in B YC.length)) (v0 : Nat) (hv0 : YC[v0]? = some (6, 0)) (v1 : Int) (rv1 : rg v1) (M : hq_M) (k : Int → hq_M → Prop) (hw : w_X6_add v0 v1 M k) : hq_T vwCl SLx l yX6_add wsX6_add ({ frames := 0, cells := 0, slots := 0, locals := 0 } : Room) D cA YC B Z [.ref (B + v0), .int (w3 v1)] M (hq_qz k) := by
  refine hq_meth (cc := cX6_add) (maxL := 2) (ret := (some .boolean)) (own := RX6) hZ rfl (by decide +kernel) rfl (Nat.le_of_ble_eq_true rfl) ?_
  intro p e s m below meth c ls C hs hl
  have hx := C.1.1
  have hb := C.1.2.1
  unfold w_X6_add at hw
  have hl : lv_has ls 2 [(0, .ref (B + v0)), (1, .int (w3 v1))] := hl
  refine lv_aload_n hx hb dX6_add_0 rfl (lv_at hl 0 rfl) ?_
  refine hq_getI (o := v0) C hs fX6_add_21 hv0 (by decide) rfl dX6_add_1 (fun g1 => ?_)
  refine hq_if_lt (tgt := 19) C g1 dX6_add_4 (by decide) (fun h => ?_) (fun h => ?_)
  · have hw := hw.1 h
    refine hq_iconst C dX6_add_19 ?_
    exact hq_zret C hs (by decide) hw dX6_add_20
  · have hw := hw.2 h
    refine lv_aload_n hx hb dX6_add_7 rfl (lv_at hl 0 rfl) ?_
    refine hq_getI (o := v0) C hs fX6_add_21 hv0 (by decide) rfl dX6_add_8 (fun g2 => ?_)
    refine lv_aload_n hx hb dX6_add_11 rfl (lv_at hl 0 rfl) ?_
    refine hq_getR (o := v0) C hs fX6_add_15 hv0 (by decide) rfl dX6_add_12 ?_
    refine hq_alen (o := (v0 + 1)) C hs (tc_6_0 hv0) (by decide) dX6_add_15 ?_
    refine hq_icmp_lt (tgt := 21) C g2 (hq_lenrg _) dX6_add_16 (by decide) (fun h => ?_) (fun h => ?_)
    · have hw := hw.1 h
      refine lv_aload_n hx hb dX6_add_21 rfl (lv_at hl 0 rfl) ?_
      refine hq_getR (o := v0) C hs fX6_add_15 hv0 (by decide) rfl dX6_add_22 ?_
      refine lv_aload_n hx hb dX6_add_25 rfl (lv_at hl 0 rfl) ?_
      refine hq_getI (o := v0) C hs fX6_add_21 hv0 (by decide) rfl dX6_add_26 (fun g3 => ?_)
      refine lv_iload_n hx hb dX6_add_29 rfl (lv_at hl 1 rfl) ?_
      obtain ⟨g4, hw⟩ := hw
      refine hq_iast (o := (v0 + 1)) C hs (tc_6_0 hv0) g3 g4 rv1 dX6_add_30 (fun M5 eM5 H locs hs => ?_)
      have hw := hw M5 eM5
      refine lv_aload_n hx hb dX6_add_31 rfl (lv_at hl 0 rfl) ?_
      refine lv_dup hx hb dX6_add_32 rfl ?_
      refine hq_getI (o := v0) C hs fX6_add_21 hv0 (by decide) rfl dX6_add_33 (fun g6 => ?_)
      refine hq_iconst C dX6_add_36 ?_
      obtain ⟨g7, hw⟩ := hw
      refine hq_iadd C dX6_add_37 ?_
      refine hq_putI (o := v0) C hs fX6_add_21 hv0 (by decide) rfl g7 dX6_add_38 (fun M8 eM8 H locs hs => ?_)
      have hw := hw M8 eM8
      refine hq_iconst C dX6_add_41 ?_
      exact hq_zret C hs (by decide) hw dX6_add_42
    · have hw := hw.2 h
      refine hq_iconst C dX6_add_19 ?_
      exact hq_zret C hs (by decide) hw dX6_add_20
theorem iX4_readWord_4 : ∀ w ∈ u_ws RX4 TX4 6, w ∈ wsX4_readWord := fun w h => List.mem_cons_of_mem _ (List.mem_append_left _ (List.mem_append_right _ h))
set_option maxRecDepth 20000 in
theorem fX4_readWord_9 : hq_fl vwCl wsX4_readWord RX4 9 4 0 true (.object "HeadTables$Row") := ⟨RX4, TX4, 6, tyX4, rfl, by decide, iX4_readWord_4, by decide +kernel, rfl, tyX4_ok 0 (by decide), tyX4_ok, nmX4⟩
set_option maxRecDepth 20000 in
theorem fX4_readWord_31 : hq_fl vwCl wsX4_readWord RX4 31 4 5 false .int := ⟨RX4, TX4, 6, tyX4, rfl, by decide, iX4_readWord_4, by decide +kernel, rfl, tyX4_ok 5 (by decide), tyX4_ok, nmX4⟩
set_option maxRecDepth 20000 in
theorem fX4_readWord_37 : hq_fl vwCl wsX4_readWord RX4 37 4 4 false .int := ⟨RX4, TX4, 6, tyX4, rfl, by decide, iX4_readWord_4, by decide +kernel, rfl, tyX4_ok 4 (by decide), tyX4_ok, nmX4⟩
set_option maxHeartbeats 4000000 in
set_option maxRecDepth 100000 in
theorem cl_X4_readWord_9 {p : Program} {l : Launch} {e : Env} {s : State} {m : MethodId} {args : Array Value} {below : List Frame} {meth : Method} {c : Code} {D : va_G} {cA : Nat → ClassId} {B : Nat} {Z : State → Prop} (v1 : Nat) (hv1 : YC[v1]? = some (6, 0)) {k_36 : hq_M → Prop} {k : hq_M → Prop} (C : hq_C vwCl p m c cX4_readWord 3 s args wsX4_readWord RX4 meth none D cA (hq_in B YC.length) Z)
    (hk_36 : ∀ (M1 : hq_M) (H : Heap) (locs : List Loc) (ls : Array Slot), k_36 M1 → hq_S vwCl SLx D cA YC B s.heap M1 H locs → lv_has ls 3 [(0, .ref (B + 7))] → W p l e ({ frames := 2, cells := 0, slots := 0, locals := 42 } : Room) s m args below meth c H locs 0 0 (MQ below (hq_Q vwCl SLx D cA YC B (hq_qv k)) args s 0 0 (hq_in B YC.length)) (F0 m 36 ls [])) : ∀ (n : Nat) (v2 : Int) (rv2 : rg v2) (M : hq_M) (H : Heap) (locs : List Loc) (ls : Array Slot), l_X4_readWord_9 v1 k_36 k n v2 M → hq_S vwCl SLx D cA YC B s.heap M H locs → lv_has ls 3 [(0, .ref (B + 7)), (1, .ref (B + v1)), (2, .int (w3 v2))] → W p l e ({ frames := 2, cells := 0, slots := 0, locals := 42 } : Room) s m args below meth c H locs 0 0 (MQ below (hq_Q vwCl SLx D cA YC B (hq_qv k)) args s 0 0 (hq_in B YC.length)) (F0 m 9 ls []) := by
  have hx := C.1.1
  have hb := C.1.2.1
  intro n
  induction n with
  | zero => intro v2 rv2 M H locs ls hw hs hl; exact hw.elim
  | succ n ih =>
    intro v2 rv2 M H locs ls hw hs hl
    unfold l_X4_readWord_9 at hw
    refine lv_iload_n hx hb dX4_readWord_9 rfl (lv_at hl 2 rfl) ?_
    refine lv_aload_n hx hb dX4_readWord_10 rfl (lv_at hl 0 rfl) ?_
    refine hq_getI (o := 7) C hs fX4_readWord_31 tkC_7 (by decide) rfl dX4_readWord_11 (fun g1 => ?_)
    refine hq_icmp_ge (tgt := 36) C rv2 g1 dX4_readWord_14 (by decide) (fun h => ?_) (fun h => ?_)
    · have hw := hw.1 h
      exact hk_36 _ _ _ _ hw hs (lv_sub hl [0] rfl)
    · have hw := hw.2 h
      refine lv_aload_n hx hb dX4_readWord_17 rfl (lv_at hl 1 rfl) ?_
      refine lv_aload_n hx hb dX4_readWord_18 rfl (lv_at hl 0 rfl) ?_
      refine hq_getA (o := 7) C hs fX4_readWord_9 tkC_7 (by decide) rfl dX4_readWord_19 ?_
      refine lv_iload_n hx hb dX4_readWord_22 rfl (lv_at hl 2 rfl) ?_
      refine hq_cV (n := 1) (ci := 6) (o := 1) (qc := (TX6, 2)) C hs (c_X6_at l C.2.2.2.2.1 1 tkC_1 v2 rv2 _ _ hw) gX4_readWord_X6_at rfl ⟨rfl, rfl⟩ (by decide +kernel) ⟨Nat.le_of_ble_eq_true rfl, Nat.le_of_ble_eq_true rfl⟩ tkC_1 (by decide) rfl rfl hl.1 rfl (Nat.le_of_ble_eq_true rfl) dX4_readWord_23 (hq_ki (fun x2 M9 H locs rx2 hw hs => ?_))
      obtain ⟨e9, hw⟩ := hw; rw [e9] at hs
      refine hq_cV (n := 1) (ci := 6) (o := v1) (qc := (TX6, 2)) C hs (c_X6_add l C.2.2.2.2.1 v1 hv1 x2 rx2 _ _ hw) gX4_readWord_X6_add rfl ⟨rfl, rfl⟩ (by decide +kernel) ⟨Nat.le_of_ble_eq_true rfl, Nat.le_of_ble_eq_true rfl⟩ hv1 (by decide) rfl rfl hl.1 rfl (Nat.le_of_ble_eq_true rfl) dX4_readWord_26 (hq_kz (fun x4 M3 H locs rx4 hw hs => ?_))
      refine lv_pop hx hb dX4_readWord_29 rfl ?_
      obtain ⟨g6, hw⟩ := hw
      refine hq_iinc (k := 2) C dX4_readWord_30 hl rfl (by decide) (fun x5 ex5 ls hl => ?_)
      have hw := hw x5 ex5
      have rx5 : rg x5 := by rw [ex5]; exact g6
      have hl : lv_has ls 3 [(2, .int (w3 x5)), (0, .ref (B + 7)), (1, .ref (B + v1))] := hl
      refine hq_goto (tgt := 9) C dX4_readWord_33 (by decide) ?_
      exact ih x5 rx5 _ _ _ _ hw hs (lv_sub hl [1, 2, 0] rfl)
set_option maxHeartbeats 4000000 in
set_option maxRecDepth 100000 in
theorem c_X4_readWord (l : Launch) {D : va_G} {cA : Nat → ClassId} {B : Nat} {Z : State → Prop} (hZ : hq_Zo Z (hq_in B YC.length)) (v1 : Nat) (hv1 : YC[v1]? = some (6, 0)) (M : hq_M) (k : hq_M → Prop) (hw : w_X4_readWord v1 M k) : hq_T vwCl SLx l yX4_readWord wsX4_readWord ({ frames := 2, cells := 0, slots := 0, locals := 42 } : Room) D cA YC B Z [.ref (B + 7), .ref (B + v1)] M (hq_qv k) := by
  refine hq_meth (cc := cX4_readWord) (maxL := 3) (ret := none) (own := RX4) hZ rfl (by decide +kernel) rfl (Nat.le_of_ble_eq_true rfl) ?_
  intro p e s m below meth c ls C hs hl
  have hx := C.1.1
  have hb := C.1.2.1
  unfold w_X4_readWord at hw
  have hl : lv_has ls 3 [(0, .ref (B + 7)), (1, .ref (B + v1))] := hl
  refine lv_aload_n hx hb dX4_readWord_0 rfl (lv_at hl 1 rfl) ?_
  refine hq_cV (n := 0) (ci := 6) (o := v1) (qc := (TX6, 2)) C hs (c_X6_empty l C.2.2.2.2.1 v1 hv1 _ _ hw) gX4_readWord_X6_empty rfl ⟨rfl, rfl⟩ (by decide +kernel) ⟨Nat.le_of_ble_eq_true rfl, Nat.le_of_ble_eq_true rfl⟩ hv1 (by decide) rfl rfl hl.1 rfl (Nat.le_of_ble_eq_true rfl) dX4_readWord_1 (hq_kv (fun M1 H locs hw hs => ?_))
  refine lv_aload_n hx hb dX4_readWord_4 rfl (lv_at hl 0 rfl) ?_
  refine hq_getI (o := 7) C hs fX4_readWord_37 tkC_7 (by decide) rfl dX4_readWord_5 (fun g2 => ?_)
  refine hq_nm (fun x3 ex3 => ?_)
  have hw := hw x3 ex3
  have rx3 : rg x3 := by rw [ex3]; exact g2
  refine lv_istore_n (lv' := [(2, .int (w3 x3)), (0, .ref (B + 7)), (1, .ref (B + v1))]) hx hb dX4_readWord_8 rfl hl (by decide) rfl (fun ls hl => ?_)
  obtain ⟨n9, hw⟩ := hw
  refine cl_X4_readWord_9 v1 hv1 C ?_ n9 x3 rx3 _ _ _ _ hw hs (lv_sub hl [1, 2, 0] rfl)
  · intro M4 H locs ls hw hs hl
    refine lv_aload_n hx hb dX4_readWord_36 rfl (lv_at hl 0 rfl) ?_
    refine hq_cV (n := 0) (ci := 4) (o := 7) (qc := (TX4, 6)) C hs (c_X4_advance l C.2.2.2.2.1 _ _ hw) gX4_readWord_X4_advance rfl ⟨rfl, rfl⟩ (by decide +kernel) ⟨Nat.le_of_ble_eq_true rfl, Nat.le_of_ble_eq_true rfl⟩ tkC_7 (by decide) rfl rfl hl.1 rfl (Nat.le_of_ble_eq_true rfl) dX4_readWord_37 (hq_kv (fun M5 H locs hw hs => ?_))
    exact hq_vret C hs hw dX4_readWord_40
theorem iX4_readPair_2 : ∀ w ∈ u_ws RX2 TX2 2, w ∈ wsX4_readPair := fun w h => List.mem_cons_of_mem _ (List.mem_append_left _ (List.mem_append_left _ (List.mem_append_left _ (List.mem_append_right _ h))))
theorem iX4_readPair_3 : ∀ w ∈ u_ws RX3 TX3 2, w ∈ wsX4_readPair := fun w h => List.mem_cons_of_mem _ (List.mem_append_left _ (List.mem_append_right _ h))
theorem iX4_readPair_4 : ∀ w ∈ u_ws RX4 TX4 6, w ∈ wsX4_readPair := fun w h => List.mem_cons_of_mem _ (List.mem_append_left _ (List.mem_append_left _ (List.mem_append_right _ h)))
set_option maxRecDepth 20000 in
theorem fX4_readPair_31 : hq_fl vwCl wsX4_readPair RX4 31 4 5 false .int := ⟨RX4, TX4, 6, tyX4, rfl, by decide, iX4_readPair_4, by decide +kernel, rfl, tyX4_ok 5 (by decide), tyX4_ok, nmX4⟩
set_option maxRecDepth 20000 in
theorem fX4_readPair_37 : hq_fl vwCl wsX4_readPair RX4 37 4 4 false .int := ⟨RX4, TX4, 6, tyX4, rfl, by decide, iX4_readPair_4, by decide +kernel, rfl, tyX4_ok 4 (by decide), tyX4_ok, nmX4⟩
set_option maxRecDepth 20000 in
theorem fX4_readPair_96 : hq_fl vwCl wsX4_readPair RX4 96 2 0 true (.object "HeadTables$Row") := ⟨RX2, TX2, 2, tyX2, rfl, by decide, iX4_readPair_2, by decide +kernel, rfl, tyX2_ok 0 (by decide), tyX2_ok, nmX2⟩
set_option maxRecDepth 20000 in
theorem fX4_readPair_105 : hq_fl vwCl wsX4_readPair RX4 105 2 1 true (.object "HeadTables$Row") := ⟨RX2, TX2, 2, tyX2, rfl, by decide, iX4_readPair_2, by decide +kernel, rfl, tyX2_ok 1 (by decide), tyX2_ok, nmX2⟩
set_option maxRecDepth 20000 in
theorem fX4_readPair_112 : hq_fl vwCl wsX4_readPair RX4 112 3 1 false .int := ⟨RX3, TX3, 2, tyX3, rfl, by decide, iX4_readPair_3, by decide +kernel, rfl, tyX3_ok 1 (by decide), tyX3_ok, nmX3⟩
set_option maxHeartbeats 4000000 in
set_option maxRecDepth 100000 in
theorem cb_X4_readPair_81 {p : Program} {l : Launch} {e : Env} {s : State} {m : MethodId} {args : Array Value} {below : List Frame} {meth : Method} {c : Code} {D : va_G} {cA : Nat → ClassId} {B : Nat} {Z : State → Prop} (v1 : Nat) (hv1 : YC[v1]? = some (3, 0))  {k : Int → hq_M → Prop} {M : hq_M} {H : Heap} {locs : List Loc} {ls : Array Slot} (C : hq_C vwCl p m c cX4_readPair 4 s args wsX4_readPair RX4 meth (some .boolean) D cA (hq_in B YC.length) Z)
    (hw : b_X4_readPair_81 v1 k M) (hs : hq_S vwCl SLx D cA YC B s.heap M H locs) (hl : lv_has ls 4 [(0, .ref (B + 7)), (1, .ref (B + v1))])
     : W p l e ({ frames := 3, cells := 0, slots := 0, locals := 64 } : Room) s m args below meth c H locs 0 0 (MQ below (hq_Q vwCl SLx D cA YC B (hq_qz k)) args s 0 0 (hq_in B YC.length)) (F0 m 81 ls []) := by
  have hx := C.1.1
  have hb := C.1.2.1
  unfold b_X4_readPair_81 at hw
  refine lv_aload_n hx hb dX4_readPair_81 rfl (lv_at hl 1 rfl) ?_
  refine lv_dup hx hb dX4_readPair_82 rfl ?_
  refine hq_getI (o := v1) C hs fX4_readPair_112 hv1 (by decide) rfl dX4_readPair_83 (fun g1 => ?_)
  refine hq_iconst C dX4_readPair_86 ?_
  obtain ⟨g2, hw⟩ := hw
  refine hq_iadd C dX4_readPair_87 ?_
  refine hq_putI (o := v1) C hs fX4_readPair_112 hv1 (by decide) rfl g2 dX4_readPair_88 (fun M3 eM3 H locs hs => ?_)
  have hw := hw M3 eM3
  refine lv_aload_n hx hb dX4_readPair_91 rfl (lv_at hl 0 rfl) ?_
  refine hq_bipush C dX4_readPair_92 (by decide) ?_
  refine hq_cV (n := 1) (ci := 4) (o := 7) (qc := (TX4, 6)) C hs (c_X4_readSign l C.2.2.2.2.1 59 (by decide : rg 59) _ _ hw) gX4_readPair_X4_readSign rfl ⟨rfl, rfl⟩ (by decide +kernel) ⟨Nat.le_of_ble_eq_true rfl, Nat.le_of_ble_eq_true rfl⟩ tkC_7 (by decide) rfl rfl hl.1 rfl (Nat.le_of_ble_eq_true rfl) dX4_readPair_94 (hq_kz (fun x5 M4 H locs rx5 hw hs => ?_))
  exact hq_zret C hs rx5 hw dX4_readPair_97
set_option maxHeartbeats 4000000 in
set_option maxRecDepth 100000 in
theorem c_X4_readPair (l : Launch) {D : va_G} {cA : Nat → ClassId} {B : Nat} {Z : State → Prop} (hZ : hq_Zo Z (hq_in B YC.length)) (v1 : Nat) (hv1 : YC[v1]? = some (3, 0)) (v2 : Int) (rv2 : rb v2) (M : hq_M) (k : Int → hq_M → Prop) (hw : w_X4_readPair v1 v2 M k) : hq_T vwCl SLx l yX4_readPair wsX4_readPair ({ frames := 3, cells := 0, slots := 0, locals := 64 } : Room) D cA YC B Z [.ref (B + 7), .ref (B + v1), .int (w3 v2)] M (hq_qz k) := by
  refine hq_meth (cc := cX4_readPair) (maxL := 4) (ret := (some .boolean)) (own := RX4) hZ rfl (by decide +kernel) rfl (Nat.le_of_ble_eq_true rfl) ?_
  intro p e s m below meth c ls C hs hl
  have hx := C.1.1
  have hb := C.1.2.1
  unfold w_X4_readPair at hw
  have hl : lv_has ls 4 [(0, .ref (B + 7)), (1, .ref (B + v1)), (2, .int (w3 v2))] := hl
  refine lv_aload_n hx hb dX4_readPair_0 rfl (lv_at hl 1 rfl) ?_
  refine hq_cV (n := 0) (ci := 3) (o := v1) (qc := (TX3, 2)) C hs (c_X3_next l C.2.2.2.2.1 v1 hv1 _ _ hw) gX4_readPair_X3_next rfl ⟨rfl, rfl⟩ (by decide +kernel) ⟨Nat.le_of_ble_eq_true rfl, Nat.le_of_ble_eq_true rfl⟩ hv1 (by decide) rfl rfl hl.1 rfl (Nat.le_of_ble_eq_true rfl) dX4_readPair_1 (hq_kr (fun M9 H locs hw hs => ?_) (fun o1 M9 H locs ho1 hw hs => ?_))
  · obtain ⟨e9, hw⟩ := hw; rw [e9] at hs
    have hw := hw.1 rfl
    refine lv_astore_nN (lv' := [(3, .null), (0, .ref (B + 7)), (1, .ref (B + v1)), (2, .int (w3 v2))]) hx hb dX4_readPair_4 rfl hl (by decide) rfl (fun ls hl => ?_)
    refine lv_aload_nN hx hb dX4_readPair_5 rfl (lv_at hl 0 rfl) ?_
    refine lv_ifnonnullN hx hb dX4_readPair_6 ?_
    refine hq_iconst C dX4_readPair_9 ?_
    exact hq_zret C hs (by decide) hw dX4_readPair_10
  · obtain ⟨e9, hw⟩ := hw; rw [e9] at hs
    have hw := hw.2 o1 rfl
    refine lv_astore_n (lv' := [(3, .ref (B + o1)), (0, .ref (B + 7)), (1, .ref (B + v1)), (2, .int (w3 v2))]) hx hb dX4_readPair_4 rfl hl (by decide) rfl (fun ls hl => ?_)
    refine lv_aload_n hx hb dX4_readPair_5 rfl (lv_at hl 0 rfl) ?_
    refine lv_ifnonnull (tgt := 11) hx hb dX4_readPair_6 (by decide) ?_
    refine lv_aload_n hx hb dX4_readPair_11 rfl (lv_at hl 1 rfl) ?_
    refine hq_cV (n := 0) (ci := 4) (o := 7) (qc := (TX4, 6)) C hs (c_X4_advance l C.2.2.2.2.1 _ _ hw) gX4_readPair_X4_advance rfl ⟨rfl, rfl⟩ (by decide +kernel) ⟨Nat.le_of_ble_eq_true rfl, Nat.le_of_ble_eq_true rfl⟩ tkC_7 (by decide) rfl rfl hl.1 rfl (Nat.le_of_ble_eq_true rfl) dX4_readPair_12 (hq_kv (fun M3 H locs hw hs => ?_))
    refine lv_aload_n hx hb dX4_readPair_15 rfl (lv_at hl 1 rfl) ?_
    refine hq_cV (n := 0) (ci := 4) (o := 7) (qc := (TX4, 6)) C hs (c_X4_isName l C.2.2.2.2.1 _ _ hw) gX4_readPair_X4_isName rfl ⟨rfl, rfl⟩ (by decide +kernel) ⟨Nat.le_of_ble_eq_true rfl, Nat.le_of_ble_eq_true rfl⟩ tkC_7 (by decide) rfl rfl hl.1 rfl (Nat.le_of_ble_eq_true rfl) dX4_readPair_16 (hq_kz (fun x4 M9 H locs rx4 hw hs => ?_))
    obtain ⟨e9, hw⟩ := hw; rw [e9] at hs
    refine hq_if_ne (tgt := 24) C (rb_rg rx4) dX4_readPair_19 (by decide) (fun h => ?_) (fun h => ?_)
    · have hw := hw.1 h
      refine lv_aload_n hx hb dX4_readPair_24 rfl (lv_at hl 1 rfl) ?_
      refine lv_aload_n hx hb dX4_readPair_25 rfl (lv_at hl 0 rfl) ?_
      refine hq_getR (o := o1) C hs fX4_readPair_96 ho1 (by decide) rfl dX4_readPair_26 ?_
      refine hq_cV (n := 1) (ci := 4) (o := 7) (qc := (TX4, 6)) C hs (c_X4_readWord l C.2.2.2.2.1 (o1 + 1) (tc_2_0 ho1) _ _ hw) gX4_readPair_X4_readWord rfl ⟨rfl, rfl⟩ (by decide +kernel) ⟨Nat.le_of_ble_eq_true rfl, Nat.le_of_ble_eq_true rfl⟩ tkC_7 (by decide) rfl rfl hl.1 rfl (Nat.le_of_ble_eq_true rfl) dX4_readPair_29 (hq_kv (fun M5 H locs hw hs => ?_))
      refine lv_aload_n hx hb dX4_readPair_32 rfl (lv_at hl 1 rfl) ?_
      refine hq_bipush C dX4_readPair_33 (by decide) ?_
      refine hq_cV (n := 1) (ci := 4) (o := 7) (qc := (TX4, 6)) C hs (c_X4_readSign l C.2.2.2.2.1 61 (by decide : rg 61) _ _ hw) gX4_readPair_X4_readSign rfl ⟨rfl, rfl⟩ (by decide +kernel) ⟨Nat.le_of_ble_eq_true rfl, Nat.le_of_ble_eq_true rfl⟩ tkC_7 (by decide) rfl rfl hl.1 rfl (Nat.le_of_ble_eq_true rfl) dX4_readPair_35 (hq_kz (fun x7 M6 H locs rx7 hw hs => ?_))
      refine hq_if_ne (tgt := 43) C (rb_rg rx7) dX4_readPair_38 (by decide) (fun h => ?_) (fun h => ?_)
      · have hw := hw.1 h
        refine lv_aload_n hx hb dX4_readPair_43 rfl (lv_at hl 1 rfl) ?_
        refine hq_getI (o := 7) C hs fX4_readPair_31 tkC_7 (by decide) rfl dX4_readPair_44 (fun g8 => ?_)
        refine lv_aload_n hx hb dX4_readPair_47 rfl (lv_at hl 1 rfl) ?_
        refine hq_getI (o := 7) C hs fX4_readPair_37 tkC_7 (by decide) rfl dX4_readPair_48 (fun g9 => ?_)
        obtain ⟨g10, hw⟩ := hw
        refine hq_isub C dX4_readPair_51 ?_
        refine hq_bipush C dX4_readPair_52 (by decide) ?_
        refine hq_icmp_le (tgt := 59) C g10 (by decide : rg 6) dX4_readPair_54 (by decide) (fun h => ?_) (fun h => ?_)
        · have hw := hw.1 h
          refine lv_aload_n hx hb dX4_readPair_59 rfl (lv_at hl 1 rfl) ?_
          refine lv_aload_n hx hb dX4_readPair_60 rfl (lv_at hl 0 rfl) ?_
          refine hq_getR (o := o1) C hs fX4_readPair_105 ho1 (by decide) rfl dX4_readPair_61 ?_
          refine hq_cV (n := 1) (ci := 4) (o := 7) (qc := (TX4, 6)) C hs (c_X4_readWord l C.2.2.2.2.1 (o1 + 3) (tc_2_1 ho1) _ _ hw) gX4_readPair_X4_readWord rfl ⟨rfl, rfl⟩ (by decide +kernel) ⟨Nat.le_of_ble_eq_true rfl, Nat.le_of_ble_eq_true rfl⟩ tkC_7 (by decide) rfl rfl hl.1 rfl (Nat.le_of_ble_eq_true rfl) dX4_readPair_64 (hq_kv (fun M11 H locs hw hs => ?_))
          refine lv_iload_n hx hb dX4_readPair_67 rfl (lv_at hl 3 rfl) ?_
          refine hq_if_eq (tgt := 81) C (rb_rg rv2) dX4_readPair_68 (by decide) (fun h => ?_) (fun h => ?_)
          · have hw := hw.1 h
            refine cb_X4_readPair_81 v1 hv1 C hw hs (lv_sub hl [1, 2] rfl) 
          · have hw := hw.2 h
            refine lv_aload_n hx hb dX4_readPair_71 rfl (lv_at hl 2 rfl) ?_
            refine lv_aload_n hx hb dX4_readPair_72 rfl (lv_at hl 0 rfl) ?_
            refine hq_cV (n := 1) (ci := 3) (o := v1) (qc := (TX3, 2)) C hs (c_X3_lowestLike l C.2.2.2.2.1 v1 hv1 o1 ho1 _ _ hw) gX4_readPair_X3_lowestLike rfl ⟨rfl, rfl⟩ (by decide +kernel) ⟨Nat.le_of_ble_eq_true rfl, Nat.le_of_ble_eq_true rfl⟩ hv1 (by decide) rfl rfl hl.1 rfl (Nat.le_of_ble_eq_true rfl) dX4_readPair_73 (hq_ki (fun x12 M9 H locs rx12 hw hs => ?_))
            obtain ⟨e9, hw⟩ := hw; rw [e9] at hs
            refine hq_if_lt (tgt := 81) C rx12 dX4_readPair_76 (by decide) (fun h => ?_) (fun h => ?_)
            · have hw := hw.1 h
              refine cb_X4_readPair_81 v1 hv1 C hw hs (lv_sub hl [1, 2] rfl) 
            · have hw := hw.2 h
              refine hq_iconst C dX4_readPair_79 ?_
              exact hq_zret C hs (by decide) hw dX4_readPair_80
        · have hw := hw.2 h
          refine hq_iconst C dX4_readPair_57 ?_
          exact hq_zret C hs (by decide) hw dX4_readPair_58
      · have hw := hw.2 h
        refine hq_iconst C dX4_readPair_41 ?_
        exact hq_zret C hs (by decide) hw dX4_readPair_42
    · have hw := hw.2 h
      refine hq_iconst C dX4_readPair_22 ?_
      exact hq_zret C hs (by decide) hw dX4_readPair_23
theorem iX4_readItem_4 : ∀ w ∈ u_ws RX4 TX4 6, w ∈ wsX4_readItem := fun w h => List.mem_cons_of_mem _ (List.mem_append_left _ (List.mem_append_left _ (List.mem_append_left _ (List.mem_append_left _ (List.mem_append_right _ h)))))
theorem iX4_readItem_7 : ∀ w ∈ u_ws RX7 TX7 4, w ∈ wsX4_readItem := fun w h => List.mem_cons_of_mem _ (List.mem_append_left _ (List.mem_append_left _ (List.mem_append_left _ (List.mem_append_right _ h))))
set_option maxRecDepth 20000 in
theorem fX4_readItem_20 : hq_fl vwCl wsX4_readItem RX4 20 4 1 false .boolean := ⟨RX4, TX4, 6, tyX4, rfl, by decide, iX4_readItem_4, by decide +kernel, rfl, tyX4_ok 1 (by decide), tyX4_ok, nmX4⟩
set_option maxRecDepth 20000 in
theorem fX4_readItem_24 : hq_fl vwCl wsX4_readItem RX4 24 4 2 false .boolean := ⟨RX4, TX4, 6, tyX4, rfl, by decide, iX4_readItem_4, by decide +kernel, rfl, tyX4_ok 2 (by decide), tyX4_ok, nmX4⟩
set_option maxRecDepth 20000 in
theorem fX4_readItem_59 : hq_fl vwCl wsX4_readItem RX4 59 7 2 false .int := ⟨RX7, TX7, 4, tyX7, rfl, by decide, iX4_readItem_7, by decide +kernel, rfl, tyX7_ok 2 (by decide), tyX7_ok, nmX7⟩
set_option maxRecDepth 20000 in
theorem fX4_readItem_68 : hq_fl vwCl wsX4_readItem RX4 68 7 3 false .int := ⟨RX7, TX7, 4, tyX7, rfl, by decide, iX4_readItem_7, by decide +kernel, rfl, tyX7_ok 3 (by decide), tyX7_ok, nmX7⟩
set_option maxRecDepth 20000 in
theorem fX4_readItem_73 : hq_fl vwCl wsX4_readItem RX4 73 7 1 true (.object "HeadTables$Pairs") := ⟨RX7, TX7, 4, tyX7, rfl, by decide, iX4_readItem_7, by decide +kernel, rfl, tyX7_ok 1 (by decide), tyX7_ok, nmX7⟩
set_option maxRecDepth 20000 in
theorem fX4_readItem_83 : hq_fl vwCl wsX4_readItem RX4 83 7 0 true (.object "HeadTables$Pairs") := ⟨RX7, TX7, 4, tyX7, rfl, by decide, iX4_readItem_7, by decide +kernel, rfl, tyX7_ok 0 (by decide), tyX7_ok, nmX7⟩
set_option maxHeartbeats 4000000 in
set_option maxRecDepth 100000 in
theorem cb_X4_readItem_115 {p : Program} {l : Launch} {e : Env} {s : State} {m : MethodId} {args : Array Value} {below : List Frame} {meth : Method} {c : Code} {D : va_G} {cA : Nat → ClassId} {B : Nat} {Z : State → Prop} {hqS hqV : Nat → Nat} (hSt : hq_St Z hqS hqV (hq_in B YC.length)) (v1 : Nat) (hv1 : YC[v1]? = some (7, 0))  {k : Int → hq_M → Prop} {M : hq_M} {H : Heap} {locs : List Loc} {ls : Array Slot} (C : hq_C vwCl p m c cX4_readItem 2 s args wsX4_readItem RX4 meth (some .boolean) D cA (hq_in B YC.length) Z)
    (hw : b_X4_readItem_115 v1 k M) (hs : hq_S vwCl SLx D cA YC B s.heap M H locs) (hl : lv_has ls 2 [(0, .ref (B + 7)), (1, .ref (B + v1))])
     : W p l e ({ frames := 5, cells := 0, slots := 0, locals := 107 } : Room) s m args below meth c H locs 0 0 (MQ below (hq_Q vwCl SLx D cA YC B (hq_qz k)) args s 0 0 (hq_in B YC.length)) (F0 m 115 ls []) := by
  have hx := C.1.1
  have hb := C.1.2.1
  unfold b_X4_readItem_115 at hw
  refine lv_aload_n hx hb dX4_readItem_115 rfl (lv_at hl 0 rfl) ?_
  refine hq_ldcS (i := 2) (tx := "still") C (hSt s C.2.2.2.2.2).2.1.2.2.1 dX4_readItem_116 ?_
  refine hq_cV (n := 1) (ci := 4) (o := 7) (qc := (TX4, 6)) C hs (c_X4_isPiece l C.2.2.2.2.1 hSt 2 (by decide) _ _ hw) gX4_readItem_X4_isPiece rfl ⟨rfl, rfl⟩ (by decide +kernel) ⟨Nat.le_of_ble_eq_true rfl, Nat.le_of_ble_eq_true rfl⟩ tkC_7 (by decide) rfl rfl hl.1 rfl (Nat.le_of_ble_eq_true rfl) dX4_readItem_118 (hq_kz (fun x1 M9 H locs rx1 hw hs => ?_))
  obtain ⟨e9, hw⟩ := hw; rw [e9] at hs
  refine hq_if_eq (tgt := 134) C (rb_rg rx1) dX4_readItem_121 (by decide) (fun h => ?_) (fun h => ?_)
  · have hw := hw.1 h
    refine lv_aload_n hx hb dX4_readItem_134 rfl (lv_at hl 0 rfl) ?_
    refine hq_ldcS (i := 3) (tx := "field") C (hSt s C.2.2.2.2.2).2.1.2.2.2 dX4_readItem_135 ?_
    refine hq_cV (n := 1) (ci := 4) (o := 7) (qc := (TX4, 6)) C hs (c_X4_isPiece l C.2.2.2.2.1 hSt 3 (by decide) _ _ hw) gX4_readItem_X4_isPiece rfl ⟨rfl, rfl⟩ (by decide +kernel) ⟨Nat.le_of_ble_eq_true rfl, Nat.le_of_ble_eq_true rfl⟩ tkC_7 (by decide) rfl rfl hl.1 rfl (Nat.le_of_ble_eq_true rfl) dX4_readItem_137 (hq_kz (fun x2 M9 H locs rx2 hw hs => ?_))
    obtain ⟨e9, hw⟩ := hw; rw [e9] at hs
    refine hq_if_eq (tgt := 159) C (rb_rg rx2) dX4_readItem_140 (by decide) (fun h => ?_) (fun h => ?_)
    · have hw := hw.1 h
      refine hq_iconst C dX4_readItem_159 ?_
      exact hq_zret C hs (by decide) hw dX4_readItem_160
    · have hw := hw.2 h
      refine lv_aload_n hx hb dX4_readItem_143 rfl (lv_at hl 0 rfl) ?_
      refine lv_aload_n hx hb dX4_readItem_144 rfl (lv_at hl 1 rfl) ?_
      refine hq_getR (o := v1) C hs fX4_readItem_83 hv1 (by decide) rfl dX4_readItem_145 ?_
      refine hq_iconst C dX4_readItem_148 ?_
      refine hq_cV (n := 2) (ci := 4) (o := 7) (qc := (TX4, 6)) C hs (c_X4_readPair l C.2.2.2.2.1 (v1 + 1) (tc_7_0 hv1) 1 (by decide) _ _ hw) gX4_readItem_X4_readPair rfl ⟨rfl, rfl⟩ (by decide +kernel) ⟨Nat.le_of_ble_eq_true rfl, Nat.le_of_ble_eq_true rfl⟩ tkC_7 (by decide) rfl rfl hl.1 rfl (Nat.le_of_ble_eq_true rfl) dX4_readItem_149 (hq_kz (fun x4 M3 H locs rx4 hw hs => ?_))
      refine hq_if_eq (tgt := 159) C (rb_rg rx4) dX4_readItem_152 (by decide) (fun h => ?_) (fun h => ?_)
      · have hw := hw.1 h
        refine hq_iconst C dX4_readItem_159 ?_
        exact hq_zret C hs (by decide) hw dX4_readItem_160
      · have hw := hw.2 h
        refine hq_iconst C dX4_readItem_155 ?_
        refine hq_goto (tgt := 160) C dX4_readItem_156 (by decide) ?_
        exact hq_zret C hs (by decide) hw dX4_readItem_160
  · have hw := hw.2 h
    refine lv_aload_n hx hb dX4_readItem_124 rfl (lv_at hl 0 rfl) ?_
    refine lv_aload_n hx hb dX4_readItem_125 rfl (lv_at hl 1 rfl) ?_
    refine hq_getR (o := v1) C hs fX4_readItem_73 hv1 (by decide) rfl dX4_readItem_126 ?_
    refine hq_iconst C dX4_readItem_129 ?_
    refine hq_cV (n := 2) (ci := 4) (o := 7) (qc := (TX4, 6)) C hs (c_X4_readPair l C.2.2.2.2.1 (v1 + 38) (tc_7_1 hv1) 0 (by decide) _ _ hw) gX4_readItem_X4_readPair rfl ⟨rfl, rfl⟩ (by decide +kernel) ⟨Nat.le_of_ble_eq_true rfl, Nat.le_of_ble_eq_true rfl⟩ tkC_7 (by decide) rfl rfl hl.1 rfl (Nat.le_of_ble_eq_true rfl) dX4_readItem_130 (hq_kz (fun x6 M5 H locs rx6 hw hs => ?_))
    exact hq_zret C hs rx6 hw dX4_readItem_133
set_option maxHeartbeats 4000000 in
set_option maxRecDepth 100000 in
theorem cb_X4_readItem_58 {p : Program} {l : Launch} {e : Env} {s : State} {m : MethodId} {args : Array Value} {below : List Frame} {meth : Method} {c : Code} {D : va_G} {cA : Nat → ClassId} {B : Nat} {Z : State → Prop} {hqS hqV : Nat → Nat} (hSt : hq_St Z hqS hqV (hq_in B YC.length)) (v1 : Nat) (hv1 : YC[v1]? = some (7, 0))  {k : Int → hq_M → Prop} {M : hq_M} {H : Heap} {locs : List Loc} {ls : Array Slot} (C : hq_C vwCl p m c cX4_readItem 2 s args wsX4_readItem RX4 meth (some .boolean) D cA (hq_in B YC.length) Z)
    (hw : b_X4_readItem_58 v1 k M) (hs : hq_S vwCl SLx D cA YC B s.heap M H locs) (hl : lv_has ls 2 [(0, .ref (B + 7)), (1, .ref (B + v1))])
     : W p l e ({ frames := 5, cells := 0, slots := 0, locals := 107 } : Room) s m args below meth c H locs 0 0 (MQ below (hq_Q vwCl SLx D cA YC B (hq_qz k)) args s 0 0 (hq_in B YC.length)) (F0 m 58 ls []) := by
  have hx := C.1.1
  have hb := C.1.2.1
  unfold b_X4_readItem_58 at hw
  refine lv_aload_n hx hb dX4_readItem_58 rfl (lv_at hl 0 rfl) ?_
  refine hq_ldcS (i := 1) (tx := "blocked") C (hSt s C.2.2.2.2.2).2.1.2.1 dX4_readItem_59 ?_
  refine hq_cV (n := 1) (ci := 4) (o := 7) (qc := (TX4, 6)) C hs (c_X4_isPiece l C.2.2.2.2.1 hSt 1 (by decide) _ _ hw) gX4_readItem_X4_isPiece rfl ⟨rfl, rfl⟩ (by decide +kernel) ⟨Nat.le_of_ble_eq_true rfl, Nat.le_of_ble_eq_true rfl⟩ tkC_7 (by decide) rfl rfl hl.1 rfl (Nat.le_of_ble_eq_true rfl) dX4_readItem_61 (hq_kz (fun x1 M9 H locs rx1 hw hs => ?_))
  obtain ⟨e9, hw⟩ := hw; rw [e9] at hs
  refine hq_if_eq (tgt := 115) C (rb_rg rx1) dX4_readItem_64 (by decide) (fun h => ?_) (fun h => ?_)
  · have hw := hw.1 h
    refine cb_X4_readItem_115 hSt v1 hv1 C hw hs (lv_sub hl [0, 1] rfl) 
  · have hw := hw.2 h
    refine lv_aload_n hx hb dX4_readItem_67 rfl (lv_at hl 0 rfl) ?_
    refine hq_getZ (o := 7) C hs fX4_readItem_24 tkC_7 (by decide) rfl dX4_readItem_68 (fun g2 => ?_)
    refine hq_if_ne (tgt := 115) C (rb_rg g2) dX4_readItem_71 (by decide) (fun h => ?_) (fun h => ?_)
    · have hw := hw.1 h
      refine cb_X4_readItem_115 hSt v1 hv1 C hw hs (lv_sub hl [0, 1] rfl) 
    · have hw := hw.2 h
      refine lv_aload_n hx hb dX4_readItem_74 rfl (lv_at hl 0 rfl) ?_
      refine hq_iconst C dX4_readItem_75 ?_
      refine hq_putZ (o := 7) C hs fX4_readItem_24 tkC_7 (by decide) rfl (by decide) dX4_readItem_76 (fun M3 eM3 H locs hs => ?_)
      have hw := hw M3 eM3
      refine lv_aload_n hx hb dX4_readItem_79 rfl (lv_at hl 0 rfl) ?_
      refine hq_cV (n := 0) (ci := 4) (o := 7) (qc := (TX4, 6)) C hs (c_X4_advance l C.2.2.2.2.1 _ _ hw) gX4_readItem_X4_advance rfl ⟨rfl, rfl⟩ (by decide +kernel) ⟨Nat.le_of_ble_eq_true rfl, Nat.le_of_ble_eq_true rfl⟩ tkC_7 (by decide) rfl rfl hl.1 rfl (Nat.le_of_ble_eq_true rfl) dX4_readItem_80 (hq_kv (fun M4 H locs hw hs => ?_))
      refine lv_aload_n hx hb dX4_readItem_83 rfl (lv_at hl 1 rfl) ?_
      refine lv_aload_n hx hb dX4_readItem_84 rfl (lv_at hl 0 rfl) ?_
      refine hq_bipush C dX4_readItem_85 (by decide) ?_
      refine hq_cV (n := 1) (ci := 4) (o := 7) (qc := (TX4, 6)) C hs (c_X4_readNumber l C.2.2.2.2.1 9 (by decide : rg 9) _ _ hw) gX4_readItem_X4_readNumber rfl ⟨rfl, rfl⟩ (by decide +kernel) ⟨Nat.le_of_ble_eq_true rfl, Nat.le_of_ble_eq_true rfl⟩ tkC_7 (by decide) rfl rfl hl.1 rfl (Nat.le_of_ble_eq_true rfl) dX4_readItem_87 (hq_ki (fun x6 M5 H locs rx6 hw hs => ?_))
      refine hq_putI (o := v1) C hs fX4_readItem_68 hv1 (by decide) rfl rx6 dX4_readItem_90 (fun M7 eM7 H locs hs => ?_)
      have hw := hw M7 eM7
      refine lv_aload_n hx hb dX4_readItem_93 rfl (lv_at hl 1 rfl) ?_
      refine hq_getI (o := v1) C hs fX4_readItem_68 hv1 (by decide) rfl dX4_readItem_94 (fun g8 => ?_)
      refine hq_if_lt (tgt := 113) C g8 dX4_readItem_97 (by decide) (fun h => ?_) (fun h => ?_)
      · have hw := hw.1 h
        refine hq_iconst C dX4_readItem_113 ?_
        exact hq_zret C hs (by decide) hw dX4_readItem_114
      · have hw := hw.2 h
        refine lv_aload_n hx hb dX4_readItem_100 rfl (lv_at hl 0 rfl) ?_
        refine hq_bipush C dX4_readItem_101 (by decide) ?_
        refine hq_cV (n := 1) (ci := 4) (o := 7) (qc := (TX4, 6)) C hs (c_X4_readSign l C.2.2.2.2.1 59 (by decide : rg 59) _ _ hw) gX4_readItem_X4_readSign rfl ⟨rfl, rfl⟩ (by decide +kernel) ⟨Nat.le_of_ble_eq_true rfl, Nat.le_of_ble_eq_true rfl⟩ tkC_7 (by decide) rfl rfl hl.1 rfl (Nat.le_of_ble_eq_true rfl) dX4_readItem_103 (hq_kz (fun x10 M9 H locs rx10 hw hs => ?_))
        refine hq_if_eq (tgt := 113) C (rb_rg rx10) dX4_readItem_106 (by decide) (fun h => ?_) (fun h => ?_)
        · have hw := hw.1 h
          refine hq_iconst C dX4_readItem_113 ?_
          exact hq_zret C hs (by decide) hw dX4_readItem_114
        · have hw := hw.2 h
          refine hq_iconst C dX4_readItem_109 ?_
          refine hq_goto (tgt := 114) C dX4_readItem_110 (by decide) ?_
          exact hq_zret C hs (by decide) hw dX4_readItem_114
set_option maxHeartbeats 4000000 in
set_option maxRecDepth 100000 in
theorem c_X4_readItem (l : Launch) {D : va_G} {cA : Nat → ClassId} {B : Nat} {Z : State → Prop} (hZ : hq_Zo Z (hq_in B YC.length)) {hqS hqV : Nat → Nat} (hSt : hq_St Z hqS hqV (hq_in B YC.length)) (v1 : Nat) (hv1 : YC[v1]? = some (7, 0)) (M : hq_M) (k : Int → hq_M → Prop) (hw : w_X4_readItem v1 M k) : hq_T vwCl SLx l yX4_readItem wsX4_readItem ({ frames := 5, cells := 0, slots := 0, locals := 107 } : Room) D cA YC B Z [.ref (B + 7), .ref (B + v1)] M (hq_qz k) := by
  refine hq_meth (cc := cX4_readItem) (maxL := 2) (ret := (some .boolean)) (own := RX4) hZ rfl (by decide +kernel) rfl (Nat.le_of_ble_eq_true rfl) ?_
  intro p e s m below meth c ls C hs hl
  have hx := C.1.1
  have hb := C.1.2.1
  unfold w_X4_readItem at hw
  have hl : lv_has ls 2 [(0, .ref (B + 7)), (1, .ref (B + v1))] := hl
  refine lv_aload_n hx hb dX4_readItem_0 rfl (lv_at hl 0 rfl) ?_
  refine hq_ldcS (i := 0) (tx := "table") C (hSt s C.2.2.2.2.2).2.1.1 dX4_readItem_1 ?_
  refine hq_cV (n := 1) (ci := 4) (o := 7) (qc := (TX4, 6)) C hs (c_X4_isPiece l C.2.2.2.2.1 hSt 0 (by decide) _ _ hw) gX4_readItem_X4_isPiece rfl ⟨rfl, rfl⟩ (by decide +kernel) ⟨Nat.le_of_ble_eq_true rfl, Nat.le_of_ble_eq_true rfl⟩ tkC_7 (by decide) rfl rfl hl.1 rfl (Nat.le_of_ble_eq_true rfl) dX4_readItem_3 (hq_kz (fun x1 M9 H locs rx1 hw hs => ?_))
  obtain ⟨e9, hw⟩ := hw; rw [e9] at hs
  refine hq_if_eq (tgt := 58) C (rb_rg rx1) dX4_readItem_6 (by decide) (fun h => ?_) (fun h => ?_)
  · have hw := hw.1 h
    refine cb_X4_readItem_58 hSt v1 hv1 C hw hs (lv_sub hl [0, 1] rfl) 
  · have hw := hw.2 h
    refine lv_aload_n hx hb dX4_readItem_9 rfl (lv_at hl 0 rfl) ?_
    refine hq_getZ (o := 7) C hs fX4_readItem_20 tkC_7 (by decide) rfl dX4_readItem_10 (fun g2 => ?_)
    refine hq_if_ne (tgt := 58) C (rb_rg g2) dX4_readItem_13 (by decide) (fun h => ?_) (fun h => ?_)
    · have hw := hw.1 h
      refine cb_X4_readItem_58 hSt v1 hv1 C hw hs (lv_sub hl [0, 1] rfl) 
    · have hw := hw.2 h
      refine lv_aload_n hx hb dX4_readItem_16 rfl (lv_at hl 0 rfl) ?_
      refine hq_iconst C dX4_readItem_17 ?_
      refine hq_putZ (o := 7) C hs fX4_readItem_20 tkC_7 (by decide) rfl (by decide) dX4_readItem_18 (fun M3 eM3 H locs hs => ?_)
      have hw := hw M3 eM3
      refine lv_aload_n hx hb dX4_readItem_21 rfl (lv_at hl 0 rfl) ?_
      refine hq_cV (n := 0) (ci := 4) (o := 7) (qc := (TX4, 6)) C hs (c_X4_advance l C.2.2.2.2.1 _ _ hw) gX4_readItem_X4_advance rfl ⟨rfl, rfl⟩ (by decide +kernel) ⟨Nat.le_of_ble_eq_true rfl, Nat.le_of_ble_eq_true rfl⟩ tkC_7 (by decide) rfl rfl hl.1 rfl (Nat.le_of_ble_eq_true rfl) dX4_readItem_22 (hq_kv (fun M4 H locs hw hs => ?_))
      refine lv_aload_n hx hb dX4_readItem_25 rfl (lv_at hl 1 rfl) ?_
      refine lv_aload_n hx hb dX4_readItem_26 rfl (lv_at hl 0 rfl) ?_
      refine hq_sipush C dX4_readItem_27 (by decide) ?_
      refine hq_cV (n := 1) (ci := 4) (o := 7) (qc := (TX4, 6)) C hs (c_X4_readNumber l C.2.2.2.2.1 200 (by decide : rg 200) _ _ hw) gX4_readItem_X4_readNumber rfl ⟨rfl, rfl⟩ (by decide +kernel) ⟨Nat.le_of_ble_eq_true rfl, Nat.le_of_ble_eq_true rfl⟩ tkC_7 (by decide) rfl rfl hl.1 rfl (Nat.le_of_ble_eq_true rfl) dX4_readItem_30 (hq_ki (fun x6 M5 H locs rx6 hw hs => ?_))
      refine hq_putI (o := v1) C hs fX4_readItem_59 hv1 (by decide) rfl rx6 dX4_readItem_33 (fun M7 eM7 H locs hs => ?_)
      have hw := hw M7 eM7
      refine lv_aload_n hx hb dX4_readItem_36 rfl (lv_at hl 1 rfl) ?_
      refine hq_getI (o := v1) C hs fX4_readItem_59 hv1 (by decide) rfl dX4_readItem_37 (fun g8 => ?_)
      refine hq_if_lt (tgt := 56) C g8 dX4_readItem_40 (by decide) (fun h => ?_) (fun h => ?_)
      · have hw := hw.1 h
        refine hq_iconst C dX4_readItem_56 ?_
        exact hq_zret C hs (by decide) hw dX4_readItem_57
      · have hw := hw.2 h
        refine lv_aload_n hx hb dX4_readItem_43 rfl (lv_at hl 0 rfl) ?_
        refine hq_bipush C dX4_readItem_44 (by decide) ?_
        refine hq_cV (n := 1) (ci := 4) (o := 7) (qc := (TX4, 6)) C hs (c_X4_readSign l C.2.2.2.2.1 59 (by decide : rg 59) _ _ hw) gX4_readItem_X4_readSign rfl ⟨rfl, rfl⟩ (by decide +kernel) ⟨Nat.le_of_ble_eq_true rfl, Nat.le_of_ble_eq_true rfl⟩ tkC_7 (by decide) rfl rfl hl.1 rfl (Nat.le_of_ble_eq_true rfl) dX4_readItem_46 (hq_kz (fun x10 M9 H locs rx10 hw hs => ?_))
        refine hq_if_eq (tgt := 56) C (rb_rg rx10) dX4_readItem_49 (by decide) (fun h => ?_) (fun h => ?_)
        · have hw := hw.1 h
          refine hq_iconst C dX4_readItem_56 ?_
          exact hq_zret C hs (by decide) hw dX4_readItem_57
        · have hw := hw.2 h
          refine hq_iconst C dX4_readItem_52 ?_
          refine hq_goto (tgt := 57) C dX4_readItem_53 (by decide) ?_
          exact hq_zret C hs (by decide) hw dX4_readItem_57
theorem iX4_reads_4 : ∀ w ∈ u_ws RX4 TX4 6, w ∈ wsX4_reads := fun w h => List.mem_cons_of_mem _ (List.mem_append_left _ (List.mem_append_left _ (List.mem_append_left _ (List.mem_append_left _ (List.mem_append_right _ h)))))
theorem iX4_reads_6 : ∀ w ∈ u_ws RX6 TX6 2, w ∈ wsX4_reads := fun w h => List.mem_cons_of_mem _ (List.mem_append_left _ (List.mem_append_left _ (List.mem_append_left _ (List.mem_append_right _ h))))
set_option maxRecDepth 20000 in
theorem fX4_reads_9 : hq_fl vwCl wsX4_reads RX4 9 4 0 true (.object "HeadTables$Row") := ⟨RX4, TX4, 6, tyX4, rfl, by decide, iX4_reads_4, by decide +kernel, rfl, tyX4_ok 0 (by decide), tyX4_ok, nmX4⟩
set_option maxRecDepth 20000 in
theorem fX4_reads_20 : hq_fl vwCl wsX4_reads RX4 20 4 1 false .boolean := ⟨RX4, TX4, 6, tyX4, rfl, by decide, iX4_reads_4, by decide +kernel, rfl, tyX4_ok 1 (by decide), tyX4_ok, nmX4⟩
set_option maxRecDepth 20000 in
theorem fX4_reads_24 : hq_fl vwCl wsX4_reads RX4 24 4 2 false .boolean := ⟨RX4, TX4, 6, tyX4, rfl, by decide, iX4_reads_4, by decide +kernel, rfl, tyX4_ok 2 (by decide), tyX4_ok, nmX4⟩
set_option maxRecDepth 20000 in
theorem fX4_reads_27 : hq_fl vwCl wsX4_reads RX4 27 4 3 false .int := ⟨RX4, TX4, 6, tyX4, rfl, by decide, iX4_reads_4, by decide +kernel, rfl, tyX4_ok 3 (by decide), tyX4_ok, nmX4⟩
set_option maxRecDepth 20000 in
theorem fX4_reads_31 : hq_fl vwCl wsX4_reads RX4 31 4 5 false .int := ⟨RX4, TX4, 6, tyX4, rfl, by decide, iX4_reads_4, by decide +kernel, rfl, tyX4_ok 5 (by decide), tyX4_ok, nmX4⟩
set_option maxRecDepth 20000 in
theorem fX4_reads_37 : hq_fl vwCl wsX4_reads RX4 37 4 4 false .int := ⟨RX4, TX4, 6, tyX4, rfl, by decide, iX4_reads_4, by decide +kernel, rfl, tyX4_ok 4 (by decide), tyX4_ok, nmX4⟩
set_option maxRecDepth 20000 in
theorem fX4_reads_40 : hq_fl vwCl wsX4_reads RX4 40 6 1 false .int := ⟨RX6, TX6, 2, tyX6, rfl, by decide, iX4_reads_6, by decide +kernel, rfl, tyX6_ok 1 (by decide), tyX6_ok, nmX6⟩
set_option maxHeartbeats 4000000 in
set_option maxRecDepth 100000 in
theorem cl_X4_reads_30 {p : Program} {l : Launch} {e : Env} {s : State} {m : MethodId} {args : Array Value} {below : List Frame} {meth : Method} {c : Code} {D : va_G} {cA : Nat → ClassId} {B : Nat} {Z : State → Prop} {hqS hqV : Nat → Nat} (hSt : hq_St Z hqS hqV (hq_in B YC.length)) (v1 : Nat) (hv1 : YC[v1]? = some (7, 0)) {k_77 : hq_M → Prop} {k : Int → hq_M → Prop} (C : hq_C vwCl p m c cX4_reads 3 s args wsX4_reads RX4 meth (some .boolean) D cA (hq_in B YC.length) Z)
    (hk_77 : ∀ (M1 : hq_M) (H : Heap) (locs : List Loc) (ls : Array Slot), k_77 M1 → hq_S vwCl SLx D cA YC B s.heap M1 H locs → lv_has ls 3 [(0, .ref (B + 7))] → W p l e ({ frames := 6, cells := 0, slots := 0, locals := 128 } : Room) s m args below meth c H locs 0 0 (MQ below (hq_Q vwCl SLx D cA YC B (hq_qz k)) args s 0 0 (hq_in B YC.length)) (F0 m 77 ls [])) : ∀ (n : Nat) (v2 : Int) (rv2 : rg v2) (M : hq_M) (H : Heap) (locs : List Loc) (ls : Array Slot), l_X4_reads_30 v1 k_77 k n v2 M → hq_S vwCl SLx D cA YC B s.heap M H locs → lv_has ls 3 [(0, .ref (B + 7)), (1, .ref (B + v1)), (2, .int (w3 v2))] → W p l e ({ frames := 6, cells := 0, slots := 0, locals := 128 } : Room) s m args below meth c H locs 0 0 (MQ below (hq_Q vwCl SLx D cA YC B (hq_qz k)) args s 0 0 (hq_in B YC.length)) (F0 m 30 ls []) := by
  have hx := C.1.1
  have hb := C.1.2.1
  intro n
  induction n with
  | zero => intro v2 rv2 M H locs ls hw hs hl; exact hw.elim
  | succ n ih =>
    intro v2 rv2 M H locs ls hw hs hl
    unfold l_X4_reads_30 at hw
    refine lv_iload_n hx hb dX4_reads_30 rfl (lv_at hl 2 rfl) ?_
    refine hq_sipush C dX4_reads_31 (by decide) ?_
    refine hq_icmp_ge (tgt := 77) C rv2 (by decide : rg 200) dX4_reads_34 (by decide) (fun h => ?_) (fun h => ?_)
    · have hw := hw.1 h
      exact hk_77 _ _ _ _ hw hs (lv_sub hl [0] rfl)
    · have hw := hw.2 h
      refine lv_aload_n hx hb dX4_reads_37 rfl (lv_at hl 0 rfl) ?_
      refine hq_getI (o := 7) C hs fX4_reads_37 tkC_7 (by decide) rfl dX4_reads_38 (fun g1 => ?_)
      refine lv_aload_n hx hb dX4_reads_41 rfl (lv_at hl 0 rfl) ?_
      refine hq_getA (o := 7) C hs fX4_reads_9 tkC_7 (by decide) rfl dX4_reads_42 ?_
      refine hq_getI (o := 1) C hs fX4_reads_40 tkC_1 (by decide) rfl dX4_reads_45 (fun g2 => ?_)
      refine hq_icmp_ge (tgt := 77) C g1 g2 dX4_reads_48 (by decide) (fun h => ?_) (fun h => ?_)
      · have hw := hw.1 h
        exact hk_77 _ _ _ _ hw hs (lv_sub hl [0] rfl)
      · have hw := hw.2 h
        refine lv_aload_n hx hb dX4_reads_51 rfl (lv_at hl 0 rfl) ?_
        refine lv_aload_n hx hb dX4_reads_52 rfl (lv_at hl 1 rfl) ?_
        refine hq_cV (n := 1) (ci := 4) (o := 7) (qc := (TX4, 6)) C hs (c_X4_readItem l C.2.2.2.2.1 hSt v1 hv1 _ _ hw) gX4_reads_X4_readItem rfl ⟨rfl, rfl⟩ (by decide +kernel) ⟨Nat.le_of_ble_eq_true rfl, Nat.le_of_ble_eq_true rfl⟩ tkC_7 (by decide) rfl rfl hl.1 rfl (Nat.le_of_ble_eq_true rfl) dX4_reads_53 (hq_kz (fun x4 M3 H locs rx4 hw hs => ?_))
        refine hq_if_ne (tgt := 61) C (rb_rg rx4) dX4_reads_56 (by decide) (fun h => ?_) (fun h => ?_)
        · have hw := hw.1 h
          refine lv_aload_n hx hb dX4_reads_61 rfl (lv_at hl 0 rfl) ?_
          refine lv_dup hx hb dX4_reads_62 rfl ?_
          refine hq_getI (o := 7) C hs fX4_reads_27 tkC_7 (by decide) rfl dX4_reads_63 (fun g5 => ?_)
          refine hq_iconst C dX4_reads_66 ?_
          obtain ⟨g6, hw⟩ := hw
          refine hq_iadd C dX4_reads_67 ?_
          refine hq_putI (o := 7) C hs fX4_reads_27 tkC_7 (by decide) rfl g6 dX4_reads_68 (fun M7 eM7 H locs hs => ?_)
          have hw := hw M7 eM7
          obtain ⟨g9, hw⟩ := hw
          refine hq_iinc (k := 2) C dX4_reads_71 hl rfl (by decide) (fun x8 ex8 ls hl => ?_)
          have hw := hw x8 ex8
          have rx8 : rg x8 := by rw [ex8]; exact g9
          have hl : lv_has ls 3 [(2, .int (w3 x8)), (0, .ref (B + 7)), (1, .ref (B + v1))] := hl
          refine hq_goto (tgt := 30) C dX4_reads_74 (by decide) ?_
          exact ih x8 rx8 _ _ _ _ hw hs (lv_sub hl [1, 2, 0] rfl)
        · have hw := hw.2 h
          refine hq_iconst C dX4_reads_59 ?_
          exact hq_zret C hs (by decide) hw dX4_reads_60
set_option maxHeartbeats 4000000 in
set_option maxRecDepth 100000 in
theorem c_X4_reads (l : Launch) {D : va_G} {cA : Nat → ClassId} {B : Nat} {Z : State → Prop} (hZ : hq_Zo Z (hq_in B YC.length)) {hqS hqV : Nat → Nat} (hSt : hq_St Z hqS hqV (hq_in B YC.length)) (v1 : Nat) (hv1 : YC[v1]? = some (7, 0)) (M : hq_M) (k : Int → hq_M → Prop) (hw : w_X4_reads v1 M k) : hq_T vwCl SLx l yX4_reads wsX4_reads ({ frames := 6, cells := 0, slots := 0, locals := 128 } : Room) D cA YC B Z [.ref (B + 7), .ref (B + v1)] M (hq_qz k) := by
  refine hq_meth (cc := cX4_reads) (maxL := 3) (ret := (some .boolean)) (own := RX4) hZ rfl (by decide +kernel) rfl (Nat.le_of_ble_eq_true rfl) ?_
  intro p e s m below meth c ls C hs hl
  have hx := C.1.1
  have hb := C.1.2.1
  unfold w_X4_reads at hw
  have hl : lv_has ls 3 [(0, .ref (B + 7)), (1, .ref (B + v1))] := hl
  refine lv_aload_n hx hb dX4_reads_0 rfl (lv_at hl 1 rfl) ?_
  refine hq_cV (n := 0) (ci := 7) (o := v1) (qc := (TX7, 4)) C hs (c_X7_restart l C.2.2.2.2.1 v1 hv1 _ _ hw) gX4_reads_X7_restart rfl ⟨rfl, rfl⟩ (by decide +kernel) ⟨Nat.le_of_ble_eq_true rfl, Nat.le_of_ble_eq_true rfl⟩ hv1 (by decide) rfl rfl hl.1 rfl (Nat.le_of_ble_eq_true rfl) dX4_reads_1 (hq_kv (fun M1 H locs hw hs => ?_))
  refine lv_aload_n hx hb dX4_reads_4 rfl (lv_at hl 0 rfl) ?_
  refine hq_iconst C dX4_reads_5 ?_
  refine hq_putZ (o := 7) C hs fX4_reads_20 tkC_7 (by decide) rfl (by decide) dX4_reads_6 (fun M2 eM2 H locs hs => ?_)
  have hw := hw M2 eM2
  refine lv_aload_n hx hb dX4_reads_9 rfl (lv_at hl 0 rfl) ?_
  refine hq_iconst C dX4_reads_10 ?_
  refine hq_putZ (o := 7) C hs fX4_reads_24 tkC_7 (by decide) rfl (by decide) dX4_reads_11 (fun M3 eM3 H locs hs => ?_)
  have hw := hw M3 eM3
  refine lv_aload_n hx hb dX4_reads_14 rfl (lv_at hl 0 rfl) ?_
  refine hq_iconst C dX4_reads_15 ?_
  refine hq_putI (o := 7) C hs fX4_reads_27 tkC_7 (by decide) rfl (by decide : rg 0) dX4_reads_16 (fun M4 eM4 H locs hs => ?_)
  have hw := hw M4 eM4
  refine lv_aload_n hx hb dX4_reads_19 rfl (lv_at hl 0 rfl) ?_
  refine hq_iconst C dX4_reads_20 ?_
  refine hq_putI (o := 7) C hs fX4_reads_31 tkC_7 (by decide) rfl (by decide : rg 0) dX4_reads_21 (fun M5 eM5 H locs hs => ?_)
  have hw := hw M5 eM5
  refine lv_aload_n hx hb dX4_reads_24 rfl (lv_at hl 0 rfl) ?_
  refine hq_cV (n := 0) (ci := 4) (o := 7) (qc := (TX4, 6)) C hs (c_X4_advance l C.2.2.2.2.1 _ _ hw) gX4_reads_X4_advance rfl ⟨rfl, rfl⟩ (by decide +kernel) ⟨Nat.le_of_ble_eq_true rfl, Nat.le_of_ble_eq_true rfl⟩ tkC_7 (by decide) rfl rfl hl.1 rfl (Nat.le_of_ble_eq_true rfl) dX4_reads_25 (hq_kv (fun M6 H locs hw hs => ?_))
  refine hq_iconst C dX4_reads_28 ?_
  refine lv_istore_n (lv' := [(2, .int (w3 0)), (0, .ref (B + 7)), (1, .ref (B + v1))]) hx hb dX4_reads_29 rfl hl (by decide) rfl (fun ls hl => ?_)
  obtain ⟨n9, hw⟩ := hw
  refine cl_X4_reads_30 hSt v1 hv1 C ?_ n9 0 (by decide : rg 0) _ _ _ _ hw hs (lv_sub hl [1, 2, 0] rfl)
  · intro M7 H locs ls hw hs hl
    refine lv_aload_n hx hb dX4_reads_77 rfl (lv_at hl 0 rfl) ?_
    refine hq_getI (o := 7) C hs fX4_reads_37 tkC_7 (by decide) rfl dX4_reads_78 (fun g8 => ?_)
    refine lv_aload_n hx hb dX4_reads_81 rfl (lv_at hl 0 rfl) ?_
    refine hq_getA (o := 7) C hs fX4_reads_9 tkC_7 (by decide) rfl dX4_reads_82 ?_
    refine hq_getI (o := 1) C hs fX4_reads_40 tkC_1 (by decide) rfl dX4_reads_85 (fun g9 => ?_)
    refine hq_icmp_lt (tgt := 95) C g8 g9 dX4_reads_88 (by decide) (fun h => ?_) (fun h => ?_)
    · have hw := hw.1 h
      refine hq_iconst C dX4_reads_95 ?_
      exact hq_zret C hs (by decide) hw dX4_reads_96
    · have hw := hw.2 h
      refine hq_iconst C dX4_reads_91 ?_
      refine hq_goto (tgt := 96) C dX4_reads_92 (by decide) ?_
      exact hq_zret C hs (by decide) hw dX4_reads_96
theorem iX9_restart_9 : ∀ w ∈ u_ws RX9 TX9 7, w ∈ wsX9_restart := fun w h => List.mem_cons_of_mem _ (List.mem_append_right _ h)
set_option maxRecDepth 20000 in
theorem fX9_restart_22 : hq_fl vwCl wsX9_restart RX9 22 9 3 false .int := ⟨RX9, TX9, 7, tyX9, rfl, by decide, iX9_restart_9, by decide +kernel, rfl, tyX9_ok 3 (by decide), tyX9_ok, nmX9⟩
set_option maxRecDepth 20000 in
theorem fX9_restart_26 : hq_fl vwCl wsX9_restart RX9 26 9 4 false .int := ⟨RX9, TX9, 7, tyX9, rfl, by decide, iX9_restart_9, by decide +kernel, rfl, tyX9_ok 4 (by decide), tyX9_ok, nmX9⟩
set_option maxRecDepth 20000 in
theorem fX9_restart_29 : hq_fl vwCl wsX9_restart RX9 29 9 5 false .int := ⟨RX9, TX9, 7, tyX9, rfl, by decide, iX9_restart_9, by decide +kernel, rfl, tyX9_ok 5 (by decide), tyX9_ok, nmX9⟩
set_option maxRecDepth 20000 in
theorem fX9_restart_32 : hq_fl vwCl wsX9_restart RX9 32 9 6 false .int := ⟨RX9, TX9, 7, tyX9, rfl, by decide, iX9_restart_9, by decide +kernel, rfl, tyX9_ok 6 (by decide), tyX9_ok, nmX9⟩
set_option maxHeartbeats 4000000 in
set_option maxRecDepth 100000 in
theorem c_X9_restart (l : Launch) {D : va_G} {cA : Nat → ClassId} {B : Nat} {Z : State → Prop} (hZ : hq_Zo Z (hq_in B YC.length)) (v0 : Nat) (hv0 : YC[v0]? = some (9, 0)) (M : hq_M) (k : hq_M → Prop) (hw : w_X9_restart v0 M k) : hq_T vwCl SLx l yX9_restart wsX9_restart ({ frames := 0, cells := 0, slots := 0, locals := 0 } : Room) D cA YC B Z [.ref (B + v0)] M (hq_qv k) := by
  refine hq_meth (cc := cX9_restart) (maxL := 1) (ret := none) (own := RX9) hZ rfl (by decide +kernel) rfl (Nat.le_of_ble_eq_true rfl) ?_
  intro p e s m below meth c ls C hs hl
  have hx := C.1.1
  have hb := C.1.2.1
  unfold w_X9_restart at hw
  have hl : lv_has ls 1 [(0, .ref (B + v0))] := hl
  refine lv_aload_n hx hb dX9_restart_0 rfl (lv_at hl 0 rfl) ?_
  refine hq_iconst C dX9_restart_1 ?_
  refine hq_putI (o := v0) C hs fX9_restart_22 hv0 (by decide) rfl (by decide : rg 0) dX9_restart_2 (fun M1 eM1 H locs hs => ?_)
  have hw := hw M1 eM1
  refine lv_aload_n hx hb dX9_restart_5 rfl (lv_at hl 0 rfl) ?_
  refine hq_iconst C dX9_restart_6 ?_
  refine hq_putI (o := v0) C hs fX9_restart_26 hv0 (by decide) rfl (by decide : rg 0) dX9_restart_7 (fun M2 eM2 H locs hs => ?_)
  have hw := hw M2 eM2
  refine lv_aload_n hx hb dX9_restart_10 rfl (lv_at hl 0 rfl) ?_
  refine hq_iconst C dX9_restart_11 ?_
  refine hq_putI (o := v0) C hs fX9_restart_29 hv0 (by decide) rfl (by decide : rg 0) dX9_restart_12 (fun M3 eM3 H locs hs => ?_)
  have hw := hw M3 eM3
  refine lv_aload_n hx hb dX9_restart_15 rfl (lv_at hl 0 rfl) ?_
  refine hq_iconst C dX9_restart_16 ?_
  refine hq_putI (o := v0) C hs fX9_restart_32 hv0 (by decide) rfl (by decide : rg 0) dX9_restart_17 (fun M4 eM4 H locs hs => ?_)
  have hw := hw M4 eM4
  exact hq_vret C hs hw dX9_restart_20
theorem iX5_restart_5 : ∀ w ∈ u_ws RX5 TX5 3, w ∈ wsX5_restart := fun w h => List.mem_cons_of_mem _ (List.mem_append_left _ (List.mem_append_left _ (List.mem_append_right _ h)))
set_option maxRecDepth 20000 in
theorem fX5_restart_12 : hq_fl vwCl wsX5_restart RX5 12 5 0 true (.object "HeadTables$Table") := ⟨RX5, TX5, 3, tyX5, rfl, by decide, iX5_restart_5, by decide +kernel, rfl, tyX5_ok 0 (by decide), tyX5_ok, nmX5⟩
set_option maxRecDepth 20000 in
theorem fX5_restart_23 : hq_fl vwCl wsX5_restart RX5 23 5 1 true (.object "HeadTables$Row") := ⟨RX5, TX5, 3, tyX5, rfl, by decide, iX5_restart_5, by decide +kernel, rfl, tyX5_ok 1 (by decide), tyX5_ok, nmX5⟩
set_option maxRecDepth 20000 in
theorem fX5_restart_33 : hq_fl vwCl wsX5_restart RX5 33 5 2 false .int := ⟨RX5, TX5, 3, tyX5, rfl, by decide, iX5_restart_5, by decide +kernel, rfl, tyX5_ok 2 (by decide), tyX5_ok, nmX5⟩
set_option maxHeartbeats 4000000 in
set_option maxRecDepth 100000 in
theorem c_X5_restart (l : Launch) {D : va_G} {cA : Nat → ClassId} {B : Nat} {Z : State → Prop} (hZ : hq_Zo Z (hq_in B YC.length))  (M : hq_M) (k : hq_M → Prop) (hw : w_X5_restart  M k) : hq_T vwCl SLx l yX5_restart wsX5_restart ({ frames := 1, cells := 0, slots := 0, locals := 20 } : Room) D cA YC B Z [.ref (B + 384)] M (hq_qv k) := by
  refine hq_meth (cc := cX5_restart) (maxL := 1) (ret := none) (own := RX5) hZ rfl (by decide +kernel) rfl (Nat.le_of_ble_eq_true rfl) ?_
  intro p e s m below meth c ls C hs hl
  have hx := C.1.1
  have hb := C.1.2.1
  unfold w_X5_restart at hw
  have hl : lv_has ls 1 [(0, .ref (B + 384))] := hl
  refine lv_aload_n hx hb dX5_restart_0 rfl (lv_at hl 0 rfl) ?_
  refine hq_getR (o := 384) C hs fX5_restart_12 tkC_384 (by decide) rfl dX5_restart_1 ?_
  refine hq_cV (n := 0) (ci := 9) (o := 385) (qc := (TX9, 7)) C hs (c_X9_restart l C.2.2.2.2.1 385 tkC_385 _ _ hw) gX5_restart_X9_restart rfl ⟨rfl, rfl⟩ (by decide +kernel) ⟨Nat.le_of_ble_eq_true rfl, Nat.le_of_ble_eq_true rfl⟩ tkC_385 (by decide) rfl rfl hl.1 rfl (Nat.le_of_ble_eq_true rfl) dX5_restart_4 (hq_kv (fun M1 H locs hw hs => ?_))
  refine lv_aload_n hx hb dX5_restart_7 rfl (lv_at hl 0 rfl) ?_
  refine hq_getR (o := 384) C hs fX5_restart_23 tkC_384 (by decide) rfl dX5_restart_8 ?_
  refine hq_cV (n := 0) (ci := 6) (o := 389) (qc := (TX6, 2)) C hs (c_X6_empty l C.2.2.2.2.1 389 tkC_389 _ _ hw) gX5_restart_X6_empty rfl ⟨rfl, rfl⟩ (by decide +kernel) ⟨Nat.le_of_ble_eq_true rfl, Nat.le_of_ble_eq_true rfl⟩ tkC_389 (by decide) rfl rfl hl.1 rfl (Nat.le_of_ble_eq_true rfl) dX5_restart_11 (hq_kv (fun M2 H locs hw hs => ?_))
  refine lv_aload_n hx hb dX5_restart_14 rfl (lv_at hl 0 rfl) ?_
  refine hq_iconst C dX5_restart_15 ?_
  refine hq_putI (o := 384) C hs fX5_restart_33 tkC_384 (by decide) rfl (by decide : rg 0) dX5_restart_16 (fun M3 eM3 H locs hs => ?_)
  have hw := hw M3 eM3
  exact hq_vret C hs hw dX5_restart_19
set_option maxHeartbeats 4000000 in
set_option maxRecDepth 100000 in
theorem cl_X6_addInteger_40 {p : Program} {l : Launch} {e : Env} {s : State} {m : MethodId} {args : Array Value} {below : List Frame} {meth : Method} {c : Code} {D : va_G} {cA : Nat → ClassId} {B : Nat} {Z : State → Prop} (v0 : Nat) (hv0 : YC[v0]? = some (6, 0)) {k_81 : Int → hq_M → Prop} {k : hq_M → Prop} (C : hq_C vwCl p m c cX6_addInteger 7 s args wsX6_addInteger RX6 meth none D cA (hq_in B YC.length) Z)
    (hk_81 : ∀ (y5 : Int) (ry5 : rg y5) (M1 : hq_M) (H : Heap) (locs : List Loc) (ls : Array Slot), k_81 y5 M1 → hq_S vwCl SLx D cA YC B s.heap M1 H locs → lv_has ls 7 [(0, .ref (B + v0)), (5, .int (w3 y5))] → W p l e ({ frames := 1, cells := 0, slots := 0, locals := 21 } : Room) s m args below meth c H locs 0 0 (MQ below (hq_Q vwCl SLx D cA YC B (hq_qv k)) args s 0 0 (hq_in B YC.length)) (F0 m 81 ls [])) : ∀ (n : Nat) (v5 : Int) (rv5 : rg v5) (v6 : Int) (rv6 : rg v6) (M : hq_M) (H : Heap) (locs : List Loc) (ls : Array Slot), l_X6_addInteger_40 v0 k_81 k n v5 v6 M → hq_S vwCl SLx D cA YC B s.heap M H locs → lv_has ls 7 [(0, .ref (B + v0)), (5, .int (w3 v5)), (6, .int (w3 v6))] → W p l e ({ frames := 1, cells := 0, slots := 0, locals := 21 } : Room) s m args below meth c H locs 0 0 (MQ below (hq_Q vwCl SLx D cA YC B (hq_qv k)) args s 0 0 (hq_in B YC.length)) (F0 m 40 ls []) := by
  have hx := C.1.1
  have hb := C.1.2.1
  intro n
  induction n with
  | zero => intro v5 rv5 v6 rv6 M H locs ls hw hs hl; exact hw.elim
  | succ n ih =>
    intro v5 rv5 v6 rv6 M H locs ls hw hs hl
    unfold l_X6_addInteger_40 at hw
    refine lv_iload hx hb dX6_addInteger_40 (lv_at hl 2 rfl) ?_
    refine hq_iconst C dX6_addInteger_42 ?_
    refine hq_icmp_ge (tgt := 81) C rv6 (by decide : rg 4) dX6_addInteger_43 (by decide) (fun h => ?_) (fun h => ?_)
    · have hw := hw.1 h
      exact hk_81 v5 rv5 _ _ _ _ hw hs (lv_sub hl [0, 1] rfl)
    · have hw := hw.2 h
      refine lv_iload hx hb dX6_addInteger_46 (lv_at hl 1 rfl) ?_
      refine hq_sipush C dX6_addInteger_48 (by decide) ?_
      refine hq_icmp_lt (tgt := 81) C rv5 (by decide : rg 128) dX6_addInteger_51 (by decide) (fun h => ?_) (fun h => ?_)
      · have hw := hw.1 h
        exact hk_81 v5 rv5 _ _ _ _ hw hs (lv_sub hl [0, 1] rfl)
      · have hw := hw.2 h
        refine lv_aload_n hx hb dX6_addInteger_54 rfl (lv_at hl 0 rfl) ?_
        refine hq_sipush C dX6_addInteger_55 (by decide) ?_
        refine lv_iload hx hb dX6_addInteger_58 (lv_at hl 1 rfl) ?_
        refine hq_bipush C dX6_addInteger_60 (by decide) ?_
        refine hq_iand (n := 128) 7 C (by decide) rv5 dX6_addInteger_62 ?_
        obtain ⟨g1, hw⟩ := hw
        refine hq_iadd C dX6_addInteger_63 ?_
        refine hq_cV (n := 1) (ci := 6) (o := v0) (qc := (TX6, 2)) C hs (c_X6_add l C.2.2.2.2.1 v0 hv0 (128 + (v5 % 128)) g1 _ _ hw) gX6_addInteger_X6_add rfl ⟨rfl, rfl⟩ (by decide +kernel) ⟨Nat.le_of_ble_eq_true rfl, Nat.le_of_ble_eq_true rfl⟩ hv0 (by decide) rfl rfl hl.1 rfl (Nat.le_of_ble_eq_true rfl) dX6_addInteger_64 (hq_kz (fun x3 M2 H locs rx3 hw hs => ?_))
        refine lv_pop hx hb dX6_addInteger_67 rfl ?_
        refine lv_iload hx hb dX6_addInteger_68 (lv_at hl 1 rfl) ?_
        refine hq_bipush C dX6_addInteger_70 (by decide) ?_
        obtain ⟨g4, hw⟩ := hw
        refine hq_ishr (n := 128) 7 C (by decide) rv5 g4 dX6_addInteger_72 ?_
        refine hq_nm (fun x5 ex5 => ?_)
        have hw := hw x5 ex5
        have rx5 : rg x5 := by rw [ex5]; exact (hq_rdiv rv5 (by decide : rg 128) ⟨g4, (by decide)⟩)
        refine lv_istore (lv' := [(5, .int (w3 x5)), (0, .ref (B + v0)), (6, .int (w3 v6))]) hx hb dX6_addInteger_73 hl (by decide) rfl (fun ls hl => ?_)
        obtain ⟨g7, hw⟩ := hw
        refine hq_iinc (k := 2) C dX6_addInteger_75 hl rfl (by decide) (fun x6 ex6 ls hl => ?_)
        have hw := hw x6 ex6
        have rx6 : rg x6 := by rw [ex6]; exact g7
        have hl : lv_has ls 7 [(6, .int (w3 x6)), (5, .int (w3 x5)), (0, .ref (B + v0))] := hl
        refine hq_goto (tgt := 40) C dX6_addInteger_78 (by decide) ?_
        exact ih x5 rx5 x6 rx6 _ _ _ _ hw hs (lv_sub hl [2, 1, 0] rfl)
set_option maxHeartbeats 4000000 in
set_option maxRecDepth 100000 in
theorem c_X6_addInteger (l : Launch) {D : va_G} {cA : Nat → ClassId} {B : Nat} {Z : State → Prop} (hZ : hq_Zo Z (hq_in B YC.length)) (v0 : Nat) (hv0 : YC[v0]? = some (6, 0)) (v1 : Int) (rv1 : rg v1) (v2 : Int) (rv2 : rg v2) (v3 : Int) (rv3 : rg v3) (M : hq_M) (k : hq_M → Prop) (hw : w_X6_addInteger v0 v1 v2 v3 M k) : hq_T vwCl SLx l yX6_addInteger wsX6_addInteger ({ frames := 1, cells := 0, slots := 0, locals := 21 } : Room) D cA YC B Z [.ref (B + v0), .int (w3 v1), .int (w3 v2), .int (w3 v3)] M (hq_qv k) := by
  refine hq_meth (cc := cX6_addInteger) (maxL := 7) (ret := none) (own := RX6) hZ rfl (by decide +kernel) rfl (Nat.le_of_ble_eq_true rfl) ?_
  intro p e s m below meth c ls C hs hl
  have hx := C.1.1
  have hb := C.1.2.1
  unfold w_X6_addInteger at hw
  have hl : lv_has ls 7 [(0, .ref (B + v0)), (1, .int (w3 v1)), (2, .int (w3 v2)), (3, .int (w3 v3))] := hl
  refine hq_iconst C dX6_addInteger_0 ?_
  refine lv_iload_n hx hb dX6_addInteger_1 rfl (lv_at hl 2 rfl) ?_
  obtain ⟨g1, g2, hw⟩ := hw
  refine hq_ishl C g1 dX6_addInteger_2 ?_
  refine hq_iconst C dX6_addInteger_3 ?_
  obtain ⟨g3, hw⟩ := hw
  refine hq_isub C dX6_addInteger_4 ?_
  refine hq_nm (fun x4 ex4 => ?_)
  have hw := hw x4 ex4
  have rx4 : rg x4 := by rw [ex4]; exact g3
  refine lv_istore (lv' := [(4, .int (w3 x4)), (0, .ref (B + v0)), (1, .int (w3 v1)), (2, .int (w3 v2)), (3, .int (w3 v3))]) hx hb dX6_addInteger_5 hl (by decide) rfl (fun ls hl => ?_)
  refine lv_iload_n hx hb dX6_addInteger_7 rfl (lv_at hl 4 rfl) ?_
  refine lv_iload hx hb dX6_addInteger_8 (lv_at hl 0 rfl) ?_
  refine hq_icmp_ge (tgt := 22) C rv3 rx4 dX6_addInteger_10 (by decide) (fun h => ?_) (fun h => ?_)
  · have hw := hw.1 h
    refine lv_aload_n hx hb dX6_addInteger_22 rfl (lv_at hl 1 rfl) ?_
    refine lv_iload_n hx hb dX6_addInteger_23 rfl (lv_at hl 2 rfl) ?_
    refine lv_iload hx hb dX6_addInteger_24 (lv_at hl 0 rfl) ?_
    obtain ⟨g5, hw⟩ := hw
    refine hq_iadd C dX6_addInteger_26 ?_
    refine hq_cV (n := 1) (ci := 6) (o := v0) (qc := (TX6, 2)) C hs (c_X6_add l C.2.2.2.2.1 v0 hv0 (v1 + x4) g5 _ _ hw) gX6_addInteger_X6_add rfl ⟨rfl, rfl⟩ (by decide +kernel) ⟨Nat.le_of_ble_eq_true rfl, Nat.le_of_ble_eq_true rfl⟩ hv0 (by decide) rfl rfl hl.1 rfl (Nat.le_of_ble_eq_true rfl) dX6_addInteger_27 (hq_kz (fun x7 M6 H locs rx7 hw hs => ?_))
    refine lv_pop hx hb dX6_addInteger_30 rfl ?_
    refine lv_iload_n hx hb dX6_addInteger_31 rfl (lv_at hl 4 rfl) ?_
    refine lv_iload hx hb dX6_addInteger_32 (lv_at hl 0 rfl) ?_
    obtain ⟨g8, hw⟩ := hw
    refine hq_isub C dX6_addInteger_34 ?_
    refine hq_nm (fun x9 ex9 => ?_)
    have hw := hw x9 ex9
    have rx9 : rg x9 := by rw [ex9]; exact g8
    refine lv_istore (lv' := [(5, .int (w3 x9)), (4, .int (w3 x4)), (0, .ref (B + v0)), (1, .int (w3 v1)), (2, .int (w3 v2)), (3, .int (w3 v3))]) hx hb dX6_addInteger_35 hl (by decide) rfl (fun ls hl => ?_)
    refine hq_iconst C dX6_addInteger_37 ?_
    refine lv_istore (lv' := [(6, .int (w3 0)), (5, .int (w3 x9)), (4, .int (w3 x4)), (0, .ref (B + v0)), (1, .int (w3 v1)), (2, .int (w3 v2)), (3, .int (w3 v3))]) hx hb dX6_addInteger_38 hl (by decide) rfl (fun ls hl => ?_)
    obtain ⟨n9, hw⟩ := hw
    refine cl_X6_addInteger_40 v0 hv0 C ?_ n9 x9 rx9 0 (by decide : rg 0) _ _ _ _ hw hs (lv_sub hl [3, 1, 0] rfl)
    · intro x11 rx11 M10 H locs ls hw hs hl
      refine lv_aload_n hx hb dX6_addInteger_81 rfl (lv_at hl 0 rfl) ?_
      refine lv_iload hx hb dX6_addInteger_82 (lv_at hl 1 rfl) ?_
      refine hq_cV (n := 1) (ci := 6) (o := v0) (qc := (TX6, 2)) C hs (c_X6_add l C.2.2.2.2.1 v0 hv0 x11 rx11 _ _ hw) gX6_addInteger_X6_add rfl ⟨rfl, rfl⟩ (by decide +kernel) ⟨Nat.le_of_ble_eq_true rfl, Nat.le_of_ble_eq_true rfl⟩ hv0 (by decide) rfl rfl hl.1 rfl (Nat.le_of_ble_eq_true rfl) dX6_addInteger_84 (hq_kz (fun x13 M12 H locs rx13 hw hs => ?_))
      refine lv_pop hx hb dX6_addInteger_87 rfl ?_
      exact hq_vret C hs hw dX6_addInteger_88
  · have hw := hw.2 h
    refine lv_aload_n hx hb dX6_addInteger_13 rfl (lv_at hl 1 rfl) ?_
    refine lv_iload_n hx hb dX6_addInteger_14 rfl (lv_at hl 2 rfl) ?_
    refine lv_iload_n hx hb dX6_addInteger_15 rfl (lv_at hl 4 rfl) ?_
    obtain ⟨g14, hw⟩ := hw
    refine hq_iadd C dX6_addInteger_16 ?_
    refine hq_cV (n := 1) (ci := 6) (o := v0) (qc := (TX6, 2)) C hs (c_X6_add l C.2.2.2.2.1 v0 hv0 (v1 + v3) g14 _ _ hw) gX6_addInteger_X6_add rfl ⟨rfl, rfl⟩ (by decide +kernel) ⟨Nat.le_of_ble_eq_true rfl, Nat.le_of_ble_eq_true rfl⟩ hv0 (by decide) rfl rfl hl.1 rfl (Nat.le_of_ble_eq_true rfl) dX6_addInteger_17 (hq_kz (fun x16 M15 H locs rx16 hw hs => ?_))
    refine lv_pop hx hb dX6_addInteger_20 rfl ?_
    exact hq_vret C hs hw dX6_addInteger_21
theorem iX5_decode_0 : ∀ w ∈ u_ws RX0 TX0 8, w ∈ wsX5_decode := fun w h => List.mem_cons_of_mem _ (List.mem_append_left _ (List.mem_append_left _ (List.mem_append_right _ h)))
theorem iX5_decode_5 : ∀ w ∈ u_ws RX5 TX5 3, w ∈ wsX5_decode := fun w h => List.mem_cons_of_mem _ (List.mem_append_left _ (List.mem_append_right _ h))
set_option maxRecDepth 20000 in
theorem fX5_decode_23 : hq_fl vwCl wsX5_decode RX5 23 5 1 true (.object "HeadTables$Row") := ⟨RX5, TX5, 3, tyX5, rfl, by decide, iX5_decode_5, by decide +kernel, rfl, tyX5_ok 1 (by decide), tyX5_ok, nmX5⟩
set_option maxRecDepth 20000 in
theorem fX5_decode_33 : hq_fl vwCl wsX5_decode RX5 33 5 2 false .int := ⟨RX5, TX5, 3, tyX5, rfl, by decide, iX5_decode_5, by decide +kernel, rfl, tyX5_ok 2 (by decide), tyX5_ok, nmX5⟩
set_option maxRecDepth 20000 in
theorem fX5_decode_37 : hq_fl vwCl wsX5_decode RX5 37 0 3 false .int := ⟨RX0, TX0, 8, tyX0, rfl, by decide, iX5_decode_0, by decide +kernel, rfl, tyX0_ok 3 (by decide), tyX0_ok, nmX0⟩
set_option maxRecDepth 20000 in
theorem fX5_decode_49 : hq_fl vwCl wsX5_decode RX5 49 0 6 false .int := ⟨RX0, TX0, 8, tyX0, rfl, by decide, iX5_decode_0, by decide +kernel, rfl, tyX0_ok 6 (by decide), tyX0_ok, nmX0⟩
set_option maxRecDepth 20000 in
theorem fX5_decode_52 : hq_fl vwCl wsX5_decode RX5 52 0 0 true .int := ⟨RX0, TX0, 8, tyX0, rfl, by decide, iX5_decode_0, by decide +kernel, rfl, tyX0_ok 0 (by decide), tyX0_ok, nmX0⟩
set_option maxRecDepth 20000 in
theorem mX5_decode_59 : Cond.methodLink RX5 59 Lib.Math.max.name ∈ wsX5_decode ∧ Cond.static Lib.Math.max.name ∈ wsX5_decode ∧ Cond.initialized "java/lang/Math" ∈ wsX5_decode ∧ Cond.code Lib.Math.max.name Lib.Math.max.code 2 (some .int) ∈ wsX5_decode := ⟨by decide +kernel, by decide +kernel, by decide +kernel, by decide +kernel⟩
set_option maxHeartbeats 4000000 in
set_option maxRecDepth 100000 in
theorem c_X5_decode (l : Launch) {D : va_G} {cA : Nat → ClassId} {B : Nat} {Z : State → Prop} (hZ : hq_Zo Z (hq_in B YC.length)) (v1 : Nat) (hv1 : YC[v1]? = some (0, 0)) (M : hq_M) (k : hq_M → Prop) (hw : w_X5_decode v1 M k) : hq_T vwCl SLx l yX5_decode wsX5_decode ({ frames := 2, cells := 0, slots := 0, locals := 47 } : Room) D cA YC B Z [.ref (B + 384), .ref (B + v1)] M (hq_qv k) := by
  refine hq_meth (cc := cX5_decode) (maxL := 2) (ret := none) (own := RX5) hZ rfl (by decide +kernel) rfl (Nat.le_of_ble_eq_true rfl) ?_
  intro p e s m below meth c ls C hs hl
  have hx := C.1.1
  have hb := C.1.2.1
  unfold w_X5_decode at hw
  have hl : lv_has ls 2 [(0, .ref (B + 384)), (1, .ref (B + v1))] := hl
  refine lv_aload_n hx hb dX5_decode_0 rfl (lv_at hl 1 rfl) ?_
  refine hq_iconst C dX5_decode_1 ?_
  refine hq_putI (o := v1) C hs fX5_decode_49 hv1 (by decide) rfl (by decide : rg 2) dX5_decode_2 (fun M1 eM1 H locs hs => ?_)
  have hw := hw M1 eM1
  refine lv_aload_n hx hb dX5_decode_5 rfl (lv_at hl 1 rfl) ?_
  refine hq_getI (o := v1) C hs fX5_decode_37 hv1 (by decide) rfl dX5_decode_6 (fun g2 => ?_)
  refine hq_if_le (tgt := 43) C g2 dX5_decode_9 (by decide) (fun h => ?_) (fun h => ?_)
  · have hw := hw.1 h
    exact hq_vret C hs hw dX5_decode_43
  · have hw := hw.2 h
    refine lv_aload_n hx hb dX5_decode_12 rfl (lv_at hl 0 rfl) ?_
    refine hq_getR (o := 384) C hs fX5_decode_23 tkC_384 (by decide) rfl dX5_decode_13 ?_
    refine hq_sipush C dX5_decode_16 (by decide) ?_
    refine hq_bipush C dX5_decode_19 (by decide) ?_
    refine lv_aload_n hx hb dX5_decode_21 rfl (lv_at hl 1 rfl) ?_
    refine hq_getI (o := v1) C hs fX5_decode_52 hv1 (by decide) rfl dX5_decode_22 (fun g3 => ?_)
    refine hq_cV (n := 3) (ci := 6) (o := 389) (qc := (TX6, 2)) C hs (c_X6_addInteger l C.2.2.2.2.1 389 tkC_389 128 (by decide : rg 128) 7 (by decide : rg 7) (M1 v1 0) g3 _ _ hw) gX5_decode_X6_addInteger rfl ⟨rfl, rfl⟩ (by decide +kernel) ⟨Nat.le_of_ble_eq_true rfl, Nat.le_of_ble_eq_true rfl⟩ tkC_389 (by decide) rfl rfl hl.1 rfl (Nat.le_of_ble_eq_true rfl) dX5_decode_25 (hq_kv (fun M4 H locs hw hs => ?_))
    refine lv_aload_n hx hb dX5_decode_28 rfl (lv_at hl 0 rfl) ?_
    refine lv_aload_n hx hb dX5_decode_29 rfl (lv_at hl 0 rfl) ?_
    refine hq_getI (o := 384) C hs fX5_decode_33 tkC_384 (by decide) rfl dX5_decode_30 (fun g5 => ?_)
    refine lv_aload_n hx hb dX5_decode_33 rfl (lv_at hl 1 rfl) ?_
    refine hq_getI (o := v1) C hs fX5_decode_37 hv1 (by decide) rfl dX5_decode_34 (fun g6 => ?_)
    refine hq_mmax C mX5_decode_59 hl.1 ⟨Nat.le_of_ble_eq_true rfl, Nat.le_of_ble_eq_true rfl, Nat.zero_le _, Nat.zero_le _⟩ g5 g6 dX5_decode_37 ?_
    refine hq_putI (o := 384) C hs fX5_decode_33 tkC_384 (by decide) rfl (hq_rmax g5 g6) dX5_decode_40 (fun M7 eM7 H locs hs => ?_)
    have hw := hw M7 eM7
    exact hq_vret C hs hw dX5_decode_43
theorem iX5_receive_0 : ∀ w ∈ u_ws RX0 TX0 8, w ∈ wsX5_receive := fun w h => List.mem_cons_of_mem _ (List.mem_append_left _ (List.mem_append_left _ (List.mem_append_left _ (List.mem_append_right _ h))))
theorem iX5_receive_5 : ∀ w ∈ u_ws RX5 TX5 3, w ∈ wsX5_receive := fun w h => List.mem_cons_of_mem _ (List.mem_append_left _ (List.mem_append_left _ (List.mem_append_right _ h)))
theorem iX5_receive_9 : ∀ w ∈ u_ws RX9 TX9 7, w ∈ wsX5_receive := fun w h => List.mem_cons_of_mem _ (List.mem_append_left _ (List.mem_append_right _ h))
set_option maxRecDepth 20000 in
theorem fX5_receive_12 : hq_fl vwCl wsX5_receive RX5 12 5 0 true (.object "HeadTables$Table") := ⟨RX5, TX5, 3, tyX5, rfl, by decide, iX5_receive_5, by decide +kernel, rfl, tyX5_ok 0 (by decide), tyX5_ok, nmX5⟩
set_option maxRecDepth 20000 in
theorem fX5_receive_37 : hq_fl vwCl wsX5_receive RX5 37 0 3 false .int := ⟨RX0, TX0, 8, tyX0, rfl, by decide, iX5_receive_0, by decide +kernel, rfl, tyX0_ok 3 (by decide), tyX0_ok, nmX0⟩
set_option maxRecDepth 20000 in
theorem fX5_receive_42 : hq_fl vwCl wsX5_receive RX5 42 9 3 false .int := ⟨RX9, TX9, 7, tyX9, rfl, by decide, iX5_receive_9, by decide +kernel, rfl, tyX9_ok 3 (by decide), tyX9_ok, nmX9⟩
set_option maxRecDepth 20000 in
theorem fX5_receive_49 : hq_fl vwCl wsX5_receive RX5 49 0 6 false .int := ⟨RX0, TX0, 8, tyX0, rfl, by decide, iX5_receive_0, by decide +kernel, rfl, tyX0_ok 6 (by decide), tyX0_ok, nmX0⟩
set_option maxHeartbeats 4000000 in
set_option maxRecDepth 100000 in
theorem c_X5_receive (l : Launch) {D : va_G} {cA : Nat → ClassId} {B : Nat} {Z : State → Prop} (hZ : hq_Zo Z (hq_in B YC.length)) (v1 : Nat) (hv1 : YC[v1]? = some (0, 0)) (M : hq_M) (k : hq_M → Prop) (hw : w_X5_receive v1 M k) : hq_T vwCl SLx l yX5_receive wsX5_receive ({ frames := 3, cells := 0, slots := 0, locals := 68 } : Room) D cA YC B Z [.ref (B + 384), .ref (B + v1)] M (hq_qv k) := by
  refine hq_meth (cc := cX5_receive) (maxL := 2) (ret := none) (own := RX5) hZ rfl (by decide +kernel) rfl (Nat.le_of_ble_eq_true rfl) ?_
  intro p e s m below meth c ls C hs hl
  have hx := C.1.1
  have hb := C.1.2.1
  unfold w_X5_receive at hw
  have hl : lv_has ls 2 [(0, .ref (B + 384)), (1, .ref (B + v1))] := hl
  refine lv_aload_n hx hb dX5_receive_0 rfl (lv_at hl 1 rfl) ?_
  refine hq_getI (o := v1) C hs fX5_receive_37 hv1 (by decide) rfl dX5_receive_1 (fun g1 => ?_)
  refine lv_aload_n hx hb dX5_receive_4 rfl (lv_at hl 0 rfl) ?_
  refine hq_getR (o := 384) C hs fX5_receive_12 tkC_384 (by decide) rfl dX5_receive_5 ?_
  refine hq_getI (o := 385) C hs fX5_receive_42 tkC_385 (by decide) rfl dX5_receive_8 (fun g2 => ?_)
  refine hq_icmp_gt (tgt := 22) C g1 g2 dX5_receive_11 (by decide) (fun h => ?_) (fun h => ?_)
  · have hw := hw.1 h
    refine lv_aload_n hx hb dX5_receive_22 rfl (lv_at hl 1 rfl) ?_
    refine hq_iconst C dX5_receive_23 ?_
    refine hq_putI (o := v1) C hs fX5_receive_49 hv1 (by decide) rfl (by decide : rg 1) dX5_receive_24 (fun M3 eM3 H locs hs => ?_)
    have hw := hw M3 eM3
    exact hq_vret C hs hw dX5_receive_27
  · have hw := hw.2 h
    refine lv_aload_n hx hb dX5_receive_14 rfl (lv_at hl 0 rfl) ?_
    refine lv_aload_n hx hb dX5_receive_15 rfl (lv_at hl 1 rfl) ?_
    refine hq_cV (n := 1) (ci := 5) (o := 384) (qc := (TX5, 3)) C hs (c_X5_decode l C.2.2.2.2.1 v1 hv1 _ _ hw) gX5_receive_X5_decode rfl ⟨rfl, rfl⟩ (by decide +kernel) ⟨Nat.le_of_ble_eq_true rfl, Nat.le_of_ble_eq_true rfl⟩ tkC_384 (by decide) rfl rfl hl.1 rfl (Nat.le_of_ble_eq_true rfl) dX5_receive_16 (hq_kv (fun M4 H locs hw hs => ?_))
    refine hq_goto (tgt := 27) C dX5_receive_19 (by decide) ?_
    exact hq_vret C hs hw dX5_receive_27
theorem iX5_decodeBlocked_0 : ∀ w ∈ u_ws RX0 TX0 8, w ∈ wsX5_decodeBlocked := fun w h => List.mem_cons_of_mem _ (List.mem_append_left _ (List.mem_append_left _ (List.mem_append_left _ (List.mem_append_left _ (List.mem_append_right _ h)))))
theorem iX5_decodeBlocked_5 : ∀ w ∈ u_ws RX5 TX5 3, w ∈ wsX5_decodeBlocked := fun w h => List.mem_cons_of_mem _ (List.mem_append_left _ (List.mem_append_left _ (List.mem_append_left _ (List.mem_append_right _ h))))
theorem iX5_decodeBlocked_9 : ∀ w ∈ u_ws RX9 TX9 7, w ∈ wsX5_decodeBlocked := fun w h => List.mem_cons_of_mem _ (List.mem_append_left _ (List.mem_append_left _ (List.mem_append_right _ h)))
set_option maxRecDepth 20000 in
theorem fX5_decodeBlocked_12 : hq_fl vwCl wsX5_decodeBlocked RX5 12 5 0 true (.object "HeadTables$Table") := ⟨RX5, TX5, 3, tyX5, rfl, by decide, iX5_decodeBlocked_5, by decide +kernel, rfl, tyX5_ok 0 (by decide), tyX5_ok, nmX5⟩
set_option maxRecDepth 20000 in
theorem fX5_decodeBlocked_37 : hq_fl vwCl wsX5_decodeBlocked RX5 37 0 3 false .int := ⟨RX0, TX0, 8, tyX0, rfl, by decide, iX5_decodeBlocked_0, by decide +kernel, rfl, tyX0_ok 3 (by decide), tyX0_ok, nmX0⟩
set_option maxRecDepth 20000 in
theorem fX5_decodeBlocked_42 : hq_fl vwCl wsX5_decodeBlocked RX5 42 9 3 false .int := ⟨RX9, TX9, 7, tyX9, rfl, by decide, iX5_decodeBlocked_9, by decide +kernel, rfl, tyX9_ok 3 (by decide), tyX9_ok, nmX9⟩
set_option maxHeartbeats 4000000 in
set_option maxRecDepth 100000 in
theorem cl_X5_decodeBlocked_2 {p : Program} {l : Launch} {e : Env} {s : State} {m : MethodId} {args : Array Value} {below : List Frame} {meth : Method} {c : Code} {D : va_G} {cA : Nat → ClassId} {B : Nat} {Z : State → Prop}   {k : hq_M → Prop} (C : hq_C vwCl p m c cX5_decodeBlocked 4 s args wsX5_decodeBlocked RX5 meth none D cA (hq_in B YC.length) Z)
     : ∀ (n : Nat) (v2 : Int) (rv2 : rg v2) (M : hq_M) (H : Heap) (locs : List Loc) (ls : Array Slot), l_X5_decodeBlocked_2 k n v2 M → hq_S vwCl SLx D cA YC B s.heap M H locs → lv_has ls 4 [(0, .ref (B + 384)), (1, .ref (B + 168)), (2, .int (w3 v2))] → W p l e ({ frames := 4, cells := 0, slots := 0, locals := 90 } : Room) s m args below meth c H locs 0 0 (MQ below (hq_Q vwCl SLx D cA YC B (hq_qv k)) args s 0 0 (hq_in B YC.length)) (F0 m 2 ls []) := by
  have hx := C.1.1
  have hb := C.1.2.1
  intro n
  induction n with
  | zero => intro v2 rv2 M H locs ls hw hs hl; exact hw.elim
  | succ n ih =>
    intro v2 rv2 M H locs ls hw hs hl
    unfold l_X5_decodeBlocked_2 at hw
    refine lv_iload_n hx hb dX5_decodeBlocked_2 rfl (lv_at hl 2 rfl) ?_
    refine hq_bipush C dX5_decodeBlocked_3 (by decide) ?_
    refine hq_icmp_ge (tgt := 48) C rv2 (by decide : rg 40) dX5_decodeBlocked_5 (by decide) (fun h => ?_) (fun h => ?_)
    · have hw := hw.1 h
      exact hq_vret C hs hw dX5_decodeBlocked_48
    · have hw := hw.2 h
      refine lv_aload_n hx hb dX5_decodeBlocked_8 rfl (lv_at hl 1 rfl) ?_
      refine lv_aload_n hx hb dX5_decodeBlocked_9 rfl (lv_at hl 1 rfl) ?_
      refine hq_iconst C dX5_decodeBlocked_10 ?_
      refine hq_cV (n := 1) (ci := 1) (o := 168) (qc := (TX1, 2)) C hs (c_X1_blockedAt l C.2.2.2.2.1 0 (by decide : rg 0) _ _ hw) gX5_decodeBlocked_X1_blockedAt rfl ⟨rfl, rfl⟩ (by decide +kernel) ⟨Nat.le_of_ble_eq_true rfl, Nat.le_of_ble_eq_true rfl⟩ tkC_168 (by decide) rfl rfl hl.1 rfl (Nat.le_of_ble_eq_true rfl) dX5_decodeBlocked_11 (hq_ki (fun x1 M9 H locs rx1 hw hs => ?_))
      obtain ⟨e9, hw⟩ := hw; rw [e9] at hs
      refine hq_cV (n := 1) (ci := 1) (o := 168) (qc := (TX1, 2)) C hs (c_X1_at l C.2.2.2.2.1 x1 rx1 _ _ hw) gX5_decodeBlocked_X1_at rfl ⟨rfl, rfl⟩ (by decide +kernel) ⟨Nat.le_of_ble_eq_true rfl, Nat.le_of_ble_eq_true rfl⟩ tkC_168 (by decide) rfl rfl hl.1 rfl (Nat.le_of_ble_eq_true rfl) dX5_decodeBlocked_14 (hq_kr (fun M9 H locs hw hs => ?_) (fun o2 M9 H locs ho2 hw hs => ?_))
      · obtain ⟨e9, hw⟩ := hw; rw [e9] at hs
        have hw := hw.1 rfl
        refine lv_astore_nN (lv' := [(3, .null), (0, .ref (B + 384)), (1, .ref (B + 168)), (2, .int (w3 v2))]) hx hb dX5_decodeBlocked_17 rfl hl (by decide) rfl (fun ls hl => ?_)
        refine lv_aload_nN hx hb dX5_decodeBlocked_18 rfl (lv_at hl 0 rfl) ?_
        refine lv_ifnullN (tgt := 36) hx hb dX5_decodeBlocked_19 (by decide) ?_
        exact hq_vret C hs hw dX5_decodeBlocked_36
      · obtain ⟨e9, hw⟩ := hw; rw [e9] at hs
        have hw := hw.2 o2 rfl
        refine lv_astore_n (lv' := [(3, .ref (B + o2)), (0, .ref (B + 384)), (1, .ref (B + 168)), (2, .int (w3 v2))]) hx hb dX5_decodeBlocked_17 rfl hl (by decide) rfl (fun ls hl => ?_)
        refine lv_aload_n hx hb dX5_decodeBlocked_18 rfl (lv_at hl 0 rfl) ?_
        refine lv_ifnull hx hb dX5_decodeBlocked_19 ?_
        refine lv_aload_n hx hb dX5_decodeBlocked_22 rfl (lv_at hl 0 rfl) ?_
        refine hq_getI (o := o2) C hs fX5_decodeBlocked_37 ho2 (by decide) rfl dX5_decodeBlocked_23 (fun g4 => ?_)
        refine lv_aload_n hx hb dX5_decodeBlocked_26 rfl (lv_at hl 1 rfl) ?_
        refine hq_getR (o := 384) C hs fX5_decodeBlocked_12 tkC_384 (by decide) rfl dX5_decodeBlocked_27 ?_
        refine hq_getI (o := 385) C hs fX5_decodeBlocked_42 tkC_385 (by decide) rfl dX5_decodeBlocked_30 (fun g5 => ?_)
        refine hq_icmp_le (tgt := 37) C g4 g5 dX5_decodeBlocked_33 (by decide) (fun h => ?_) (fun h => ?_)
        · have hw := hw.1 h
          refine lv_aload_n hx hb dX5_decodeBlocked_37 rfl (lv_at hl 1 rfl) ?_
          refine lv_aload_n hx hb dX5_decodeBlocked_38 rfl (lv_at hl 0 rfl) ?_
          refine hq_cV (n := 1) (ci := 5) (o := 384) (qc := (TX5, 3)) C hs (c_X5_decode l C.2.2.2.2.1 o2 ho2 _ _ hw) gX5_decodeBlocked_X5_decode rfl ⟨rfl, rfl⟩ (by decide +kernel) ⟨Nat.le_of_ble_eq_true rfl, Nat.le_of_ble_eq_true rfl⟩ tkC_384 (by decide) rfl rfl hl.1 rfl (Nat.le_of_ble_eq_true rfl) dX5_decodeBlocked_39 (hq_kv (fun M6 H locs hw hs => ?_))
          obtain ⟨g8, hw⟩ := hw
          refine hq_iinc (k := 3) C dX5_decodeBlocked_42 hl rfl (by decide) (fun x7 ex7 ls hl => ?_)
          have hw := hw x7 ex7
          have rx7 : rg x7 := by rw [ex7]; exact g8
          have hl : lv_has ls 4 [(2, .int (w3 x7)), (3, .ref (B + o2)), (0, .ref (B + 384)), (1, .ref (B + 168))] := hl
          refine hq_goto (tgt := 2) C dX5_decodeBlocked_45 (by decide) ?_
          exact ih x7 rx7 _ _ _ _ hw hs (lv_sub hl [2, 3, 0] rfl)
        · have hw := hw.2 h
          exact hq_vret C hs hw dX5_decodeBlocked_36
set_option maxHeartbeats 4000000 in
set_option maxRecDepth 100000 in
theorem c_X5_decodeBlocked (l : Launch) {D : va_G} {cA : Nat → ClassId} {B : Nat} {Z : State → Prop} (hZ : hq_Zo Z (hq_in B YC.length))  (M : hq_M) (k : hq_M → Prop) (hw : w_X5_decodeBlocked  M k) : hq_T vwCl SLx l yX5_decodeBlocked wsX5_decodeBlocked ({ frames := 4, cells := 0, slots := 0, locals := 90 } : Room) D cA YC B Z [.ref (B + 384), .ref (B + 168)] M (hq_qv k) := by
  refine hq_meth (cc := cX5_decodeBlocked) (maxL := 4) (ret := none) (own := RX5) hZ rfl (by decide +kernel) rfl (Nat.le_of_ble_eq_true rfl) ?_
  intro p e s m below meth c ls C hs hl
  have hx := C.1.1
  have hb := C.1.2.1
  unfold w_X5_decodeBlocked at hw
  have hl : lv_has ls 4 [(0, .ref (B + 384)), (1, .ref (B + 168))] := hl
  refine hq_iconst C dX5_decodeBlocked_0 ?_
  refine lv_istore_n (lv' := [(2, .int (w3 0)), (0, .ref (B + 384)), (1, .ref (B + 168))]) hx hb dX5_decodeBlocked_1 rfl hl (by decide) rfl (fun ls hl => ?_)
  obtain ⟨n9, hw⟩ := hw
  refine cl_X5_decodeBlocked_2  C  n9 0 (by decide : rg 0) _ _ _ _ hw hs (lv_sub hl [1, 2, 0] rfl)
theorem iX5_cancel_0 : ∀ w ∈ u_ws RX0 TX0 8, w ∈ wsX5_cancel := fun w h => List.mem_cons_of_mem _ (List.mem_append_left _ (List.mem_append_left _ (List.mem_append_right _ h)))
theorem iX5_cancel_5 : ∀ w ∈ u_ws RX5 TX5 3, w ∈ wsX5_cancel := fun w h => List.mem_cons_of_mem _ (List.mem_append_left _ (List.mem_append_right _ h))
set_option maxRecDepth 20000 in
theorem fX5_cancel_23 : hq_fl vwCl wsX5_cancel RX5 23 5 1 true (.object "HeadTables$Row") := ⟨RX5, TX5, 3, tyX5, rfl, by decide, iX5_cancel_5, by decide +kernel, rfl, tyX5_ok 1 (by decide), tyX5_ok, nmX5⟩
set_option maxRecDepth 20000 in
theorem fX5_cancel_49 : hq_fl vwCl wsX5_cancel RX5 49 0 6 false .int := ⟨RX0, TX0, 8, tyX0, rfl, by decide, iX5_cancel_0, by decide +kernel, rfl, tyX0_ok 6 (by decide), tyX0_ok, nmX0⟩
set_option maxRecDepth 20000 in
theorem fX5_cancel_52 : hq_fl vwCl wsX5_cancel RX5 52 0 0 true .int := ⟨RX0, TX0, 8, tyX0, rfl, by decide, iX5_cancel_0, by decide +kernel, rfl, tyX0_ok 0 (by decide), tyX0_ok, nmX0⟩
set_option maxHeartbeats 4000000 in
set_option maxRecDepth 100000 in
theorem c_X5_cancel (l : Launch) {D : va_G} {cA : Nat → ClassId} {B : Nat} {Z : State → Prop} (hZ : hq_Zo Z (hq_in B YC.length)) (v1 : Nat) (hv1 : YC[v1]? = some (0, 0)) (M : hq_M) (k : hq_M → Prop) (hw : w_X5_cancel v1 M k) : hq_T vwCl SLx l yX5_cancel wsX5_cancel ({ frames := 2, cells := 0, slots := 0, locals := 47 } : Room) D cA YC B Z [.ref (B + 384), .ref (B + v1)] M (hq_qv k) := by
  refine hq_meth (cc := cX5_cancel) (maxL := 2) (ret := none) (own := RX5) hZ rfl (by decide +kernel) rfl (Nat.le_of_ble_eq_true rfl) ?_
  intro p e s m below meth c ls C hs hl
  have hx := C.1.1
  have hb := C.1.2.1
  unfold w_X5_cancel at hw
  have hl : lv_has ls 2 [(0, .ref (B + 384)), (1, .ref (B + v1))] := hl
  refine lv_aload_n hx hb dX5_cancel_0 rfl (lv_at hl 1 rfl) ?_
  refine hq_iconst C dX5_cancel_1 ?_
  refine hq_putI (o := v1) C hs fX5_cancel_49 hv1 (by decide) rfl (by decide : rg 3) dX5_cancel_2 (fun M1 eM1 H locs hs => ?_)
  have hw := hw M1 eM1
  refine lv_aload_n hx hb dX5_cancel_5 rfl (lv_at hl 0 rfl) ?_
  refine hq_getR (o := 384) C hs fX5_cancel_23 tkC_384 (by decide) rfl dX5_cancel_6 ?_
  refine hq_bipush C dX5_cancel_9 (by decide) ?_
  refine hq_bipush C dX5_cancel_11 (by decide) ?_
  refine lv_aload_n hx hb dX5_cancel_13 rfl (lv_at hl 1 rfl) ?_
  refine hq_getI (o := v1) C hs fX5_cancel_52 hv1 (by decide) rfl dX5_cancel_14 (fun g2 => ?_)
  refine hq_cV (n := 3) (ci := 6) (o := 389) (qc := (TX6, 2)) C hs (c_X6_addInteger l C.2.2.2.2.1 389 tkC_389 64 (by decide : rg 64) 6 (by decide : rg 6) (M1 v1 0) g2 _ _ hw) gX5_cancel_X6_addInteger rfl ⟨rfl, rfl⟩ (by decide +kernel) ⟨Nat.le_of_ble_eq_true rfl, Nat.le_of_ble_eq_true rfl⟩ tkC_389 (by decide) rfl rfl hl.1 rfl (Nat.le_of_ble_eq_true rfl) dX5_cancel_17 (hq_kv (fun M3 H locs hw hs => ?_))
  exact hq_vret C hs hw dX5_cancel_20
theorem iX6_removeLast_6 : ∀ w ∈ u_ws RX6 TX6 2, w ∈ wsX6_removeLast := fun w h => List.mem_cons_of_mem _ (List.mem_append_right _ h)
set_option maxRecDepth 20000 in
theorem fX6_removeLast_21 : hq_fl vwCl wsX6_removeLast RX6 21 6 1 false .int := ⟨RX6, TX6, 2, tyX6, rfl, by decide, iX6_removeLast_6, by decide +kernel, rfl, tyX6_ok 1 (by decide), tyX6_ok, nmX6⟩
set_option maxRecDepth 20000 in
theorem mX6_removeLast_9 : Cond.methodLink RX6 9 Lib.Math.max.name ∈ wsX6_removeLast ∧ Cond.static Lib.Math.max.name ∈ wsX6_removeLast ∧ Cond.initialized "java/lang/Math" ∈ wsX6_removeLast ∧ Cond.code Lib.Math.max.name Lib.Math.max.code 2 (some .int) ∈ wsX6_removeLast := ⟨by decide +kernel, by decide +kernel, by decide +kernel, by decide +kernel⟩
set_option maxHeartbeats 4000000 in
set_option maxRecDepth 100000 in
theorem c_X6_removeLast (l : Launch) {D : va_G} {cA : Nat → ClassId} {B : Nat} {Z : State → Prop} (hZ : hq_Zo Z (hq_in B YC.length)) (v0 : Nat) (hv0 : YC[v0]? = some (6, 0)) (M : hq_M) (k : Int → hq_M → Prop) (hw : w_X6_removeLast v0 M k) : hq_T vwCl SLx l yX6_removeLast wsX6_removeLast ({ frames := 1, cells := 0, slots := 0, locals := 21 } : Room) D cA YC B Z [.ref (B + v0)] M (hq_qi k) := by
  refine hq_meth (cc := cX6_removeLast) (maxL := 2) (ret := (some .int)) (own := RX6) hZ rfl (by decide +kernel) rfl (Nat.le_of_ble_eq_true rfl) ?_
  intro p e s m below meth c ls C hs hl
  have hx := C.1.1
  have hb := C.1.2.1
  unfold w_X6_removeLast at hw
  have hl : lv_has ls 2 [(0, .ref (B + v0))] := hl
  refine lv_aload_n hx hb dX6_removeLast_0 rfl (lv_at hl 0 rfl) ?_
  refine lv_aload_n hx hb dX6_removeLast_1 rfl (lv_at hl 0 rfl) ?_
  refine hq_getI (o := v0) C hs fX6_removeLast_21 hv0 (by decide) rfl dX6_removeLast_2 (fun g1 => ?_)
  refine hq_iconst C dX6_removeLast_5 ?_
  obtain ⟨g2, hw⟩ := hw
  refine hq_isub C dX6_removeLast_6 ?_
  refine hq_cV (n := 1) (ci := 6) (o := v0) (qc := (TX6, 2)) C hs (c_X6_at l C.2.2.2.2.1 v0 hv0 ((M v0 1) - 1) g2 _ _ hw) gX6_removeLast_X6_at rfl ⟨rfl, rfl⟩ (by decide +kernel) ⟨Nat.le_of_ble_eq_true rfl, Nat.le_of_ble_eq_true rfl⟩ hv0 (by decide) rfl rfl hl.1 rfl (Nat.le_of_ble_eq_true rfl) dX6_removeLast_7 (hq_ki (fun x3 M9 H locs rx3 hw hs => ?_))
  obtain ⟨e9, hw⟩ := hw; rw [e9] at hs
  refine lv_istore_n (lv' := [(1, .int (w3 x3)), (0, .ref (B + v0))]) hx hb dX6_removeLast_10 rfl hl (by decide) rfl (fun ls hl => ?_)
  refine lv_aload_n hx hb dX6_removeLast_11 rfl (lv_at hl 1 rfl) ?_
  refine hq_iconst C dX6_removeLast_12 ?_
  refine lv_aload_n hx hb dX6_removeLast_13 rfl (lv_at hl 1 rfl) ?_
  refine hq_getI (o := v0) C hs fX6_removeLast_21 hv0 (by decide) rfl dX6_removeLast_14 (fun g4 => ?_)
  refine hq_iconst C dX6_removeLast_17 ?_
  obtain ⟨g5, hw⟩ := hw
  refine hq_isub C dX6_removeLast_18 ?_
  refine hq_mmax C mX6_removeLast_9 hl.1 ⟨Nat.le_of_ble_eq_true rfl, Nat.le_of_ble_eq_true rfl, Nat.zero_le _, Nat.zero_le _⟩ (by decide : rg 0) g5 dX6_removeLast_19 ?_
  refine hq_putI (o := v0) C hs fX6_removeLast_21 hv0 (by decide) rfl (hq_rmax (by decide : rg 0) g5) dX6_removeLast_22 (fun M6 eM6 H locs hs => ?_)
  have hw := hw M6 eM6
  refine lv_iload_n hx hb dX6_removeLast_25 rfl (lv_at hl 0 rfl) ?_
  exact hq_iret C hs rx3 hw dX6_removeLast_26
theorem iX6_drop_6 : ∀ w ∈ u_ws RX6 TX6 2, w ∈ wsX6_drop := fun w h => List.mem_cons_of_mem _ (List.mem_append_right _ h)
set_option maxRecDepth 20000 in
theorem fX6_drop_15 : hq_fl vwCl wsX6_drop RX6 15 6 0 true (.array .int) := ⟨RX6, TX6, 2, tyX6, rfl, by decide, iX6_drop_6, by decide +kernel, rfl, tyX6_ok 0 (by decide), tyX6_ok, nmX6⟩
set_option maxRecDepth 20000 in
theorem fX6_drop_21 : hq_fl vwCl wsX6_drop RX6 21 6 1 false .int := ⟨RX6, TX6, 2, tyX6, rfl, by decide, iX6_drop_6, by decide +kernel, rfl, tyX6_ok 1 (by decide), tyX6_ok, nmX6⟩
set_option maxRecDepth 20000 in
theorem mX6_drop_29 : Cond.methodLink RX6 29 Lib.Math.min.name ∈ wsX6_drop ∧ Cond.static Lib.Math.min.name ∈ wsX6_drop ∧ Cond.initialized "java/lang/Math" ∈ wsX6_drop ∧ Cond.code Lib.Math.min.name Lib.Math.min.code 2 (some .int) ∈ wsX6_drop := ⟨by decide +kernel, by decide +kernel, by decide +kernel, by decide +kernel⟩
set_option maxRecDepth 20000 in
theorem mX6_drop_9 : Cond.methodLink RX6 9 Lib.Math.max.name ∈ wsX6_drop ∧ Cond.static Lib.Math.max.name ∈ wsX6_drop ∧ Cond.initialized "java/lang/Math" ∈ wsX6_drop ∧ Cond.code Lib.Math.max.name Lib.Math.max.code 2 (some .int) ∈ wsX6_drop := ⟨by decide +kernel, by decide +kernel, by decide +kernel, by decide +kernel⟩
set_option maxHeartbeats 4000000 in
set_option maxRecDepth 100000 in
theorem cl_X6_drop_15 {p : Program} {l : Launch} {e : Env} {s : State} {m : MethodId} {args : Array Value} {below : List Frame} {meth : Method} {c : Code} {D : va_G} {cA : Nat → ClassId} {B : Nat} {Z : State → Prop} (v0 : Nat) (hv0 : YC[v0]? = some (6, 0)) (v2 : Int) (rv2 : rg v2) {k_52 : hq_M → Prop} {k : hq_M → Prop} (C : hq_C vwCl p m c cX6_drop 4 s args wsX6_drop RX6 meth none D cA (hq_in B YC.length) Z)
    (hk_52 : ∀ (M1 : hq_M) (H : Heap) (locs : List Loc) (ls : Array Slot), k_52 M1 → hq_S vwCl SLx D cA YC B s.heap M1 H locs → lv_has ls 4 [(0, .ref (B + v0)), (2, .int (w3 v2))] → W p l e ({ frames := 1, cells := 0, slots := 0, locals := 21 } : Room) s m args below meth c H locs 0 0 (MQ below (hq_Q vwCl SLx D cA YC B (hq_qv k)) args s 0 0 (hq_in B YC.length)) (F0 m 52 ls [])) : ∀ (n : Nat) (v3 : Int) (rv3 : rg v3) (M : hq_M) (H : Heap) (locs : List Loc) (ls : Array Slot), l_X6_drop_15 v0 v2 k_52 k n v3 M → hq_S vwCl SLx D cA YC B s.heap M H locs → lv_has ls 4 [(0, .ref (B + v0)), (2, .int (w3 v2)), (3, .int (w3 v3))] → W p l e ({ frames := 1, cells := 0, slots := 0, locals := 21 } : Room) s m args below meth c H locs 0 0 (MQ below (hq_Q vwCl SLx D cA YC B (hq_qv k)) args s 0 0 (hq_in B YC.length)) (F0 m 15 ls []) := by
  have hx := C.1.1
  have hb := C.1.2.1
  intro n
  induction n with
  | zero => intro v3 rv3 M H locs ls hw hs hl; exact hw.elim
  | succ n ih =>
    intro v3 rv3 M H locs ls hw hs hl
    unfold l_X6_drop_15 at hw
    refine lv_iload_n hx hb dX6_drop_15 rfl (lv_at hl 2 rfl) ?_
    refine lv_aload_n hx hb dX6_drop_16 rfl (lv_at hl 0 rfl) ?_
    refine hq_getI (o := v0) C hs fX6_drop_21 hv0 (by decide) rfl dX6_drop_17 (fun g1 => ?_)
    refine hq_icmp_ge (tgt := 52) C rv3 g1 dX6_drop_20 (by decide) (fun h => ?_) (fun h => ?_)
    · have hw := hw.1 h
      exact hk_52 _ _ _ _ hw hs (lv_sub hl [0, 1] rfl)
    · have hw := hw.2 h
      refine lv_iload_n hx hb dX6_drop_23 rfl (lv_at hl 2 rfl) ?_
      refine lv_aload_n hx hb dX6_drop_24 rfl (lv_at hl 0 rfl) ?_
      refine hq_getR (o := v0) C hs fX6_drop_15 hv0 (by decide) rfl dX6_drop_25 ?_
      refine hq_alen (o := (v0 + 1)) C hs (tc_6_0 hv0) (by decide) dX6_drop_28 ?_
      refine hq_icmp_ge (tgt := 52) C rv3 (hq_lenrg _) dX6_drop_29 (by decide) (fun h => ?_) (fun h => ?_)
      · have hw := hw.1 h
        exact hk_52 _ _ _ _ hw hs (lv_sub hl [0, 1] rfl)
      · have hw := hw.2 h
        refine lv_aload_n hx hb dX6_drop_32 rfl (lv_at hl 0 rfl) ?_
        refine hq_getR (o := v0) C hs fX6_drop_15 hv0 (by decide) rfl dX6_drop_33 ?_
        refine lv_iload_n hx hb dX6_drop_36 rfl (lv_at hl 2 rfl) ?_
        refine lv_iload_n hx hb dX6_drop_37 rfl (lv_at hl 1 rfl) ?_
        obtain ⟨g2, hw⟩ := hw
        refine hq_isub C dX6_drop_38 ?_
        refine lv_aload_n hx hb dX6_drop_39 rfl (lv_at hl 0 rfl) ?_
        refine hq_getR (o := v0) C hs fX6_drop_15 hv0 (by decide) rfl dX6_drop_40 ?_
        refine lv_iload_n hx hb dX6_drop_43 rfl (lv_at hl 2 rfl) ?_
        obtain ⟨g3, hw⟩ := hw
        refine hq_iald (o := (v0 + 1)) C hs (tc_6_0 hv0) rv3 g3 dX6_drop_44 (fun g4 => ?_)
        obtain ⟨g5, hw⟩ := hw
        refine hq_iast (o := (v0 + 1)) C hs (tc_6_0 hv0) g2 g5 g4 dX6_drop_45 (fun M6 eM6 H locs hs => ?_)
        have hw := hw M6 eM6
        obtain ⟨g8, hw⟩ := hw
        refine hq_iinc (k := 2) C dX6_drop_46 hl rfl (by decide) (fun x7 ex7 ls hl => ?_)
        have hw := hw x7 ex7
        have rx7 : rg x7 := by rw [ex7]; exact g8
        have hl : lv_has ls 4 [(3, .int (w3 x7)), (0, .ref (B + v0)), (2, .int (w3 v2))] := hl
        refine hq_goto (tgt := 15) C dX6_drop_49 (by decide) ?_
        exact ih x7 rx7 _ _ _ _ hw hs (lv_sub hl [1, 2, 0] rfl)
set_option maxHeartbeats 4000000 in
set_option maxRecDepth 100000 in
theorem c_X6_drop (l : Launch) {D : va_G} {cA : Nat → ClassId} {B : Nat} {Z : State → Prop} (hZ : hq_Zo Z (hq_in B YC.length)) (v0 : Nat) (hv0 : YC[v0]? = some (6, 0)) (v1 : Int) (rv1 : rg v1) (M : hq_M) (k : hq_M → Prop) (hw : w_X6_drop v0 v1 M k) : hq_T vwCl SLx l yX6_drop wsX6_drop ({ frames := 1, cells := 0, slots := 0, locals := 21 } : Room) D cA YC B Z [.ref (B + v0), .int (w3 v1)] M (hq_qv k) := by
  refine hq_meth (cc := cX6_drop) (maxL := 4) (ret := none) (own := RX6) hZ rfl (by decide +kernel) rfl (Nat.le_of_ble_eq_true rfl) ?_
  intro p e s m below meth c ls C hs hl
  have hx := C.1.1
  have hb := C.1.2.1
  unfold w_X6_drop at hw
  have hl : lv_has ls 4 [(0, .ref (B + v0)), (1, .int (w3 v1))] := hl
  refine hq_iconst C dX6_drop_0 ?_
  refine lv_iload_n hx hb dX6_drop_1 rfl (lv_at hl 1 rfl) ?_
  refine lv_aload_n hx hb dX6_drop_2 rfl (lv_at hl 0 rfl) ?_
  refine hq_getI (o := v0) C hs fX6_drop_21 hv0 (by decide) rfl dX6_drop_3 (fun g1 => ?_)
  refine hq_mmin C mX6_drop_29 hl.1 ⟨Nat.le_of_ble_eq_true rfl, Nat.le_of_ble_eq_true rfl, Nat.zero_le _, Nat.zero_le _⟩ rv1 g1 dX6_drop_6 ?_
  refine hq_mmax C mX6_drop_9 hl.1 ⟨Nat.le_of_ble_eq_true rfl, Nat.le_of_ble_eq_true rfl, Nat.zero_le _, Nat.zero_le _⟩ (by decide : rg 0) (hq_rmin rv1 g1) dX6_drop_9 ?_
  refine hq_nm (fun x2 ex2 => ?_)
  have hw := hw x2 ex2
  have rx2 : rg x2 := by rw [ex2]; exact (hq_rmax (by decide : rg 0) (hq_rmin rv1 g1))
  refine lv_istore_n (lv' := [(2, .int (w3 x2)), (0, .ref (B + v0)), (1, .int (w3 v1))]) hx hb dX6_drop_12 rfl hl (by decide) rfl (fun ls hl => ?_)
  refine lv_iload_n hx hb dX6_drop_13 rfl (lv_at hl 0 rfl) ?_
  refine lv_istore_n (lv' := [(3, .int (w3 x2)), (2, .int (w3 x2)), (0, .ref (B + v0)), (1, .int (w3 v1))]) hx hb dX6_drop_14 rfl hl (by decide) rfl (fun ls hl => ?_)
  obtain ⟨n9, hw⟩ := hw
  refine cl_X6_drop_15 v0 hv0 x2 rx2 C ?_ n9 x2 rx2 _ _ _ _ hw hs (lv_sub hl [2, 1, 0] rfl)
  · intro M3 H locs ls hw hs hl
    refine lv_aload_n hx hb dX6_drop_52 rfl (lv_at hl 0 rfl) ?_
    refine lv_dup hx hb dX6_drop_53 rfl ?_
    refine hq_getI (o := v0) C hs fX6_drop_21 hv0 (by decide) rfl dX6_drop_54 (fun g4 => ?_)
    refine lv_iload_n hx hb dX6_drop_57 rfl (lv_at hl 1 rfl) ?_
    obtain ⟨g5, hw⟩ := hw
    refine hq_isub C dX6_drop_58 ?_
    refine hq_putI (o := v0) C hs fX6_drop_21 hv0 (by decide) rfl g5 dX6_drop_59 (fun M6 eM6 H locs hs => ?_)
    have hw := hw M6 eM6
    exact hq_vret C hs hw dX6_drop_62
theorem iX6_addWord_6 : ∀ w ∈ u_ws RX6 TX6 2, w ∈ wsX6_addWord := fun w h => List.mem_cons_of_mem _ (List.mem_append_right _ h)
set_option maxRecDepth 20000 in
theorem fX6_addWord_21 : hq_fl vwCl wsX6_addWord RX6 21 6 1 false .int := ⟨RX6, TX6, 2, tyX6, rfl, by decide, iX6_addWord_6, by decide +kernel, rfl, tyX6_ok 1 (by decide), tyX6_ok, nmX6⟩
set_option maxHeartbeats 4000000 in
set_option maxRecDepth 100000 in
theorem c_X6_addWord (l : Launch) {D : va_G} {cA : Nat → ClassId} {B : Nat} {Z : State → Prop} (hZ : hq_Zo Z (hq_in B YC.length)) (v0 : Nat) (hv0 : YC[v0]? = some (6, 0)) (v1 : Int) (rv1 : rg v1) (v2 : Nat) (hv2 : YC[v2]? = some (6, 0)) (M : hq_M) (k : hq_M → Prop) (hw : w_X6_addWord v0 v1 v2 M k) : hq_T vwCl SLx l yX6_addWord wsX6_addWord ({ frames := 1, cells := 0, slots := 0, locals := 22 } : Room) D cA YC B Z [.ref (B + v0), .int (w3 v1), .ref (B + v2)] M (hq_qv k) := by
  refine hq_meth (cc := cX6_addWord) (maxL := 3) (ret := none) (own := RX6) hZ rfl (by decide +kernel) rfl (Nat.le_of_ble_eq_true rfl) ?_
  intro p e s m below meth c ls C hs hl
  have hx := C.1.1
  have hb := C.1.2.1
  unfold w_X6_addWord at hw
  have hl : lv_has ls 3 [(0, .ref (B + v0)), (1, .int (w3 v1)), (2, .ref (B + v2))] := hl
  refine lv_aload_n hx hb dX6_addWord_0 rfl (lv_at hl 0 rfl) ?_
  refine lv_iload_n hx hb dX6_addWord_1 rfl (lv_at hl 1 rfl) ?_
  refine lv_aload_n hx hb dX6_addWord_2 rfl (lv_at hl 2 rfl) ?_
  refine hq_getI (o := v2) C hs fX6_addWord_21 hv2 (by decide) rfl dX6_addWord_3 (fun g1 => ?_)
  obtain ⟨g2, hw⟩ := hw
  refine hq_iadd C dX6_addWord_6 ?_
  refine hq_cV (n := 1) (ci := 6) (o := v0) (qc := (TX6, 2)) C hs (c_X6_add l C.2.2.2.2.1 v0 hv0 (v1 + (M v2 1)) g2 _ _ hw) gX6_addWord_X6_add rfl ⟨rfl, rfl⟩ (by decide +kernel) ⟨Nat.le_of_ble_eq_true rfl, Nat.le_of_ble_eq_true rfl⟩ hv0 (by decide) rfl rfl hl.1 rfl (Nat.le_of_ble_eq_true rfl) dX6_addWord_7 (hq_kz (fun x4 M3 H locs rx4 hw hs => ?_))
  refine lv_pop hx hb dX6_addWord_10 rfl ?_
  refine lv_aload_n hx hb dX6_addWord_11 rfl (lv_at hl 0 rfl) ?_
  refine lv_aload_n hx hb dX6_addWord_12 rfl (lv_at hl 2 rfl) ?_
  refine hq_cV (n := 1) (ci := 6) (o := v0) (qc := (TX6, 2)) C hs (c_X6_addAll l C.2.2.2.2.1 v0 hv0 v2 hv2 _ _ hw) gX6_addWord_X6_addAll rfl ⟨rfl, rfl⟩ (by decide +kernel) ⟨Nat.le_of_ble_eq_true rfl, Nat.le_of_ble_eq_true rfl⟩ hv0 (by decide) rfl rfl hl.1 rfl (Nat.le_of_ble_eq_true rfl) dX6_addWord_13 (hq_kv (fun M5 H locs hw hs => ?_))
  exact hq_vret C hs hw dX6_addWord_16
theorem iX8_restart_8 : ∀ w ∈ u_ws RX8 TX8 5, w ∈ wsX8_restart := fun w h => List.mem_cons_of_mem _ (List.mem_append_left _ (List.mem_append_right _ h))
set_option maxRecDepth 20000 in
theorem fX8_restart_16 : hq_fl vwCl wsX8_restart RX8 16 8 0 true (.object "HeadTables$Row") := ⟨RX8, TX8, 5, tyX8, rfl, by decide, iX8_restart_8, by decide +kernel, rfl, tyX8_ok 0 (by decide), tyX8_ok, nmX8⟩
set_option maxRecDepth 20000 in
theorem fX8_restart_30 : hq_fl vwCl wsX8_restart RX8 30 8 3 false .int := ⟨RX8, TX8, 5, tyX8, rfl, by decide, iX8_restart_8, by decide +kernel, rfl, tyX8_ok 3 (by decide), tyX8_ok, nmX8⟩
set_option maxRecDepth 20000 in
theorem fX8_restart_34 : hq_fl vwCl wsX8_restart RX8 34 8 4 false .int := ⟨RX8, TX8, 5, tyX8, rfl, by decide, iX8_restart_8, by decide +kernel, rfl, tyX8_ok 4 (by decide), tyX8_ok, nmX8⟩
set_option maxHeartbeats 4000000 in
set_option maxRecDepth 100000 in
theorem c_X8_restart (l : Launch) {D : va_G} {cA : Nat → ClassId} {B : Nat} {Z : State → Prop} (hZ : hq_Zo Z (hq_in B YC.length)) (v0 : Nat) (hv0 : YC[v0]? = some (8, 0)) (M : hq_M) (k : hq_M → Prop) (hw : w_X8_restart v0 M k) : hq_T vwCl SLx l yX8_restart wsX8_restart ({ frames := 1, cells := 0, slots := 0, locals := 20 } : Room) D cA YC B Z [.ref (B + v0)] M (hq_qv k) := by
  refine hq_meth (cc := cX8_restart) (maxL := 1) (ret := none) (own := RX8) hZ rfl (by decide +kernel) rfl (Nat.le_of_ble_eq_true rfl) ?_
  intro p e s m below meth c ls C hs hl
  have hx := C.1.1
  have hb := C.1.2.1
  unfold w_X8_restart at hw
  have hl : lv_has ls 1 [(0, .ref (B + v0))] := hl
  refine lv_aload_n hx hb dX8_restart_0 rfl (lv_at hl 0 rfl) ?_
  refine hq_getR (o := v0) C hs fX8_restart_16 hv0 (by decide) rfl dX8_restart_1 ?_
  refine hq_cV (n := 0) (ci := 6) (o := (v0 + 1)) (qc := (TX6, 2)) C hs (c_X6_empty l C.2.2.2.2.1 (v0 + 1) (tc_8_0 hv0) _ _ hw) gX8_restart_X6_empty rfl ⟨rfl, rfl⟩ (by decide +kernel) ⟨Nat.le_of_ble_eq_true rfl, Nat.le_of_ble_eq_true rfl⟩ (tc_8_0 hv0) (by decide) rfl rfl hl.1 rfl (Nat.le_of_ble_eq_true rfl) dX8_restart_4 (hq_kv (fun M1 H locs hw hs => ?_))
  refine lv_aload_n hx hb dX8_restart_7 rfl (lv_at hl 0 rfl) ?_
  refine hq_iconst C dX8_restart_8 ?_
  refine hq_putI (o := v0) C hs fX8_restart_30 hv0 (by decide) rfl (by decide : rg 0) dX8_restart_9 (fun M2 eM2 H locs hs => ?_)
  have hw := hw M2 eM2
  refine lv_aload_n hx hb dX8_restart_12 rfl (lv_at hl 0 rfl) ?_
  refine hq_iconst C dX8_restart_13 ?_
  refine hq_putI (o := v0) C hs fX8_restart_34 hv0 (by decide) rfl (by decide : rg 0) dX8_restart_14 (fun M3 eM3 H locs hs => ?_)
  have hw := hw M3 eM3
  exact hq_vret C hs hw dX8_restart_17
theorem iX8_copyOf_8 : ∀ w ∈ u_ws RX8 TX8 5, w ∈ wsX8_copyOf := fun w h => List.mem_cons_of_mem _ (List.mem_append_left _ (List.mem_append_right _ h))
set_option maxRecDepth 20000 in
theorem fX8_copyOf_16 : hq_fl vwCl wsX8_copyOf RX8 16 8 0 true (.object "HeadTables$Row") := ⟨RX8, TX8, 5, tyX8, rfl, by decide, iX8_copyOf_8, by decide +kernel, rfl, tyX8_ok 0 (by decide), tyX8_ok, nmX8⟩
set_option maxHeartbeats 4000000 in
set_option maxRecDepth 100000 in
theorem c_X8_copyOf (l : Launch) {D : va_G} {cA : Nat → ClassId} {B : Nat} {Z : State → Prop} (hZ : hq_Zo Z (hq_in B YC.length)) (v0 : Nat) (hv0 : YC[v0]? = some (8, 0)) (v1 : Nat) (hv1 : YC[v1]? = some (8, 0)) (M : hq_M) (k : hq_M → Prop) (hw : w_X8_copyOf v0 v1 M k) : hq_T vwCl SLx l yX8_copyOf wsX8_copyOf ({ frames := 1, cells := 0, slots := 0, locals := 22 } : Room) D cA YC B Z [.ref (B + v0), .ref (B + v1)] M (hq_qv k) := by
  refine hq_meth (cc := cX8_copyOf) (maxL := 2) (ret := none) (own := RX8) hZ rfl (by decide +kernel) rfl (Nat.le_of_ble_eq_true rfl) ?_
  intro p e s m below meth c ls C hs hl
  have hx := C.1.1
  have hb := C.1.2.1
  unfold w_X8_copyOf at hw
  have hl : lv_has ls 2 [(0, .ref (B + v0)), (1, .ref (B + v1))] := hl
  refine lv_aload_n hx hb dX8_copyOf_0 rfl (lv_at hl 0 rfl) ?_
  refine hq_getR (o := v0) C hs fX8_copyOf_16 hv0 (by decide) rfl dX8_copyOf_1 ?_
  refine hq_cV (n := 0) (ci := 6) (o := (v0 + 1)) (qc := (TX6, 2)) C hs (c_X6_empty l C.2.2.2.2.1 (v0 + 1) (tc_8_0 hv0) _ _ hw) gX8_copyOf_X6_empty rfl ⟨rfl, rfl⟩ (by decide +kernel) ⟨Nat.le_of_ble_eq_true rfl, Nat.le_of_ble_eq_true rfl⟩ (tc_8_0 hv0) (by decide) rfl rfl hl.1 rfl (Nat.le_of_ble_eq_true rfl) dX8_copyOf_4 (hq_kv (fun M1 H locs hw hs => ?_))
  refine lv_aload_n hx hb dX8_copyOf_7 rfl (lv_at hl 0 rfl) ?_
  refine hq_getR (o := v0) C hs fX8_copyOf_16 hv0 (by decide) rfl dX8_copyOf_8 ?_
  refine lv_aload_n hx hb dX8_copyOf_11 rfl (lv_at hl 1 rfl) ?_
  refine hq_getR (o := v1) C hs fX8_copyOf_16 hv1 (by decide) rfl dX8_copyOf_12 ?_
  refine hq_cV (n := 1) (ci := 6) (o := (v0 + 1)) (qc := (TX6, 2)) C hs (c_X6_addAll l C.2.2.2.2.1 (v0 + 1) (tc_8_0 hv0) (v1 + 1) (tc_8_0 hv1) _ _ hw) gX8_copyOf_X6_addAll rfl ⟨rfl, rfl⟩ (by decide +kernel) ⟨Nat.le_of_ble_eq_true rfl, Nat.le_of_ble_eq_true rfl⟩ (tc_8_0 hv0) (by decide) rfl rfl hl.1 rfl (Nat.le_of_ble_eq_true rfl) dX8_copyOf_15 (hq_kv (fun M2 H locs hw hs => ?_))
  exact hq_vret C hs hw dX8_copyOf_18
theorem iX8_hasRoom_6 : ∀ w ∈ u_ws RX6 TX6 2, w ∈ wsX8_hasRoom := fun w h => List.mem_cons_of_mem _ (List.mem_append_right _ h)
theorem iX8_hasRoom_8 : ∀ w ∈ u_ws RX8 TX8 5, w ∈ wsX8_hasRoom := fun w h => List.mem_cons_of_mem _ (List.mem_append_left _ (List.mem_append_right _ h))
set_option maxRecDepth 20000 in
theorem fX8_hasRoom_16 : hq_fl vwCl wsX8_hasRoom RX8 16 8 0 true (.object "HeadTables$Row") := ⟨RX8, TX8, 5, tyX8, rfl, by decide, iX8_hasRoom_8, by decide +kernel, rfl, tyX8_ok 0 (by decide), tyX8_ok, nmX8⟩
set_option maxRecDepth 20000 in
theorem fX8_hasRoom_41 : hq_fl vwCl wsX8_hasRoom RX8 41 6 1 false .int := ⟨RX6, TX6, 2, tyX6, rfl, by decide, iX8_hasRoom_6, by decide +kernel, rfl, tyX6_ok 1 (by decide), tyX6_ok, nmX6⟩
set_option maxHeartbeats 4000000 in
set_option maxRecDepth 100000 in
theorem c_X8_hasRoom (l : Launch) {D : va_G} {cA : Nat → ClassId} {B : Nat} {Z : State → Prop} (hZ : hq_Zo Z (hq_in B YC.length)) (v0 : Nat) (hv0 : YC[v0]? = some (8, 0)) (v1 : Nat) (hv1 : YC[v1]? = some (6, 0)) (M : hq_M) (k : Int → Prop) (hw : w_X8_hasRoom v0 v1 M k) : hq_T vwCl SLx l yX8_hasRoom wsX8_hasRoom ({ frames := 0, cells := 0, slots := 0, locals := 0 } : Room) D cA YC B Z [.ref (B + v0), .ref (B + v1)] M (hq_qz (fun z M' => M' = M ∧ k z)) := by
  refine hq_meth (cc := cX8_hasRoom) (maxL := 2) (ret := (some .boolean)) (own := RX8) hZ rfl (by decide +kernel) rfl (Nat.le_of_ble_eq_true rfl) ?_
  intro p e s m below meth c ls C hs hl
  have hx := C.1.1
  have hb := C.1.2.1
  unfold w_X8_hasRoom at hw
  have hl : lv_has ls 2 [(0, .ref (B + v0)), (1, .ref (B + v1))] := hl
  refine lv_aload_n hx hb dX8_hasRoom_0 rfl (lv_at hl 0 rfl) ?_
  refine hq_getR (o := v0) C hs fX8_hasRoom_16 hv0 (by decide) rfl dX8_hasRoom_1 ?_
  refine hq_getI (o := (v0 + 1)) C hs fX8_hasRoom_41 (tc_8_0 hv0) (by decide) rfl dX8_hasRoom_4 (fun g1 => ?_)
  refine lv_aload_n hx hb dX8_hasRoom_7 rfl (lv_at hl 1 rfl) ?_
  refine hq_getI (o := v1) C hs fX8_hasRoom_41 hv1 (by decide) rfl dX8_hasRoom_8 (fun g2 => ?_)
  obtain ⟨g3, hw⟩ := hw
  refine hq_iadd C dX8_hasRoom_11 ?_
  refine hq_sipush C dX8_hasRoom_12 (by decide) ?_
  refine hq_icmp_gt (tgt := 22) C g3 (by decide : rg 200) dX8_hasRoom_15 (by decide) (fun h => ?_) (fun h => ?_)
  · have hw := hw.1 h
    refine hq_iconst C dX8_hasRoom_22 ?_
    exact hq_zret C hs (by decide) ⟨rfl, hw⟩ dX8_hasRoom_23
  · have hw := hw.2 h
    refine hq_iconst C dX8_hasRoom_18 ?_
    refine hq_goto (tgt := 23) C dX8_hasRoom_19 (by decide) ?_
    exact hq_zret C hs (by decide) ⟨rfl, hw⟩ dX8_hasRoom_23
theorem iX8_write_6 : ∀ w ∈ u_ws RX6 TX6 2, w ∈ wsX8_write := fun w h => List.mem_cons_of_mem _ (List.mem_append_right _ h)
theorem iX8_write_8 : ∀ w ∈ u_ws RX8 TX8 5, w ∈ wsX8_write := fun w h => List.mem_cons_of_mem _ (List.mem_append_left _ (List.mem_append_right _ h))
set_option maxRecDepth 20000 in
theorem fX8_write_16 : hq_fl vwCl wsX8_write RX8 16 8 0 true (.object "HeadTables$Row") := ⟨RX8, TX8, 5, tyX8, rfl, by decide, iX8_write_8, by decide +kernel, rfl, tyX8_ok 0 (by decide), tyX8_ok, nmX8⟩
set_option maxRecDepth 20000 in
theorem fX8_write_20 : hq_fl vwCl wsX8_write RX8 20 8 1 true (.array .int) := ⟨RX8, TX8, 5, tyX8, rfl, by decide, iX8_write_8, by decide +kernel, rfl, tyX8_ok 1 (by decide), tyX8_ok, nmX8⟩
set_option maxRecDepth 20000 in
theorem fX8_write_24 : hq_fl vwCl wsX8_write RX8 24 8 2 true (.array .int) := ⟨RX8, TX8, 5, tyX8, rfl, by decide, iX8_write_8, by decide +kernel, rfl, tyX8_ok 2 (by decide), tyX8_ok, nmX8⟩
set_option maxRecDepth 20000 in
theorem fX8_write_30 : hq_fl vwCl wsX8_write RX8 30 8 3 false .int := ⟨RX8, TX8, 5, tyX8, rfl, by decide, iX8_write_8, by decide +kernel, rfl, tyX8_ok 3 (by decide), tyX8_ok, nmX8⟩
set_option maxRecDepth 20000 in
theorem fX8_write_41 : hq_fl vwCl wsX8_write RX8 41 6 1 false .int := ⟨RX6, TX6, 2, tyX6, rfl, by decide, iX8_write_6, by decide +kernel, rfl, tyX6_ok 1 (by decide), tyX6_ok, nmX6⟩
set_option maxHeartbeats 4000000 in
set_option maxRecDepth 100000 in
theorem c_X8_write (l : Launch) {D : va_G} {cA : Nat → ClassId} {B : Nat} {Z : State → Prop} (hZ : hq_Zo Z (hq_in B YC.length)) (v0 : Nat) (hv0 : YC[v0]? = some (8, 0)) (v1 : Nat) (hv1 : YC[v1]? = some (6, 0)) (v2 : Int) (rv2 : rg v2) (M : hq_M) (k : hq_M → Prop) (hw : w_X8_write v0 v1 v2 M k) : hq_T vwCl SLx l yX8_write wsX8_write ({ frames := 1, cells := 0, slots := 0, locals := 22 } : Room) D cA YC B Z [.ref (B + v0), .ref (B + v1), .int (w3 v2)] M (hq_qv k) := by
  refine hq_meth (cc := cX8_write) (maxL := 3) (ret := none) (own := RX8) hZ rfl (by decide +kernel) rfl (Nat.le_of_ble_eq_true rfl) ?_
  intro p e s m below meth c ls C hs hl
  have hx := C.1.1
  have hb := C.1.2.1
  unfold w_X8_write at hw
  have hl : lv_has ls 3 [(0, .ref (B + v0)), (1, .ref (B + v1)), (2, .int (w3 v2))] := hl
  refine lv_aload_n hx hb dX8_write_0 rfl (lv_at hl 0 rfl) ?_
  refine hq_getR (o := v0) C hs fX8_write_16 hv0 (by decide) rfl dX8_write_1 ?_
  refine lv_aload_n hx hb dX8_write_4 rfl (lv_at hl 1 rfl) ?_
  refine hq_cV (n := 1) (ci := 6) (o := (v0 + 1)) (qc := (TX6, 2)) C hs (c_X6_addAll l C.2.2.2.2.1 (v0 + 1) (tc_8_0 hv0) v1 hv1 _ _ hw) gX8_write_X6_addAll rfl ⟨rfl, rfl⟩ (by decide +kernel) ⟨Nat.le_of_ble_eq_true rfl, Nat.le_of_ble_eq_true rfl⟩ (tc_8_0 hv0) (by decide) rfl rfl hl.1 rfl (Nat.le_of_ble_eq_true rfl) dX8_write_5 (hq_kv (fun M1 H locs hw hs => ?_))
  refine lv_aload_n hx hb dX8_write_8 rfl (lv_at hl 0 rfl) ?_
  refine hq_getR (o := v0) C hs fX8_write_20 hv0 (by decide) rfl dX8_write_9 ?_
  refine lv_aload_n hx hb dX8_write_12 rfl (lv_at hl 0 rfl) ?_
  refine hq_getI (o := v0) C hs fX8_write_30 hv0 (by decide) rfl dX8_write_13 (fun g2 => ?_)
  refine hq_sipush C dX8_write_16 (by decide) ?_
  refine hq_iand (n := 256) 8 C (by decide) g2 dX8_write_19 ?_
  refine lv_iload_n hx hb dX8_write_20 rfl (lv_at hl 2 rfl) ?_
  obtain ⟨g3, hw⟩ := hw
  refine hq_iast (o := (v0 + 3)) C hs (tc_8_1 hv0) (hq_rmask (by decide) (by decide)) g3 rv2 dX8_write_21 (fun M4 eM4 H locs hs => ?_)
  have hw := hw M4 eM4
  refine lv_aload_n hx hb dX8_write_22 rfl (lv_at hl 0 rfl) ?_
  refine hq_getR (o := v0) C hs fX8_write_24 hv0 (by decide) rfl dX8_write_23 ?_
  refine lv_aload_n hx hb dX8_write_26 rfl (lv_at hl 0 rfl) ?_
  refine hq_getI (o := v0) C hs fX8_write_30 hv0 (by decide) rfl dX8_write_27 (fun g5 => ?_)
  refine hq_sipush C dX8_write_30 (by decide) ?_
  refine hq_iand (n := 256) 8 C (by decide) g5 dX8_write_33 ?_
  refine lv_aload_n hx hb dX8_write_34 rfl (lv_at hl 1 rfl) ?_
  refine hq_getI (o := v1) C hs fX8_write_41 hv1 (by decide) rfl dX8_write_35 (fun g6 => ?_)
  obtain ⟨g7, hw⟩ := hw
  refine hq_iast (o := (v0 + 4)) C hs (tc_8_2 hv0) (hq_rmask (by decide) (by decide)) g7 g6 dX8_write_38 (fun M8 eM8 H locs hs => ?_)
  have hw := hw M8 eM8
  refine lv_aload_n hx hb dX8_write_39 rfl (lv_at hl 0 rfl) ?_
  refine lv_dup hx hb dX8_write_40 rfl ?_
  refine hq_getI (o := v0) C hs fX8_write_30 hv0 (by decide) rfl dX8_write_41 (fun g9 => ?_)
  refine hq_iconst C dX8_write_44 ?_
  obtain ⟨g10, hw⟩ := hw
  refine hq_iadd C dX8_write_45 ?_
  refine hq_putI (o := v0) C hs fX8_write_30 hv0 (by decide) rfl g10 dX8_write_46 (fun M11 eM11 H locs hs => ?_)
  have hw := hw M11 eM11
  exact hq_vret C hs hw dX8_write_49
theorem iX9_shrink_9 : ∀ w ∈ u_ws RX9 TX9 7, w ∈ wsX9_shrink := fun w h => List.mem_cons_of_mem _ (List.mem_append_right _ h)
set_option maxRecDepth 20000 in
theorem fX9_shrink_15 : hq_fl vwCl wsX9_shrink RX9 15 9 1 true (.array .int) := ⟨RX9, TX9, 7, tyX9, rfl, by decide, iX9_shrink_9, by decide +kernel, rfl, tyX9_ok 1 (by decide), tyX9_ok, nmX9⟩
set_option maxRecDepth 20000 in
theorem fX9_shrink_22 : hq_fl vwCl wsX9_shrink RX9 22 9 3 false .int := ⟨RX9, TX9, 7, tyX9, rfl, by decide, iX9_shrink_9, by decide +kernel, rfl, tyX9_ok 3 (by decide), tyX9_ok, nmX9⟩
set_option maxRecDepth 20000 in
theorem fX9_shrink_26 : hq_fl vwCl wsX9_shrink RX9 26 9 4 false .int := ⟨RX9, TX9, 7, tyX9, rfl, by decide, iX9_shrink_9, by decide +kernel, rfl, tyX9_ok 4 (by decide), tyX9_ok, nmX9⟩
set_option maxRecDepth 20000 in
theorem fX9_shrink_29 : hq_fl vwCl wsX9_shrink RX9 29 9 5 false .int := ⟨RX9, TX9, 7, tyX9, rfl, by decide, iX9_shrink_9, by decide +kernel, rfl, tyX9_ok 5 (by decide), tyX9_ok, nmX9⟩
set_option maxHeartbeats 4000000 in
set_option maxRecDepth 100000 in
theorem cl_X9_shrink_0 {p : Program} {l : Launch} {e : Env} {s : State} {m : MethodId} {args : Array Value} {below : List Frame} {meth : Method} {c : Code} {D : va_G} {cA : Nat → ClassId} {B : Nat} {Z : State → Prop} (v0 : Nat) (hv0 : YC[v0]? = some (9, 0)) (v1 : Int) (rv1 : rg v1)  {k : hq_M → Prop} (C : hq_C vwCl p m c cX9_shrink 2 s args wsX9_shrink RX9 meth none D cA (hq_in B YC.length) Z)
     : ∀ (n : Nat) (M : hq_M) (H : Heap) (locs : List Loc) (ls : Array Slot), l_X9_shrink_0 v0 v1 k n M → hq_S vwCl SLx D cA YC B s.heap M H locs → lv_has ls 2 [(0, .ref (B + v0)), (1, .int (w3 v1))] → W p l e ({ frames := 0, cells := 0, slots := 0, locals := 0 } : Room) s m args below meth c H locs 0 0 (MQ below (hq_Q vwCl SLx D cA YC B (hq_qv k)) args s 0 0 (hq_in B YC.length)) (F0 m 0 ls []) := by
  have hx := C.1.1
  have hb := C.1.2.1
  intro n
  induction n with
  | zero => intro M H locs ls hw hs hl; exact hw.elim
  | succ n ih =>
    intro M H locs ls hw hs hl
    unfold l_X9_shrink_0 at hw
    refine lv_aload_n hx hb dX9_shrink_0 rfl (lv_at hl 0 rfl) ?_
    refine hq_getI (o := v0) C hs fX9_shrink_26 hv0 (by decide) rfl dX9_shrink_1 (fun g1 => ?_)
    refine lv_aload_n hx hb dX9_shrink_4 rfl (lv_at hl 0 rfl) ?_
    refine hq_getI (o := v0) C hs fX9_shrink_22 hv0 (by decide) rfl dX9_shrink_5 (fun g2 => ?_)
    refine hq_icmp_ge (tgt := 53) C g1 g2 dX9_shrink_8 (by decide) (fun h => ?_) (fun h => ?_)
    · have hw := hw.1 h
      exact hq_vret C hs hw dX9_shrink_53
    · have hw := hw.2 h
      refine lv_aload_n hx hb dX9_shrink_11 rfl (lv_at hl 0 rfl) ?_
      refine hq_getI (o := v0) C hs fX9_shrink_29 hv0 (by decide) rfl dX9_shrink_12 (fun g3 => ?_)
      refine lv_iload_n hx hb dX9_shrink_15 rfl (lv_at hl 1 rfl) ?_
      refine hq_icmp_le (tgt := 53) C g3 rv1 dX9_shrink_16 (by decide) (fun h => ?_) (fun h => ?_)
      · have hw := hw.1 h
        exact hq_vret C hs hw dX9_shrink_53
      · have hw := hw.2 h
        refine lv_aload_n hx hb dX9_shrink_19 rfl (lv_at hl 0 rfl) ?_
        refine lv_dup hx hb dX9_shrink_20 rfl ?_
        refine hq_getI (o := v0) C hs fX9_shrink_29 hv0 (by decide) rfl dX9_shrink_21 (fun g4 => ?_)
        refine lv_aload_n hx hb dX9_shrink_24 rfl (lv_at hl 0 rfl) ?_
        refine hq_getR (o := v0) C hs fX9_shrink_15 hv0 (by decide) rfl dX9_shrink_25 ?_
        refine lv_aload_n hx hb dX9_shrink_28 rfl (lv_at hl 0 rfl) ?_
        refine hq_getI (o := v0) C hs fX9_shrink_26 hv0 (by decide) rfl dX9_shrink_29 (fun g5 => ?_)
        refine hq_bipush C dX9_shrink_32 (by decide) ?_
        refine hq_iand (n := 64) 6 C (by decide) g5 dX9_shrink_34 ?_
        obtain ⟨g6, hw⟩ := hw
        refine hq_iald (o := (v0 + 2)) C hs (tc_9_1 hv0) (hq_rmask (by decide) (by decide)) g6 dX9_shrink_35 (fun g7 => ?_)
        obtain ⟨g8, hw⟩ := hw
        refine hq_isub C dX9_shrink_36 ?_
        refine hq_putI (o := v0) C hs fX9_shrink_29 hv0 (by decide) rfl g8 dX9_shrink_37 (fun M9 eM9 H locs hs => ?_)
        have hw := hw M9 eM9
        refine lv_aload_n hx hb dX9_shrink_40 rfl (lv_at hl 0 rfl) ?_
        refine lv_dup hx hb dX9_shrink_41 rfl ?_
        refine hq_getI (o := v0) C hs fX9_shrink_26 hv0 (by decide) rfl dX9_shrink_42 (fun g10 => ?_)
        refine hq_iconst C dX9_shrink_45 ?_
        obtain ⟨g11, hw⟩ := hw
        refine hq_iadd C dX9_shrink_46 ?_
        refine hq_putI (o := v0) C hs fX9_shrink_26 hv0 (by decide) rfl g11 dX9_shrink_47 (fun M12 eM12 H locs hs => ?_)
        have hw := hw M12 eM12
        refine hq_goto (tgt := 0) C dX9_shrink_50 (by decide) ?_
        exact ih _ _ _ _ hw hs (lv_sub hl [0, 1] rfl)
set_option maxHeartbeats 4000000 in
set_option maxRecDepth 100000 in
theorem c_X9_shrink (l : Launch) {D : va_G} {cA : Nat → ClassId} {B : Nat} {Z : State → Prop} (hZ : hq_Zo Z (hq_in B YC.length)) (v0 : Nat) (hv0 : YC[v0]? = some (9, 0)) (v1 : Int) (rv1 : rg v1) (M : hq_M) (k : hq_M → Prop) (hw : w_X9_shrink v0 v1 M k) : hq_T vwCl SLx l yX9_shrink wsX9_shrink ({ frames := 0, cells := 0, slots := 0, locals := 0 } : Room) D cA YC B Z [.ref (B + v0), .int (w3 v1)] M (hq_qv k) := by
  refine hq_meth (cc := cX9_shrink) (maxL := 2) (ret := none) (own := RX9) hZ rfl (by decide +kernel) rfl (Nat.le_of_ble_eq_true rfl) ?_
  intro p e s m below meth c ls C hs hl
  have hx := C.1.1
  have hb := C.1.2.1
  unfold w_X9_shrink at hw
  have hl : lv_has ls 2 [(0, .ref (B + v0)), (1, .int (w3 v1))] := hl
  obtain ⟨n9, hw⟩ := hw
  refine cl_X9_shrink_0 v0 hv0 v1 rv1 C  n9 _ _ _ _ hw hs (lv_sub hl [0, 1] rfl)
