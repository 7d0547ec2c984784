theorem iX12_isFree_12 : ∀ w ∈ u_ws RX12 TX12 57, w ∈ wsX12_isFree := fun w h => List.mem_cons_of_mem _ (List.mem_append_right _ h)
set_option maxRecDepth 20000 in
theorem fX12_isFree_258 : hq_fl vwCl wsX12_isFree RX12 258 12 23 false .int := ⟨RX12, TX12, 57, tyX12, rfl, by decide, iX12_isFree_12, by decide +kernel, rfl, tyX12_ok 23 (by decide), tyX12_ok, nmX12⟩
set_option maxHeartbeats 4000000 in
set_option maxRecDepth 100000 in
theorem c_X12_isFree (l : Launch) {D : va_G} {cA : Nat → ClassId} {B : Nat} {Z : State → Prop} (hZ : hq_Zo Z (hq_in B YM.length)) (v1 : Int) (rv1 : rg v1) (M : hq_M) (k : Int → Prop) (hw : w_X12_isFree v1 M k) : hq_T vwCl SLx l yX12_isFree wsX12_isFree ({ frames := 2, cells := 0, slots := 0, locals := 47 } : Room) D cA YM B Z [.ref (B + 0), .int (w3 v1)] M (hq_qz (fun z M' => M' = M ∧ k z)) := by
  refine hq_meth (cc := cX12_isFree) (maxL := 2) (ret := (some .boolean)) (own := RX12) hZ rfl (by decide +kernel) rfl (Nat.le_of_ble_eq_true rfl) ?_
  intro p e s m below meth c ls C hs hl
  have hx := C.1.1
  have hb := C.1.2.1
  unfold w_X12_isFree at hw
  have hl : lv_has ls 2 [(0, .ref (B + 0)), (1, .int (w3 v1))] := hl
  refine lv_iload_n hx hb dX12_isFree_0 rfl (lv_at hl 1 rfl) ?_
  refine lv_aload_n hx hb dX12_isFree_1 rfl (lv_at hl 0 rfl) ?_
  refine hq_getI (o := 0) C hs fX12_isFree_258 tkM_0 (by decide) rfl dX12_isFree_2 (fun g1 => ?_)
  refine hq_icmp_ge (tgt := 20) C rv1 g1 dX12_isFree_5 (by decide) (fun h => ?_) (fun h => ?_)
  · have hw := hw.1 h
    refine hq_iconst C dX12_isFree_20 ?_
    exact hq_zret C hs (by decide) ⟨rfl, hw⟩ dX12_isFree_21
  · have hw := hw.2 h
    refine lv_aload_n hx hb dX12_isFree_8 rfl (lv_at hl 0 rfl) ?_
    refine lv_iload_n hx hb dX12_isFree_9 rfl (lv_at hl 1 rfl) ?_
    refine hq_cV (n := 1) (ci := 12) (o := 0) (qc := (TX12, 57)) C hs (c_X12_isHeld l C.2.2.2.2.1 v1 rv1 _ _ hw) gX12_isFree_X12_isHeld rfl ⟨rfl, rfl⟩ (by decide +kernel) ⟨Nat.le_of_ble_eq_true rfl, Nat.le_of_ble_eq_true rfl⟩ tkM_0 (by decide) rfl rfl hl.1 rfl (Nat.le_of_ble_eq_true rfl) dX12_isFree_10 (hq_kz (fun x2 M9 H locs rx2 hw hs => ?_))
    obtain ⟨e9, hw⟩ := hw; rw [e9] at hs
    refine hq_if_ne (tgt := 20) C (rb_rg rx2) dX12_isFree_13 (by decide) (fun h => ?_) (fun h => ?_)
    · have hw := hw.1 h
      refine hq_iconst C dX12_isFree_20 ?_
      exact hq_zret C hs (by decide) ⟨rfl, hw⟩ dX12_isFree_21
    · have hw := hw.2 h
      refine hq_iconst C dX12_isFree_16 ?_
      refine hq_goto (tgt := 21) C dX12_isFree_17 (by decide) ?_
      exact hq_zret C hs (by decide) ⟨rfl, hw⟩ dX12_isFree_21
theorem iX12_canHave_12 : ∀ w ∈ u_ws RX12 TX12 57, w ∈ wsX12_canHave := fun w h => List.mem_cons_of_mem _ (List.mem_append_right _ h)
set_option maxRecDepth 20000 in
theorem fX12_canHave_32 : hq_fl vwCl wsX12_canHave RX12 32 12 18 true (.array .int) := ⟨RX12, TX12, 57, tyX12, rfl, by decide, iX12_canHave_12, by decide +kernel, rfl, tyX12_ok 18 (by decide), tyX12_ok, nmX12⟩
set_option maxRecDepth 20000 in
theorem fX12_canHave_35 : hq_fl vwCl wsX12_canHave RX12 35 12 19 true (.array .int) := ⟨RX12, TX12, 57, tyX12, rfl, by decide, iX12_canHave_12, by decide +kernel, rfl, tyX12_ok 19 (by decide), tyX12_ok, nmX12⟩
set_option maxRecDepth 20000 in
theorem fX12_canHave_41 : hq_fl vwCl wsX12_canHave RX12 41 12 21 true (.array .int) := ⟨RX12, TX12, 57, tyX12, rfl, by decide, iX12_canHave_12, by decide +kernel, rfl, tyX12_ok 21 (by decide), tyX12_ok, nmX12⟩
set_option maxHeartbeats 4000000 in
set_option maxRecDepth 100000 in
theorem cl_X12_canHave_17 {p : Program} {l : Launch} {e : Env} {s : State} {m : MethodId} {args : Array Value} {below : List Frame} {meth : Method} {c : Code} {D : va_G} {cA : Nat → ClassId} {B : Nat} {Z : State → Prop} (v2 : Int) (rv2 : rg v2) {k_62 : Int → Prop} {k : Int → Prop} {M : hq_M} (C : hq_C vwCl p m c cX12_canHave 5 s args wsX12_canHave RX12 meth (some .boolean) D cA (hq_in B YM.length) Z)
    (hk_62 : ∀ (y3 : Int) (ry3 : rg y3) (H : Heap) (locs : List Loc) (ls : Array Slot), k_62 y3 → hq_S vwCl SLx D cA YM B s.heap M H locs → lv_has ls 5 [(2, .int (w3 v2)), (3, .int (w3 y3))] → W p l e ({ frames := 3, cells := 0, slots := 0, locals := 68 } : Room) s m args below meth c H locs 0 0 (MQ below (hq_Q vwCl SLx D cA YM B (hq_qz (fun z M' => M' = M ∧ k z))) args s 0 0 (hq_in B YM.length)) (F0 m 62 ls [])) : ∀ (n : Nat) (v3 : Int) (rv3 : rg v3) (v4 : Int) (rv4 : rg v4) (H : Heap) (locs : List Loc) (ls : Array Slot), l_X12_canHave_17 v2 k_62 k M n v3 v4 → hq_S vwCl SLx D cA YM B s.heap M H locs → lv_has ls 5 [(0, .ref (B + 0)), (2, .int (w3 v2)), (3, .int (w3 v3)), (4, .int (w3 v4))] → W p l e ({ frames := 3, cells := 0, slots := 0, locals := 68 } : Room) s m args below meth c H locs 0 0 (MQ below (hq_Q vwCl SLx D cA YM B (hq_qz (fun z M' => M' = M ∧ k z))) args s 0 0 (hq_in B YM.length)) (F0 m 17 ls []) := by
  have hx := C.1.1
  have hb := C.1.2.1
  intro n
  induction n with
  | zero => intro v3 rv3 v4 rv4 H locs ls hw hs hl; exact hw.elim
  | succ n ih =>
    intro v3 rv3 v4 rv4 H locs ls hw hs hl
    unfold l_X12_canHave_17 at hw
    refine lv_iload_n hx hb dX12_canHave_17 rfl (lv_at hl 2 rfl) ?_
    refine lv_iload_n hx hb dX12_canHave_18 rfl (lv_at hl 1 rfl) ?_
    refine hq_icmp_le (tgt := 62) C rv3 rv2 dX12_canHave_19 (by decide) (fun h => ?_) (fun h => ?_)
    · have hw := hw.1 h
      exact hk_62 v3 rv3 _ _ _ hw hs (lv_sub hl [1, 2] rfl)
    · have hw := hw.2 h
      refine lv_iload hx hb dX12_canHave_22 (lv_at hl 3 rfl) ?_
      refine lv_aload_n hx hb dX12_canHave_24 rfl (lv_at hl 0 rfl) ?_
      refine hq_getA (o := 0) C hs fX12_canHave_32 tkM_0 (by decide) rfl dX12_canHave_25 ?_
      refine hq_iconst C dX12_canHave_28 ?_
      obtain ⟨g1, hw⟩ := hw
      refine hq_iald (o := 6) C hs tkM_6 (by decide : rg 0) g1 dX12_canHave_29 (fun g2 => ?_)
      refine hq_icmp_ge (tgt := 62) C rv4 g2 dX12_canHave_30 (by decide) (fun h => ?_) (fun h => ?_)
      · have hw := hw.1 h
        exact hk_62 v3 rv3 _ _ _ hw hs (lv_sub hl [1, 2] rfl)
      · have hw := hw.2 h
        refine lv_aload_n hx hb dX12_canHave_33 rfl (lv_at hl 0 rfl) ?_
        refine lv_iload hx hb dX12_canHave_34 (lv_at hl 3 rfl) ?_
        refine hq_cV (n := 1) (ci := 12) (o := 0) (qc := (TX12, 57)) C hs (c_X12_isFree l C.2.2.2.2.1 v4 rv4 _ _ hw) gX12_canHave_X12_isFree rfl ⟨rfl, rfl⟩ (by decide +kernel) ⟨Nat.le_of_ble_eq_true rfl, Nat.le_of_ble_eq_true rfl⟩ tkM_0 (by decide) rfl rfl hl.1 rfl (Nat.le_of_ble_eq_true rfl) dX12_canHave_36 (hq_kz (fun x3 M9 H locs rx3 hw hs => ?_))
        obtain ⟨e9, hw⟩ := hw; rw [e9] at hs
        refine hq_if_eq (tgt := 62) C (rb_rg rx3) dX12_canHave_39 (by decide) (fun h => ?_) (fun h => ?_)
        · have hw := hw.1 h
          exact hk_62 v3 rv3 _ _ _ hw hs (lv_sub hl [1, 2] rfl)
        · have hw := hw.2 h
          refine lv_iload_n hx hb dX12_canHave_42 rfl (lv_at hl 2 rfl) ?_
          refine lv_aload_n hx hb dX12_canHave_43 rfl (lv_at hl 0 rfl) ?_
          refine lv_aload_n hx hb dX12_canHave_44 rfl (lv_at hl 0 rfl) ?_
          refine hq_iconst C dX12_canHave_45 ?_
          refine lv_iload hx hb dX12_canHave_46 (lv_at hl 3 rfl) ?_
          refine hq_cV (n := 2) (ci := 12) (o := 0) (qc := (TX12, 57)) C hs (c_X12_fieldAt l C.2.2.2.2.1 0 (by decide : rg 0) v4 rv4 _ _ hw) gX12_canHave_X12_fieldAt rfl ⟨rfl, rfl⟩ (by decide +kernel) ⟨Nat.le_of_ble_eq_true rfl, Nat.le_of_ble_eq_true rfl⟩ tkM_0 (by decide) rfl rfl hl.1 rfl (Nat.le_of_ble_eq_true rfl) dX12_canHave_48 (hq_ki (fun x4 M9 H locs rx4 hw hs => ?_))
          obtain ⟨e9, hw⟩ := hw; rw [e9] at hs
          refine hq_cV (n := 1) (ci := 12) (o := 0) (qc := (TX12, 57)) C hs (c_X12_sizeOf l C.2.2.2.2.1 x4 rx4 _ _ hw) gX12_canHave_X12_sizeOf rfl ⟨rfl, rfl⟩ (by decide +kernel) ⟨Nat.le_of_ble_eq_true rfl, Nat.le_of_ble_eq_true rfl⟩ tkM_0 (by decide) rfl rfl hl.1 rfl (Nat.le_of_ble_eq_true rfl) dX12_canHave_51 (hq_ki (fun x5 M9 H locs rx5 hw hs => ?_))
          obtain ⟨e9, hw⟩ := hw; rw [e9] at hs
          obtain ⟨g6, hw⟩ := hw
          refine hq_isub C dX12_canHave_54 ?_
          refine hq_nm (fun x7 ex7 => ?_)
          have hw := hw x7 ex7
          have rx7 : rg x7 := by rw [ex7]; exact g6
          refine lv_istore_n (lv' := [(3, .int (w3 x7)), (0, .ref (B + 0)), (2, .int (w3 v2)), (4, .int (w3 v4))]) hx hb dX12_canHave_55 rfl hl (by decide) rfl (fun ls hl => ?_)
          obtain ⟨g9, hw⟩ := hw
          refine hq_iinc (k := 3) C dX12_canHave_56 hl rfl (by decide) (fun x8 ex8 ls hl => ?_)
          have hw := hw x8 ex8
          have rx8 : rg x8 := by rw [ex8]; exact g9
          have hl : lv_has ls 5 [(4, .int (w3 x8)), (3, .int (w3 x7)), (0, .ref (B + 0)), (2, .int (w3 v2))] := hl
          refine hq_goto (tgt := 17) C dX12_canHave_59 (by decide) ?_
          exact ih x7 rx7 x8 rx8 _ _ _ hw hs (lv_sub hl [2, 3, 1, 0] rfl)
set_option maxHeartbeats 4000000 in
set_option maxRecDepth 100000 in
theorem c_X12_canHave (l : Launch) {D : va_G} {cA : Nat → ClassId} {B : Nat} {Z : State → Prop} (hZ : hq_Zo Z (hq_in B YM.length)) (v1 : Int) (rv1 : rg v1) (v2 : Int) (rv2 : rg v2) (M : hq_M) (k : Int → Prop) (hw : w_X12_canHave v1 v2 M k) : hq_T vwCl SLx l yX12_canHave wsX12_canHave ({ frames := 3, cells := 0, slots := 0, locals := 68 } : Room) D cA YM B Z [.ref (B + 0), .int (w3 v1), .int (w3 v2)] M (hq_qz (fun z M' => M' = M ∧ k z)) := by
  refine hq_meth (cc := cX12_canHave) (maxL := 5) (ret := (some .boolean)) (own := RX12) hZ rfl (by decide +kernel) rfl (Nat.le_of_ble_eq_true rfl) ?_
  intro p e s m below meth c ls C hs hl
  have hx := C.1.1
  have hb := C.1.2.1
  unfold w_X12_canHave at hw
  have hl : lv_has ls 5 [(0, .ref (B + 0)), (1, .int (w3 v1)), (2, .int (w3 v2))] := hl
  refine lv_aload_n hx hb dX12_canHave_0 rfl (lv_at hl 0 rfl) ?_
  refine hq_getA (o := 0) C hs fX12_canHave_41 tkM_0 (by decide) rfl dX12_canHave_1 ?_
  refine hq_iconst C dX12_canHave_4 ?_
  obtain ⟨g1, hw⟩ := hw
  refine hq_iald (o := 9) C hs tkM_9 (by decide : rg 0) g1 dX12_canHave_5 (fun g2 => ?_)
  refine lv_iload_n hx hb dX12_canHave_6 rfl (lv_at hl 1 rfl) ?_
  obtain ⟨g3, hw⟩ := hw
  refine hq_iadd C dX12_canHave_7 ?_
  refine hq_nm (fun x4 ex4 => ?_)
  have hw := hw x4 ex4
  have rx4 : rg x4 := by rw [ex4]; exact g3
  refine lv_istore_n (lv' := [(3, .int (w3 x4)), (0, .ref (B + 0)), (1, .int (w3 v1)), (2, .int (w3 v2))]) hx hb dX12_canHave_8 rfl hl (by decide) rfl (fun ls hl => ?_)
  refine lv_aload_n hx hb dX12_canHave_9 rfl (lv_at hl 1 rfl) ?_
  refine hq_getA (o := 0) C hs fX12_canHave_35 tkM_0 (by decide) rfl dX12_canHave_10 ?_
  refine hq_iconst C dX12_canHave_13 ?_
  obtain ⟨g5, hw⟩ := hw
  refine hq_iald (o := 7) C hs tkM_7 (by decide : rg 0) g5 dX12_canHave_14 (fun g6 => ?_)
  refine hq_nm (fun x7 ex7 => ?_)
  have hw := hw x7 ex7
  have rx7 : rg x7 := by rw [ex7]; exact g6
  refine lv_istore (lv' := [(4, .int (w3 x7)), (3, .int (w3 x4)), (0, .ref (B + 0)), (1, .int (w3 v1)), (2, .int (w3 v2))]) hx hb dX12_canHave_15 hl (by decide) rfl (fun ls hl => ?_)
  obtain ⟨n9, hw⟩ := hw
  refine cl_X12_canHave_17 v2 rv2 C ?_ n9 x4 rx4 x7 rx7 _ _ _ hw hs (lv_sub hl [2, 4, 1, 0] rfl)
  · intro x8 rx8 H locs ls hw hs hl
    refine lv_iload_n hx hb dX12_canHave_62 rfl (lv_at hl 1 rfl) ?_
    refine lv_iload_n hx hb dX12_canHave_63 rfl (lv_at hl 0 rfl) ?_
    refine hq_icmp_gt (tgt := 71) C rx8 rv2 dX12_canHave_64 (by decide) (fun h => ?_) (fun h => ?_)
    · have hw := hw.1 h
      refine hq_iconst C dX12_canHave_71 ?_
      exact hq_zret C hs (by decide) ⟨rfl, hw⟩ dX12_canHave_72
    · have hw := hw.2 h
      refine hq_iconst C dX12_canHave_67 ?_
      refine hq_goto (tgt := 72) C dX12_canHave_68 (by decide) ?_
      exact hq_zret C hs (by decide) ⟨rfl, hw⟩ dX12_canHave_72
theorem iX12_lays_12 : ∀ w ∈ u_ws RX12 TX12 57, w ∈ wsX12_lays := fun w h => List.mem_cons_of_mem _ (List.mem_append_right _ h)
set_option maxRecDepth 20000 in
theorem fX12_lays_99 : hq_fl vwCl wsX12_lays RX12 99 12 48 true (.array .int) := ⟨RX12, TX12, 57, tyX12, rfl, by decide, iX12_lays_12, by decide +kernel, rfl, tyX12_ok 48 (by decide), tyX12_ok, nmX12⟩
set_option maxRecDepth 20000 in
theorem fX12_lays_267 : hq_fl vwCl wsX12_lays RX12 267 12 49 false .int := ⟨RX12, TX12, 57, tyX12, rfl, by decide, iX12_lays_12, by decide +kernel, rfl, tyX12_ok 49 (by decide), tyX12_ok, nmX12⟩
set_option maxHeartbeats 4000000 in
set_option maxRecDepth 100000 in
theorem c_X12_lays (l : Launch) {D : va_G} {cA : Nat → ClassId} {B : Nat} {Z : State → Prop} (hZ : hq_Zo Z (hq_in B YM.length)) (v1 : Int) (rv1 : rg v1) (M : hq_M) (k : hq_M → Prop) (hw : w_X12_lays v1 M k) : hq_T vwCl SLx l yX12_lays wsX12_lays ({ frames := 0, cells := 0, slots := 0, locals := 0 } : Room) D cA YM B Z [.ref (B + 0), .int (w3 v1)] M (hq_qv k) := by
  refine hq_meth (cc := cX12_lays) (maxL := 2) (ret := none) (own := RX12) hZ rfl (by decide +kernel) rfl (Nat.le_of_ble_eq_true rfl) ?_
  intro p e s m below meth c ls C hs hl
  have hx := C.1.1
  have hb := C.1.2.1
  unfold w_X12_lays at hw
  have hl : lv_has ls 2 [(0, .ref (B + 0)), (1, .int (w3 v1))] := hl
  refine lv_aload_n hx hb dX12_lays_0 rfl (lv_at hl 0 rfl) ?_
  refine hq_getA (o := 0) C hs fX12_lays_99 tkM_0 (by decide) rfl dX12_lays_1 ?_
  refine lv_aload_n hx hb dX12_lays_4 rfl (lv_at hl 0 rfl) ?_
  refine hq_getI (o := 0) C hs fX12_lays_267 tkM_0 (by decide) rfl dX12_lays_5 (fun g1 => ?_)
  refine lv_iload_n hx hb dX12_lays_8 rfl (lv_at hl 1 rfl) ?_
  obtain ⟨g2, hw⟩ := hw
  refine hq_iast (o := 28) C hs tkM_28 g1 g2 rv1 dX12_lays_9 (fun M3 eM3 H locs hs => ?_)
  have hw := hw M3 eM3
  refine lv_aload_n hx hb dX12_lays_10 rfl (lv_at hl 0 rfl) ?_
  refine lv_dup hx hb dX12_lays_11 rfl ?_
  refine hq_getI (o := 0) C hs fX12_lays_267 tkM_0 (by decide) rfl dX12_lays_12 (fun g4 => ?_)
  refine hq_iconst C dX12_lays_15 ?_
  obtain ⟨g5, hw⟩ := hw
  refine hq_iadd C dX12_lays_16 ?_
  refine hq_putI (o := 0) C hs fX12_lays_267 tkM_0 (by decide) rfl g5 dX12_lays_17 (fun M6 eM6 H locs hs => ?_)
  have hw := hw M6 eM6
  exact hq_vret C hs hw dX12_lays_20
set_option maxHeartbeats 4000000 in
set_option maxRecDepth 100000 in
theorem cl_X12_laysNumber_35 {p : Program} {l : Launch} {e : Env} {s : State} {m : MethodId} {args : Array Value} {below : List Frame} {meth : Method} {c : Code} {D : va_G} {cA : Nat → ClassId} {B : Nat} {Z : State → Prop}  {k_67 : Int → hq_M → Prop} {k : hq_M → Prop} (C : hq_C vwCl p m c cX12_laysNumber 6 s args wsX12_laysNumber RX12 meth none D cA (hq_in B YM.length) Z)
    (hk_67 : ∀ (y5 : Int) (ry5 : rg y5) (M1 : hq_M) (H : Heap) (locs : List Loc) (ls : Array Slot), k_67 y5 M1 → hq_S vwCl SLx D cA YM B s.heap M1 H locs → lv_has ls 6 [(0, .ref (B + 0)), (5, .int (w3 y5))] → W p l e ({ frames := 1, cells := 0, slots := 0, locals := 21 } : Room) s m args below meth c H locs 0 0 (MQ below (hq_Q vwCl SLx D cA YM B (hq_qv k)) args s 0 0 (hq_in B YM.length)) (F0 m 67 ls [])) : ∀ (n : Nat) (v5 : Int) (rv5 : rg v5) (M : hq_M) (H : Heap) (locs : List Loc) (ls : Array Slot), l_X12_laysNumber_35 k_67 k n v5 M → hq_S vwCl SLx D cA YM B s.heap M H locs → lv_has ls 6 [(0, .ref (B + 0)), (5, .int (w3 v5))] → W p l e ({ frames := 1, cells := 0, slots := 0, locals := 21 } : Room) s m args below meth c H locs 0 0 (MQ below (hq_Q vwCl SLx D cA YM B (hq_qv k)) args s 0 0 (hq_in B YM.length)) (F0 m 35 ls []) := by
  have hx := C.1.1
  have hb := C.1.2.1
  intro n
  induction n with
  | zero => intro v5 rv5 M H locs ls hw hs hl; exact hw.elim
  | succ n ih =>
    intro v5 rv5 M H locs ls hw hs hl
    unfold l_X12_laysNumber_35 at hw
    refine lv_iload hx hb dX12_laysNumber_35 (lv_at hl 1 rfl) ?_
    refine hq_bipush C dX12_laysNumber_37 (by decide) ?_
    refine hq_icmp_le (tgt := 67) C rv5 (by decide : rg 127) dX12_laysNumber_39 (by decide) (fun h => ?_) (fun h => ?_)
    · have hw := hw.1 h
      exact hk_67 v5 rv5 _ _ _ _ hw hs (lv_sub hl [0, 1] rfl)
    · have hw := hw.2 h
      refine lv_aload_n hx hb dX12_laysNumber_42 rfl (lv_at hl 0 rfl) ?_
      refine hq_sipush C dX12_laysNumber_43 (by decide) ?_
      refine lv_iload hx hb dX12_laysNumber_46 (lv_at hl 1 rfl) ?_
      refine hq_sipush C dX12_laysNumber_48 (by decide) ?_
      obtain ⟨g1, hw⟩ := hw
      refine hq_irem C rv5 (by decide : rg 128) g1 dX12_laysNumber_51 ?_
      obtain ⟨g2, hw⟩ := hw
      refine hq_iadd C dX12_laysNumber_52 ?_
      refine hq_cV (n := 1) (ci := 12) (o := 0) (qc := (TX12, 57)) C hs (c_X12_lays l C.2.2.2.2.1 (128 + (v5 % 128)) g2 _ _ hw) gX12_laysNumber_X12_lays rfl ⟨rfl, rfl⟩ (by decide +kernel) ⟨Nat.le_of_ble_eq_true rfl, Nat.le_of_ble_eq_true rfl⟩ tkM_0 (by decide) rfl rfl hl.1 rfl (Nat.le_of_ble_eq_true rfl) dX12_laysNumber_53 (hq_kv (fun M3 H locs hw hs => ?_))
      refine lv_iload hx hb dX12_laysNumber_56 (lv_at hl 1 rfl) ?_
      refine hq_sipush C dX12_laysNumber_58 (by decide) ?_
      obtain ⟨g4, hw⟩ := hw
      refine hq_idiv C rv5 (by decide : rg 128) g4 dX12_laysNumber_61 ?_
      refine hq_nm (fun x5 ex5 => ?_)
      have hw := hw x5 ex5
      have rx5 : rg x5 := by rw [ex5]; exact (hq_rdiv rv5 (by decide : rg 128) g4)
      refine lv_istore (lv' := [(5, .int (w3 x5)), (0, .ref (B + 0))]) hx hb dX12_laysNumber_62 hl (by decide) rfl (fun ls hl => ?_)
      refine hq_goto (tgt := 35) C dX12_laysNumber_64 (by decide) ?_
      exact ih x5 rx5 _ _ _ _ hw hs (lv_sub hl [1, 0] rfl)
set_option maxHeartbeats 4000000 in
set_option maxRecDepth 100000 in
theorem c_X12_laysNumber (l : Launch) {D : va_G} {cA : Nat → ClassId} {B : Nat} {Z : State → Prop} (hZ : hq_Zo Z (hq_in B YM.length)) (v1 : Int) (rv1 : rg v1) (v2 : Int) (rv2 : rg v2) (v3 : Int) (rv3 : rg v3) (M : hq_M) (k : hq_M → Prop) (hw : w_X12_laysNumber v1 v2 v3 M k) : hq_T vwCl SLx l yX12_laysNumber wsX12_laysNumber ({ frames := 1, cells := 0, slots := 0, locals := 21 } : Room) D cA YM B Z [.ref (B + 0), .int (w3 v1), .int (w3 v2), .int (w3 v3)] M (hq_qv k) := by
  refine hq_meth (cc := cX12_laysNumber) (maxL := 6) (ret := none) (own := RX12) hZ rfl (by decide +kernel) rfl (Nat.le_of_ble_eq_true rfl) ?_
  intro p e s m below meth c ls C hs hl
  have hx := C.1.1
  have hb := C.1.2.1
  unfold w_X12_laysNumber at hw
  have hl : lv_has ls 6 [(0, .ref (B + 0)), (1, .int (w3 v1)), (2, .int (w3 v2)), (3, .int (w3 v3))] := hl
  refine hq_iconst C dX12_laysNumber_0 ?_
  refine lv_iload_n hx hb dX12_laysNumber_1 rfl (lv_at hl 2 rfl) ?_
  obtain ⟨g1, g2, hw⟩ := hw
  refine hq_ishl C g1 dX12_laysNumber_2 ?_
  refine hq_iconst C dX12_laysNumber_3 ?_
  obtain ⟨g3, hw⟩ := hw
  refine hq_isub C dX12_laysNumber_4 ?_
  refine hq_nm (fun x4 ex4 => ?_)
  have hw := hw x4 ex4
  have rx4 : rg x4 := by rw [ex4]; exact g3
  refine lv_istore (lv' := [(4, .int (w3 x4)), (0, .ref (B + 0)), (1, .int (w3 v1)), (2, .int (w3 v2)), (3, .int (w3 v3))]) hx hb dX12_laysNumber_5 hl (by decide) rfl (fun ls hl => ?_)
  refine lv_iload_n hx hb dX12_laysNumber_7 rfl (lv_at hl 4 rfl) ?_
  refine lv_iload hx hb dX12_laysNumber_8 (lv_at hl 0 rfl) ?_
  refine hq_icmp_ge (tgt := 21) C rv3 rx4 dX12_laysNumber_10 (by decide) (fun h => ?_) (fun h => ?_)
  · have hw := hw.1 h
    refine lv_aload_n hx hb dX12_laysNumber_21 rfl (lv_at hl 1 rfl) ?_
    refine lv_iload_n hx hb dX12_laysNumber_22 rfl (lv_at hl 2 rfl) ?_
    refine lv_iload hx hb dX12_laysNumber_23 (lv_at hl 0 rfl) ?_
    obtain ⟨g5, hw⟩ := hw
    refine hq_iadd C dX12_laysNumber_25 ?_
    refine hq_cV (n := 1) (ci := 12) (o := 0) (qc := (TX12, 57)) C hs (c_X12_lays l C.2.2.2.2.1 (v1 + x4) g5 _ _ hw) gX12_laysNumber_X12_lays rfl ⟨rfl, rfl⟩ (by decide +kernel) ⟨Nat.le_of_ble_eq_true rfl, Nat.le_of_ble_eq_true rfl⟩ tkM_0 (by decide) rfl rfl hl.1 rfl (Nat.le_of_ble_eq_true rfl) dX12_laysNumber_26 (hq_kv (fun M6 H locs hw hs => ?_))
    refine lv_iload_n hx hb dX12_laysNumber_29 rfl (lv_at hl 4 rfl) ?_
    refine lv_iload hx hb dX12_laysNumber_30 (lv_at hl 0 rfl) ?_
    obtain ⟨g7, hw⟩ := hw
    refine hq_isub C dX12_laysNumber_32 ?_
    refine hq_nm (fun x8 ex8 => ?_)
    have hw := hw x8 ex8
    have rx8 : rg x8 := by rw [ex8]; exact g7
    refine lv_istore (lv' := [(5, .int (w3 x8)), (4, .int (w3 x4)), (0, .ref (B + 0)), (1, .int (w3 v1)), (2, .int (w3 v2)), (3, .int (w3 v3))]) hx hb dX12_laysNumber_33 hl (by decide) rfl (fun ls hl => ?_)
    obtain ⟨n9, hw⟩ := hw
    refine cl_X12_laysNumber_35  C ?_ n9 x8 rx8 _ _ _ _ hw hs (lv_sub hl [2, 0] rfl)
    · intro x10 rx10 M9 H locs ls hw hs hl
      refine lv_aload_n hx hb dX12_laysNumber_67 rfl (lv_at hl 0 rfl) ?_
      refine lv_iload hx hb dX12_laysNumber_68 (lv_at hl 1 rfl) ?_
      refine hq_cV (n := 1) (ci := 12) (o := 0) (qc := (TX12, 57)) C hs (c_X12_lays l C.2.2.2.2.1 x10 rx10 _ _ hw) gX12_laysNumber_X12_lays rfl ⟨rfl, rfl⟩ (by decide +kernel) ⟨Nat.le_of_ble_eq_true rfl, Nat.le_of_ble_eq_true rfl⟩ tkM_0 (by decide) rfl rfl hl.1 rfl (Nat.le_of_ble_eq_true rfl) dX12_laysNumber_70 (hq_kv (fun M11 H locs hw hs => ?_))
      exact hq_vret C hs hw dX12_laysNumber_73
  · have hw := hw.2 h
    refine lv_aload_n hx hb dX12_laysNumber_13 rfl (lv_at hl 1 rfl) ?_
    refine lv_iload_n hx hb dX12_laysNumber_14 rfl (lv_at hl 2 rfl) ?_
    refine lv_iload_n hx hb dX12_laysNumber_15 rfl (lv_at hl 4 rfl) ?_
    obtain ⟨g12, hw⟩ := hw
    refine hq_iadd C dX12_laysNumber_16 ?_
    refine hq_cV (n := 1) (ci := 12) (o := 0) (qc := (TX12, 57)) C hs (c_X12_lays l C.2.2.2.2.1 (v1 + v3) g12 _ _ hw) gX12_laysNumber_X12_lays rfl ⟨rfl, rfl⟩ (by decide +kernel) ⟨Nat.le_of_ble_eq_true rfl, Nat.le_of_ble_eq_true rfl⟩ tkM_0 (by decide) rfl rfl hl.1 rfl (Nat.le_of_ble_eq_true rfl) dX12_laysNumber_17 (hq_kv (fun M13 H locs hw hs => ?_))
    exact hq_vret C hs hw dX12_laysNumber_20
theorem iX12_laysName_12 : ∀ w ∈ u_ws RX12 TX12 57, w ∈ wsX12_laysName := fun w h => List.mem_cons_of_mem _ (List.mem_append_right _ h)
set_option maxRecDepth 20000 in
theorem fX12_laysName_16 : hq_fl vwCl wsX12_laysName RX12 16 12 4 true (.array .int) := ⟨RX12, TX12, 57, tyX12, rfl, by decide, iX12_laysName_12, by decide +kernel, rfl, tyX12_ok 4 (by decide), tyX12_ok, nmX12⟩
set_option maxRecDepth 20000 in
theorem fX12_laysName_23 : hq_fl vwCl wsX12_laysName RX12 23 12 6 true (.array .int) := ⟨RX12, TX12, 57, tyX12, rfl, by decide, iX12_laysName_12, by decide +kernel, rfl, tyX12_ok 6 (by decide), tyX12_ok, nmX12⟩
set_option maxHeartbeats 4000000 in
set_option maxRecDepth 100000 in
theorem cl_X12_laysName_2 {p : Program} {l : Launch} {e : Env} {s : State} {m : MethodId} {args : Array Value} {below : List Frame} {meth : Method} {c : Code} {D : va_G} {cA : Nat → ClassId} {B : Nat} {Z : State → Prop} (v1 : Int) (rv1 : rg v1)  {k : hq_M → Prop} (C : hq_C vwCl p m c cX12_laysName 3 s args wsX12_laysName RX12 meth none D cA (hq_in B YM.length) Z)
     : ∀ (n : Nat) (v2 : Int) (rv2 : rg v2) (M : hq_M) (H : Heap) (locs : List Loc) (ls : Array Slot), l_X12_laysName_2 v1 k n v2 M → hq_S vwCl SLx D cA YM B s.heap M H locs → lv_has ls 3 [(0, .ref (B + 0)), (1, .int (w3 v1)), (2, .int (w3 v2))] → W p l e ({ frames := 1, cells := 0, slots := 0, locals := 21 } : Room) s m args below meth c H locs 0 0 (MQ below (hq_Q vwCl SLx D cA YM B (hq_qv k)) args s 0 0 (hq_in B YM.length)) (F0 m 2 ls []) := by
  have hx := C.1.1
  have hb := C.1.2.1
  intro n
  induction n with
  | zero => intro v2 rv2 M H locs ls hw hs hl; exact hw.elim
  | succ n ih =>
    intro v2 rv2 M H locs ls hw hs hl
    unfold l_X12_laysName_2 at hw
    refine lv_iload_n hx hb dX12_laysName_2 rfl (lv_at hl 2 rfl) ?_
    refine lv_aload_n hx hb dX12_laysName_3 rfl (lv_at hl 0 rfl) ?_
    refine hq_getA (o := 0) C hs fX12_laysName_16 tkM_0 (by decide) rfl dX12_laysName_4 ?_
    refine lv_iload_n hx hb dX12_laysName_7 rfl (lv_at hl 1 rfl) ?_
    obtain ⟨g1, hw⟩ := hw
    refine hq_iald (o := 1) C hs tkM_1 rv1 g1 dX12_laysName_8 (fun g2 => ?_)
    refine hq_icmp_ge (tgt := 33) C rv2 g2 dX12_laysName_9 (by decide) (fun h => ?_) (fun h => ?_)
    · have hw := hw.1 h
      exact hq_vret C hs hw dX12_laysName_33
    · have hw := hw.2 h
      refine lv_aload_n hx hb dX12_laysName_12 rfl (lv_at hl 0 rfl) ?_
      refine lv_aload_n hx hb dX12_laysName_13 rfl (lv_at hl 0 rfl) ?_
      refine hq_getA (o := 0) C hs fX12_laysName_23 tkM_0 (by decide) rfl dX12_laysName_14 ?_
      refine hq_bipush C dX12_laysName_17 (by decide) ?_
      refine lv_iload_n hx hb dX12_laysName_19 rfl (lv_at hl 1 rfl) ?_
      obtain ⟨g3, hw⟩ := hw
      refine hq_imul C dX12_laysName_20 ?_
      refine lv_iload_n hx hb dX12_laysName_21 rfl (lv_at hl 2 rfl) ?_
      obtain ⟨g4, hw⟩ := hw
      refine hq_iadd C dX12_laysName_22 ?_
      obtain ⟨g5, hw⟩ := hw
      refine hq_iald (o := 3) C hs tkM_3 g4 g5 dX12_laysName_23 (fun g6 => ?_)
      refine hq_cV (n := 1) (ci := 12) (o := 0) (qc := (TX12, 57)) C hs (c_X12_lays l C.2.2.2.2.1 (M 3 ((6 * v1) + v2).toNat) g6 _ _ hw) gX12_laysName_X12_lays rfl ⟨rfl, rfl⟩ (by decide +kernel) ⟨Nat.le_of_ble_eq_true rfl, Nat.le_of_ble_eq_true rfl⟩ tkM_0 (by decide) rfl rfl hl.1 rfl (Nat.le_of_ble_eq_true rfl) dX12_laysName_24 (hq_kv (fun M7 H locs hw hs => ?_))
      obtain ⟨g9, hw⟩ := hw
      refine hq_iinc (k := 2) C dX12_laysName_27 hl rfl (by decide) (fun x8 ex8 ls hl => ?_)
      have hw := hw x8 ex8
      have rx8 : rg x8 := by rw [ex8]; exact g9
      have hl : lv_has ls 3 [(2, .int (w3 x8)), (0, .ref (B + 0)), (1, .int (w3 v1))] := hl
      refine hq_goto (tgt := 2) C dX12_laysName_30 (by decide) ?_
      exact ih x8 rx8 _ _ _ _ hw hs (lv_sub hl [1, 2, 0] rfl)
set_option maxHeartbeats 4000000 in
set_option maxRecDepth 100000 in
theorem c_X12_laysName (l : Launch) {D : va_G} {cA : Nat → ClassId} {B : Nat} {Z : State → Prop} (hZ : hq_Zo Z (hq_in B YM.length)) (v1 : Int) (rv1 : rg v1) (M : hq_M) (k : hq_M → Prop) (hw : w_X12_laysName v1 M k) : hq_T vwCl SLx l yX12_laysName wsX12_laysName ({ frames := 1, cells := 0, slots := 0, locals := 21 } : Room) D cA YM B Z [.ref (B + 0), .int (w3 v1)] M (hq_qv k) := by
  refine hq_meth (cc := cX12_laysName) (maxL := 3) (ret := none) (own := RX12) hZ rfl (by decide +kernel) rfl (Nat.le_of_ble_eq_true rfl) ?_
  intro p e s m below meth c ls C hs hl
  have hx := C.1.1
  have hb := C.1.2.1
  unfold w_X12_laysName at hw
  have hl : lv_has ls 3 [(0, .ref (B + 0)), (1, .int (w3 v1))] := hl
  refine hq_iconst C dX12_laysName_0 ?_
  refine lv_istore_n (lv' := [(2, .int (w3 0)), (0, .ref (B + 0)), (1, .int (w3 v1))]) hx hb dX12_laysName_1 rfl hl (by decide) rfl (fun ls hl => ?_)
  obtain ⟨n9, hw⟩ := hw
  refine cl_X12_laysName_2 v1 rv1 C  n9 0 (by decide : rg 0) _ _ _ _ hw hs (lv_sub hl [1, 2, 0] rfl)
theorem iX12_laysValue_12 : ∀ w ∈ u_ws RX12 TX12 57, w ∈ wsX12_laysValue := fun w h => List.mem_cons_of_mem _ (List.mem_append_right _ h)
set_option maxRecDepth 20000 in
theorem fX12_laysValue_20 : hq_fl vwCl wsX12_laysValue RX12 20 12 5 true (.array .int) := ⟨RX12, TX12, 57, tyX12, rfl, by decide, iX12_laysValue_12, by decide +kernel, rfl, tyX12_ok 5 (by decide), tyX12_ok, nmX12⟩
set_option maxRecDepth 20000 in
theorem fX12_laysValue_26 : hq_fl vwCl wsX12_laysValue RX12 26 12 7 true (.array .int) := ⟨RX12, TX12, 57, tyX12, rfl, by decide, iX12_laysValue_12, by decide +kernel, rfl, tyX12_ok 7 (by decide), tyX12_ok, nmX12⟩
set_option maxHeartbeats 4000000 in
set_option maxRecDepth 100000 in
theorem cl_X12_laysValue_15 {p : Program} {l : Launch} {e : Env} {s : State} {m : MethodId} {args : Array Value} {below : List Frame} {meth : Method} {c : Code} {D : va_G} {cA : Nat → ClassId} {B : Nat} {Z : State → Prop} (v1 : Int) (rv1 : rg v1)  {k : hq_M → Prop} (C : hq_C vwCl p m c cX12_laysValue 3 s args wsX12_laysValue RX12 meth none D cA (hq_in B YM.length) Z)
     : ∀ (n : Nat) (v2 : Int) (rv2 : rg v2) (M : hq_M) (H : Heap) (locs : List Loc) (ls : Array Slot), l_X12_laysValue_15 v1 k n v2 M → hq_S vwCl SLx D cA YM B s.heap M H locs → lv_has ls 3 [(0, .ref (B + 0)), (1, .int (w3 v1)), (2, .int (w3 v2))] → W p l e ({ frames := 2, cells := 0, slots := 0, locals := 46 } : Room) s m args below meth c H locs 0 0 (MQ below (hq_Q vwCl SLx D cA YM B (hq_qv k)) args s 0 0 (hq_in B YM.length)) (F0 m 15 ls []) := by
  have hx := C.1.1
  have hb := C.1.2.1
  intro n
  induction n with
  | zero => intro v2 rv2 M H locs ls hw hs hl; exact hw.elim
  | succ n ih =>
    intro v2 rv2 M H locs ls hw hs hl
    unfold l_X12_laysValue_15 at hw
    refine lv_iload_n hx hb dX12_laysValue_15 rfl (lv_at hl 2 rfl) ?_
    refine lv_aload_n hx hb dX12_laysValue_16 rfl (lv_at hl 0 rfl) ?_
    refine hq_getA (o := 0) C hs fX12_laysValue_20 tkM_0 (by decide) rfl dX12_laysValue_17 ?_
    refine lv_iload_n hx hb dX12_laysValue_20 rfl (lv_at hl 1 rfl) ?_
    obtain ⟨g1, hw⟩ := hw
    refine hq_iald (o := 2) C hs tkM_2 rv1 g1 dX12_laysValue_21 (fun g2 => ?_)
    refine hq_icmp_ge (tgt := 46) C rv2 g2 dX12_laysValue_22 (by decide) (fun h => ?_) (fun h => ?_)
    · have hw := hw.1 h
      exact hq_vret C hs hw dX12_laysValue_46
    · have hw := hw.2 h
      refine lv_aload_n hx hb dX12_laysValue_25 rfl (lv_at hl 0 rfl) ?_
      refine lv_aload_n hx hb dX12_laysValue_26 rfl (lv_at hl 0 rfl) ?_
      refine hq_getA (o := 0) C hs fX12_laysValue_26 tkM_0 (by decide) rfl dX12_laysValue_27 ?_
      refine hq_bipush C dX12_laysValue_30 (by decide) ?_
      refine lv_iload_n hx hb dX12_laysValue_32 rfl (lv_at hl 1 rfl) ?_
      obtain ⟨g3, hw⟩ := hw
      refine hq_imul C dX12_laysValue_33 ?_
      refine lv_iload_n hx hb dX12_laysValue_34 rfl (lv_at hl 2 rfl) ?_
      obtain ⟨g4, hw⟩ := hw
      refine hq_iadd C dX12_laysValue_35 ?_
      obtain ⟨g5, hw⟩ := hw
      refine hq_iald (o := 4) C hs tkM_4 g4 g5 dX12_laysValue_36 (fun g6 => ?_)
      refine hq_cV (n := 1) (ci := 12) (o := 0) (qc := (TX12, 57)) C hs (c_X12_lays l C.2.2.2.2.1 (M 4 ((6 * v1) + v2).toNat) g6 _ _ hw) gX12_laysValue_X12_lays rfl ⟨rfl, rfl⟩ (by decide +kernel) ⟨Nat.le_of_ble_eq_true rfl, Nat.le_of_ble_eq_true rfl⟩ tkM_0 (by decide) rfl rfl hl.1 rfl (Nat.le_of_ble_eq_true rfl) dX12_laysValue_37 (hq_kv (fun M7 H locs hw hs => ?_))
      obtain ⟨g9, hw⟩ := hw
      refine hq_iinc (k := 2) C dX12_laysValue_40 hl rfl (by decide) (fun x8 ex8 ls hl => ?_)
      have hw := hw x8 ex8
      have rx8 : rg x8 := by rw [ex8]; exact g9
      have hl : lv_has ls 3 [(2, .int (w3 x8)), (0, .ref (B + 0)), (1, .int (w3 v1))] := hl
      refine hq_goto (tgt := 15) C dX12_laysValue_43 (by decide) ?_
      exact ih x8 rx8 _ _ _ _ hw hs (lv_sub hl [1, 2, 0] rfl)
set_option maxHeartbeats 4000000 in
set_option maxRecDepth 100000 in
theorem c_X12_laysValue (l : Launch) {D : va_G} {cA : Nat → ClassId} {B : Nat} {Z : State → Prop} (hZ : hq_Zo Z (hq_in B YM.length)) (v1 : Int) (rv1 : rg v1) (M : hq_M) (k : hq_M → Prop) (hw : w_X12_laysValue v1 M k) : hq_T vwCl SLx l yX12_laysValue wsX12_laysValue ({ frames := 2, cells := 0, slots := 0, locals := 46 } : Room) D cA YM B Z [.ref (B + 0), .int (w3 v1)] M (hq_qv k) := by
  refine hq_meth (cc := cX12_laysValue) (maxL := 3) (ret := none) (own := RX12) hZ rfl (by decide +kernel) rfl (Nat.le_of_ble_eq_true rfl) ?_
  intro p e s m below meth c ls C hs hl
  have hx := C.1.1
  have hb := C.1.2.1
  unfold w_X12_laysValue at hw
  have hl : lv_has ls 3 [(0, .ref (B + 0)), (1, .int (w3 v1))] := hl
  refine lv_aload_n hx hb dX12_laysValue_0 rfl (lv_at hl 0 rfl) ?_
  refine hq_iconst C dX12_laysValue_1 ?_
  refine hq_bipush C dX12_laysValue_2 (by decide) ?_
  refine lv_aload_n hx hb dX12_laysValue_4 rfl (lv_at hl 0 rfl) ?_
  refine hq_getA (o := 0) C hs fX12_laysValue_20 tkM_0 (by decide) rfl dX12_laysValue_5 ?_
  refine lv_iload_n hx hb dX12_laysValue_8 rfl (lv_at hl 1 rfl) ?_
  obtain ⟨g1, hw⟩ := hw
  refine hq_iald (o := 2) C hs tkM_2 rv1 g1 dX12_laysValue_9 (fun g2 => ?_)
  refine hq_cV (n := 3) (ci := 12) (o := 0) (qc := (TX12, 57)) C hs (c_X12_laysNumber l C.2.2.2.2.1 0 (by decide : rg 0) 7 (by decide : rg 7) (M 2 v1.toNat) g2 _ _ hw) gX12_laysValue_X12_laysNumber rfl ⟨rfl, rfl⟩ (by decide +kernel) ⟨Nat.le_of_ble_eq_true rfl, Nat.le_of_ble_eq_true rfl⟩ tkM_0 (by decide) rfl rfl hl.1 rfl (Nat.le_of_ble_eq_true rfl) dX12_laysValue_10 (hq_kv (fun M3 H locs hw hs => ?_))
  refine hq_iconst C dX12_laysValue_13 ?_
  refine lv_istore_n (lv' := [(2, .int (w3 0)), (0, .ref (B + 0)), (1, .int (w3 v1))]) hx hb dX12_laysValue_14 rfl hl (by decide) rfl (fun ls hl => ?_)
  obtain ⟨n9, hw⟩ := hw
  refine cl_X12_laysValue_15 v1 rv1 C  n9 0 (by decide : rg 0) _ _ _ _ hw hs (lv_sub hl [1, 2, 0] rfl)
theorem iX12_sendsOrder_12 : ∀ w ∈ u_ws RX12 TX12 57, w ∈ wsX12_sendsOrder := fun w h => List.mem_cons_of_mem _ (List.mem_append_right _ h)
set_option maxRecDepth 20000 in
theorem fX12_sendsOrder_87 : hq_fl vwCl wsX12_sendsOrder RX12 87 12 42 true (.array .int) := ⟨RX12, TX12, 57, tyX12, rfl, by decide, iX12_sendsOrder_12, by decide +kernel, rfl, tyX12_ok 42 (by decide), tyX12_ok, nmX12⟩
set_option maxRecDepth 20000 in
theorem fX12_sendsOrder_90 : hq_fl vwCl wsX12_sendsOrder RX12 90 12 44 true (.array .int) := ⟨RX12, TX12, 57, tyX12, rfl, by decide, iX12_sendsOrder_12, by decide +kernel, rfl, tyX12_ok 44 (by decide), tyX12_ok, nmX12⟩
set_option maxRecDepth 20000 in
theorem fX12_sendsOrder_93 : hq_fl vwCl wsX12_sendsOrder RX12 93 12 45 true (.array .int) := ⟨RX12, TX12, 57, tyX12, rfl, by decide, iX12_sendsOrder_12, by decide +kernel, rfl, tyX12_ok 45 (by decide), tyX12_ok, nmX12⟩
set_option maxRecDepth 20000 in
theorem fX12_sendsOrder_96 : hq_fl vwCl wsX12_sendsOrder RX12 96 12 46 true (.array .int) := ⟨RX12, TX12, 57, tyX12, rfl, by decide, iX12_sendsOrder_12, by decide +kernel, rfl, tyX12_ok 46 (by decide), tyX12_ok, nmX12⟩
set_option maxRecDepth 20000 in
theorem fX12_sendsOrder_99 : hq_fl vwCl wsX12_sendsOrder RX12 99 12 48 true (.array .int) := ⟨RX12, TX12, 57, tyX12, rfl, by decide, iX12_sendsOrder_12, by decide +kernel, rfl, tyX12_ok 48 (by decide), tyX12_ok, nmX12⟩
set_option maxRecDepth 20000 in
theorem fX12_sendsOrder_267 : hq_fl vwCl wsX12_sendsOrder RX12 267 12 49 false .int := ⟨RX12, TX12, 57, tyX12, rfl, by decide, iX12_sendsOrder_12, by decide +kernel, rfl, tyX12_ok 49 (by decide), tyX12_ok, nmX12⟩
set_option maxRecDepth 20000 in
theorem fX12_sendsOrder_277 : hq_fl vwCl wsX12_sendsOrder RX12 277 12 43 false .int := ⟨RX12, TX12, 57, tyX12, rfl, by decide, iX12_sendsOrder_12, by decide +kernel, rfl, tyX12_ok 43 (by decide), tyX12_ok, nmX12⟩
set_option maxRecDepth 20000 in
theorem fX12_sendsOrder_280 : hq_fl vwCl wsX12_sendsOrder RX12 280 12 47 false .int := ⟨RX12, TX12, 57, tyX12, rfl, by decide, iX12_sendsOrder_12, by decide +kernel, rfl, tyX12_ok 47 (by decide), tyX12_ok, nmX12⟩
set_option maxHeartbeats 4000000 in
set_option maxRecDepth 100000 in
theorem cl_X12_sendsOrder_2 {p : Program} {l : Launch} {e : Env} {s : State} {m : MethodId} {args : Array Value} {below : List Frame} {meth : Method} {c : Code} {D : va_G} {cA : Nat → ClassId} {B : Nat} {Z : State → Prop} (u1 : Int) (u2 : Int) {k_33 : hq_M → Prop} {k : hq_M → Prop} (C : hq_C vwCl p m c cX12_sendsOrder 4 s args wsX12_sendsOrder RX12 meth none D cA (hq_in B YM.length) Z)
    (hk_33 : ∀ (M1 : hq_M) (H : Heap) (locs : List Loc) (ls : Array Slot), k_33 M1 → hq_S vwCl SLx D cA YM B s.heap M1 H locs → lv_has ls 4 [(0, .ref (B + 0)), (1, .int (w3 u1)), (2, .int (w3 u2))] → W p l e ({ frames := 0, cells := 0, slots := 0, locals := 0 } : Room) s m args below meth c H locs 0 0 (MQ below (hq_Q vwCl SLx D cA YM B (hq_qv k)) args s 0 0 (hq_in B YM.length)) (F0 m 33 ls [])) : ∀ (n : Nat) (v3 : Int) (rv3 : rg v3) (M : hq_M) (H : Heap) (locs : List Loc) (ls : Array Slot), l_X12_sendsOrder_2 k_33 k n v3 M → hq_S vwCl SLx D cA YM B s.heap M H locs → lv_has ls 4 [(0, .ref (B + 0)), (1, .int (w3 u1)), (2, .int (w3 u2)), (3, .int (w3 v3))] → W p l e ({ frames := 0, cells := 0, slots := 0, locals := 0 } : Room) s m args below meth c H locs 0 0 (MQ below (hq_Q vwCl SLx D cA YM B (hq_qv k)) args s 0 0 (hq_in B YM.length)) (F0 m 2 ls []) := by
  have hx := C.1.1
  have hb := C.1.2.1
  intro n
  induction n with
  | zero => intro v3 rv3 M H locs ls hw hs hl; exact hw.elim
  | succ n ih =>
    intro v3 rv3 M H locs ls hw hs hl
    unfold l_X12_sendsOrder_2 at hw
    refine lv_iload_n hx hb dX12_sendsOrder_2 rfl (lv_at hl 3 rfl) ?_
    refine lv_aload_n hx hb dX12_sendsOrder_3 rfl (lv_at hl 0 rfl) ?_
    refine hq_getI (o := 0) C hs fX12_sendsOrder_267 tkM_0 (by decide) rfl dX12_sendsOrder_4 (fun g1 => ?_)
    refine hq_icmp_ge (tgt := 33) C rv3 g1 dX12_sendsOrder_7 (by decide) (fun h => ?_) (fun h => ?_)
    · have hw := hw.1 h
      exact hk_33 _ _ _ _ hw hs (lv_sub hl [0, 1, 2] rfl)
    · have hw := hw.2 h
      refine lv_aload_n hx hb dX12_sendsOrder_10 rfl (lv_at hl 0 rfl) ?_
      refine hq_getA (o := 0) C hs fX12_sendsOrder_87 tkM_0 (by decide) rfl dX12_sendsOrder_11 ?_
      refine lv_aload_n hx hb dX12_sendsOrder_14 rfl (lv_at hl 0 rfl) ?_
      refine hq_getI (o := 0) C hs fX12_sendsOrder_277 tkM_0 (by decide) rfl dX12_sendsOrder_15 (fun g2 => ?_)
      refine lv_iload_n hx hb dX12_sendsOrder_18 rfl (lv_at hl 3 rfl) ?_
      obtain ⟨g3, hw⟩ := hw
      refine hq_iadd C dX12_sendsOrder_19 ?_
      refine lv_aload_n hx hb dX12_sendsOrder_20 rfl (lv_at hl 0 rfl) ?_
      refine hq_getA (o := 0) C hs fX12_sendsOrder_99 tkM_0 (by decide) rfl dX12_sendsOrder_21 ?_
      refine lv_iload_n hx hb dX12_sendsOrder_24 rfl (lv_at hl 3 rfl) ?_
      obtain ⟨g4, hw⟩ := hw
      refine hq_iald (o := 28) C hs tkM_28 rv3 g4 dX12_sendsOrder_25 (fun g5 => ?_)
      obtain ⟨g6, hw⟩ := hw
      refine hq_iast (o := 24) C hs tkM_24 g3 g6 g5 dX12_sendsOrder_26 (fun M7 eM7 H locs hs => ?_)
      have hw := hw M7 eM7
      obtain ⟨g9, hw⟩ := hw
      refine hq_iinc (k := 3) C dX12_sendsOrder_27 hl rfl (by decide) (fun x8 ex8 ls hl => ?_)
      have hw := hw x8 ex8
      have rx8 : rg x8 := by rw [ex8]; exact g9
      have hl : lv_has ls 4 [(3, .int (w3 x8)), (0, .ref (B + 0)), (1, .int (w3 u1)), (2, .int (w3 u2))] := hl
      refine hq_goto (tgt := 2) C dX12_sendsOrder_30 (by decide) ?_
      exact ih x8 rx8 _ _ _ _ hw hs (lv_sub hl [1, 2, 3, 0] rfl)
set_option maxHeartbeats 4000000 in
set_option maxRecDepth 100000 in
theorem c_X12_sendsOrder (l : Launch) {D : va_G} {cA : Nat → ClassId} {B : Nat} {Z : State → Prop} (hZ : hq_Zo Z (hq_in B YM.length)) (v1 : Int) (rv1 : rg v1) (v2 : Int) (rv2 : rg v2) (M : hq_M) (k : hq_M → Prop) (hw : w_X12_sendsOrder v1 v2 M k) : hq_T vwCl SLx l yX12_sendsOrder wsX12_sendsOrder ({ frames := 0, cells := 0, slots := 0, locals := 0 } : Room) D cA YM B Z [.ref (B + 0), .int (w3 v1), .int (w3 v2)] M (hq_qv k) := by
  refine hq_meth (cc := cX12_sendsOrder) (maxL := 4) (ret := none) (own := RX12) hZ rfl (by decide +kernel) rfl (Nat.le_of_ble_eq_true rfl) ?_
  intro p e s m below meth c ls C hs hl
  have hx := C.1.1
  have hb := C.1.2.1
  unfold w_X12_sendsOrder at hw
  have hl : lv_has ls 4 [(0, .ref (B + 0)), (1, .int (w3 v1)), (2, .int (w3 v2))] := hl
  refine hq_iconst C dX12_sendsOrder_0 ?_
  refine lv_istore_n (lv' := [(3, .int (w3 0)), (0, .ref (B + 0)), (1, .int (w3 v1)), (2, .int (w3 v2))]) hx hb dX12_sendsOrder_1 rfl hl (by decide) rfl (fun ls hl => ?_)
  obtain ⟨n9, hw⟩ := hw
  refine cl_X12_sendsOrder_2 v1 v2 C ?_ n9 0 (by decide : rg 0) _ _ _ _ hw hs (lv_sub hl [1, 2, 3, 0] rfl)
  · intro M1 H locs ls hw hs hl
    refine lv_aload_n hx hb dX12_sendsOrder_33 rfl (lv_at hl 0 rfl) ?_
    refine lv_dup hx hb dX12_sendsOrder_34 rfl ?_
    refine hq_getI (o := 0) C hs fX12_sendsOrder_277 tkM_0 (by decide) rfl dX12_sendsOrder_35 (fun g2 => ?_)
    refine lv_aload_n hx hb dX12_sendsOrder_38 rfl (lv_at hl 0 rfl) ?_
    refine hq_getI (o := 0) C hs fX12_sendsOrder_267 tkM_0 (by decide) rfl dX12_sendsOrder_39 (fun g3 => ?_)
    obtain ⟨g4, hw⟩ := hw
    refine hq_iadd C dX12_sendsOrder_42 ?_
    refine hq_putI (o := 0) C hs fX12_sendsOrder_277 tkM_0 (by decide) rfl g4 dX12_sendsOrder_43 (fun M5 eM5 H locs hs => ?_)
    have hw := hw M5 eM5
    refine lv_aload_n hx hb dX12_sendsOrder_46 rfl (lv_at hl 0 rfl) ?_
    refine hq_getA (o := 0) C hs fX12_sendsOrder_90 tkM_0 (by decide) rfl dX12_sendsOrder_47 ?_
    refine lv_aload_n hx hb dX12_sendsOrder_50 rfl (lv_at hl 0 rfl) ?_
    refine hq_getI (o := 0) C hs fX12_sendsOrder_280 tkM_0 (by decide) rfl dX12_sendsOrder_51 (fun g6 => ?_)
    refine lv_iload_n hx hb dX12_sendsOrder_54 rfl (lv_at hl 1 rfl) ?_
    obtain ⟨g7, hw⟩ := hw
    refine hq_iast (o := 25) C hs tkM_25 g6 g7 rv1 dX12_sendsOrder_55 (fun M8 eM8 H locs hs => ?_)
    have hw := hw M8 eM8
    refine lv_aload_n hx hb dX12_sendsOrder_56 rfl (lv_at hl 0 rfl) ?_
    refine hq_getA (o := 0) C hs fX12_sendsOrder_96 tkM_0 (by decide) rfl dX12_sendsOrder_57 ?_
    refine lv_aload_n hx hb dX12_sendsOrder_60 rfl (lv_at hl 0 rfl) ?_
    refine hq_getI (o := 0) C hs fX12_sendsOrder_280 tkM_0 (by decide) rfl dX12_sendsOrder_61 (fun g9 => ?_)
    refine lv_iload_n hx hb dX12_sendsOrder_64 rfl (lv_at hl 2 rfl) ?_
    obtain ⟨g10, hw⟩ := hw
    refine hq_iast (o := 27) C hs tkM_27 g9 g10 rv2 dX12_sendsOrder_65 (fun M11 eM11 H locs hs => ?_)
    have hw := hw M11 eM11
    refine lv_aload_n hx hb dX12_sendsOrder_66 rfl (lv_at hl 0 rfl) ?_
    refine hq_getA (o := 0) C hs fX12_sendsOrder_93 tkM_0 (by decide) rfl dX12_sendsOrder_67 ?_
    refine lv_aload_n hx hb dX12_sendsOrder_70 rfl (lv_at hl 0 rfl) ?_
    refine hq_getI (o := 0) C hs fX12_sendsOrder_280 tkM_0 (by decide) rfl dX12_sendsOrder_71 (fun g12 => ?_)
    refine lv_aload_n hx hb dX12_sendsOrder_74 rfl (lv_at hl 0 rfl) ?_
    refine hq_getI (o := 0) C hs fX12_sendsOrder_267 tkM_0 (by decide) rfl dX12_sendsOrder_75 (fun g13 => ?_)
    obtain ⟨g14, hw⟩ := hw
    refine hq_iast (o := 26) C hs tkM_26 g12 g14 g13 dX12_sendsOrder_78 (fun M15 eM15 H locs hs => ?_)
    have hw := hw M15 eM15
    refine lv_aload_n hx hb dX12_sendsOrder_79 rfl (lv_at hl 0 rfl) ?_
    refine lv_dup hx hb dX12_sendsOrder_80 rfl ?_
    refine hq_getI (o := 0) C hs fX12_sendsOrder_280 tkM_0 (by decide) rfl dX12_sendsOrder_81 (fun g16 => ?_)
    refine hq_iconst C dX12_sendsOrder_84 ?_
    obtain ⟨g17, hw⟩ := hw
    refine hq_iadd C dX12_sendsOrder_85 ?_
    refine hq_putI (o := 0) C hs fX12_sendsOrder_280 tkM_0 (by decide) rfl g17 dX12_sendsOrder_86 (fun M18 eM18 H locs hs => ?_)
    have hw := hw M18 eM18
    exact hq_vret C hs hw dX12_sendsOrder_89
theorem iX12_isOverfull_12 : ∀ w ∈ u_ws RX12 TX12 57, w ∈ wsX12_isOverfull := fun w h => List.mem_cons_of_mem _ (List.mem_append_right _ h)
set_option maxRecDepth 20000 in
theorem fX12_isOverfull_267 : hq_fl vwCl wsX12_isOverfull RX12 267 12 49 false .int := ⟨RX12, TX12, 57, tyX12, rfl, by decide, iX12_isOverfull_12, by decide +kernel, rfl, tyX12_ok 49 (by decide), tyX12_ok, nmX12⟩
set_option maxRecDepth 20000 in
theorem fX12_isOverfull_277 : hq_fl vwCl wsX12_isOverfull RX12 277 12 43 false .int := ⟨RX12, TX12, 57, tyX12, rfl, by decide, iX12_isOverfull_12, by decide +kernel, rfl, tyX12_ok 43 (by decide), tyX12_ok, nmX12⟩
set_option maxHeartbeats 4000000 in
set_option maxRecDepth 100000 in
theorem c_X12_isOverfull (l : Launch) {D : va_G} {cA : Nat → ClassId} {B : Nat} {Z : State → Prop} (hZ : hq_Zo Z (hq_in B YM.length))  (M : hq_M) (k : Int → Prop) (hw : w_X12_isOverfull  M k) : hq_T vwCl SLx l yX12_isOverfull wsX12_isOverfull ({ frames := 0, cells := 0, slots := 0, locals := 0 } : Room) D cA YM B Z [.ref (B + 0)] M (hq_qz (fun z M' => M' = M ∧ k z)) := by
  refine hq_meth (cc := cX12_isOverfull) (maxL := 1) (ret := (some .boolean)) (own := RX12) hZ rfl (by decide +kernel) rfl (Nat.le_of_ble_eq_true rfl) ?_
  intro p e s m below meth c ls C hs hl
  have hx := C.1.1
  have hb := C.1.2.1
  unfold w_X12_isOverfull at hw
  have hl : lv_has ls 1 [(0, .ref (B + 0))] := hl
  refine lv_aload_n hx hb dX12_isOverfull_0 rfl (lv_at hl 0 rfl) ?_
  refine hq_getI (o := 0) C hs fX12_isOverfull_277 tkM_0 (by decide) rfl dX12_isOverfull_1 (fun g1 => ?_)
  refine lv_aload_n hx hb dX12_isOverfull_4 rfl (lv_at hl 0 rfl) ?_
  refine hq_getI (o := 0) C hs fX12_isOverfull_267 tkM_0 (by decide) rfl dX12_isOverfull_5 (fun g2 => ?_)
  obtain ⟨g3, hw⟩ := hw
  refine hq_iadd C dX12_isOverfull_8 ?_
  refine hq_sipush C dX12_isOverfull_9 (by decide) ?_
  refine hq_icmp_le (tgt := 19) C g3 (by decide : rg 200) dX12_isOverfull_12 (by decide) (fun h => ?_) (fun h => ?_)
  · have hw := hw.1 h
    refine hq_iconst C dX12_isOverfull_19 ?_
    exact hq_zret C hs (by decide) ⟨rfl, hw⟩ dX12_isOverfull_20
  · have hw := hw.2 h
    refine hq_iconst C dX12_isOverfull_15 ?_
    refine hq_goto (tgt := 20) C dX12_isOverfull_16 (by decide) ?_
    exact hq_zret C hs (by decide) ⟨rfl, hw⟩ dX12_isOverfull_20
theorem iX12_latest_12 : ∀ w ∈ u_ws RX12 TX12 57, w ∈ wsX12_latest := fun w h => List.mem_cons_of_mem _ (List.mem_append_right _ h)
set_option maxRecDepth 20000 in
theorem fX12_latest_32 : hq_fl vwCl wsX12_latest RX12 32 12 18 true (.array .int) := ⟨RX12, TX12, 57, tyX12, rfl, by decide, iX12_latest_12, by decide +kernel, rfl, tyX12_ok 18 (by decide), tyX12_ok, nmX12⟩
set_option maxRecDepth 20000 in
theorem fX12_latest_35 : hq_fl vwCl wsX12_latest RX12 35 12 19 true (.array .int) := ⟨RX12, TX12, 57, tyX12, rfl, by decide, iX12_latest_12, by decide +kernel, rfl, tyX12_ok 19 (by decide), tyX12_ok, nmX12⟩
set_option maxHeartbeats 4000000 in
set_option maxRecDepth 100000 in
theorem cb_X12_latest_60 {p : Program} {l : Launch} {e : Env} {s : State} {m : MethodId} {args : Array Value} {below : List Frame} {meth : Method} {c : Code} {D : va_G} {cA : Nat → ClassId} {B : Nat} {Z : State → Prop} (v1 : Int) (rv1 : rg v1) (v3 : Int) (rv3 : rb v3) (v4 : Int) (rv4 : rg v4) {k_14 : Int → Prop} {k : Int → Prop} {M : hq_M} {H : Heap} {locs : List Loc} {ls : Array Slot} (C : hq_C vwCl p m c cX12_latest 6 s args wsX12_latest RX12 meth (some .int) D cA (hq_in B YM.length) Z)
    (hw : b_X12_latest_60 v1 v3 v4 k_14 k M) (hs : hq_S vwCl SLx D cA YM B s.heap M H locs) (hl : lv_has ls 6 [(0, .ref (B + 0)), (1, .int (w3 v1)), (3, .int (w3 v3)), (4, .int (w3 v4))])
    (hk_14 : ∀ (y4 : Int) (ry4 : rg y4) (H : Heap) (locs : List Loc) (ls : Array Slot), k_14 y4 → hq_S vwCl SLx D cA YM B s.heap M H locs → lv_has ls 6 [(0, .ref (B + 0)), (1, .int (w3 v1)), (3, .int (w3 v3)), (4, .int (w3 y4))] → W p l e ({ frames := 1, cells := 0, slots := 0, locals := 24 } : Room) s m args below meth c H locs 0 0 (MQ below (hq_Q vwCl SLx D cA YM B (hq_qi (fun z M' => M' = M ∧ k z))) args s 0 0 (hq_in B YM.length)) (F0 m 14 ls [])) : W p l e ({ frames := 1, cells := 0, slots := 0, locals := 24 } : Room) s m args below meth c H locs 0 0 (MQ below (hq_Q vwCl SLx D cA YM B (hq_qi (fun z M' => M' = M ∧ k z))) args s 0 0 (hq_in B YM.length)) (F0 m 60 ls []) := by
  have hx := C.1.1
  have hb := C.1.2.1
  unfold b_X12_latest_60 at hw
  obtain ⟨g2, hw⟩ := hw
  refine hq_iinc (k := 3) C dX12_latest_60 hl rfl (by decide) (fun x1 ex1 ls hl => ?_)
  have hw := hw x1 ex1
  have rx1 : rg x1 := by rw [ex1]; exact g2
  have hl : lv_has ls 6 [(4, .int (w3 x1)), (0, .ref (B + 0)), (1, .int (w3 v1)), (3, .int (w3 v3))] := hl
  refine hq_goto (tgt := 14) C dX12_latest_63 (by decide) ?_
  exact hk_14 x1 rx1 _ _ _ hw hs (lv_sub hl [1, 2, 3, 0] rfl)
set_option maxHeartbeats 4000000 in
set_option maxRecDepth 100000 in
theorem cl_X12_latest_14 {p : Program} {l : Launch} {e : Env} {s : State} {m : MethodId} {args : Array Value} {below : List Frame} {meth : Method} {c : Code} {D : va_G} {cA : Nat → ClassId} {B : Nat} {Z : State → Prop} (v1 : Int) (rv1 : rg v1) (v3 : Int) (rv3 : rb v3)  {k : Int → Prop} {M : hq_M} (C : hq_C vwCl p m c cX12_latest 6 s args wsX12_latest RX12 meth (some .int) D cA (hq_in B YM.length) Z)
     : ∀ (n : Nat) (v4 : Int) (rv4 : rg v4) (H : Heap) (locs : List Loc) (ls : Array Slot), l_X12_latest_14 v1 v3 k M n v4 → hq_S vwCl SLx D cA YM B s.heap M H locs → lv_has ls 6 [(0, .ref (B + 0)), (1, .int (w3 v1)), (3, .int (w3 v3)), (4, .int (w3 v4))] → W p l e ({ frames := 1, cells := 0, slots := 0, locals := 24 } : Room) s m args below meth c H locs 0 0 (MQ below (hq_Q vwCl SLx D cA YM B (hq_qi (fun z M' => M' = M ∧ k z))) args s 0 0 (hq_in B YM.length)) (F0 m 14 ls []) := by
  have hx := C.1.1
  have hb := C.1.2.1
  intro n
  induction n with
  | zero => intro v4 rv4 H locs ls hw hs hl; exact hw.elim
  | succ n ih =>
    intro v4 rv4 H locs ls hw hs hl
    unfold l_X12_latest_14 at hw
    refine lv_iload hx hb dX12_latest_14 (lv_at hl 3 rfl) ?_
    refine lv_aload_n hx hb dX12_latest_16 rfl (lv_at hl 0 rfl) ?_
    refine hq_getA (o := 0) C hs fX12_latest_35 tkM_0 (by decide) rfl dX12_latest_17 ?_
    refine hq_iconst C dX12_latest_20 ?_
    obtain ⟨g1, hw⟩ := hw
    refine hq_iald (o := 7) C hs tkM_7 (by decide : rg 0) g1 dX12_latest_21 (fun g2 => ?_)
    refine hq_icmp_lt (tgt := 66) C rv4 g2 dX12_latest_22 (by decide) (fun h => ?_) (fun h => ?_)
    · have hw := hw.1 h
      refine hq_bipush C dX12_latest_66 (by decide) ?_
      exact hq_iret C hs (by decide : rg (-9)) ⟨rfl, hw⟩ dX12_latest_68
    · have hw := hw.2 h
      refine lv_aload_n hx hb dX12_latest_25 rfl (lv_at hl 0 rfl) ?_
      refine hq_iconst C dX12_latest_26 ?_
      refine lv_iload hx hb dX12_latest_27 (lv_at hl 3 rfl) ?_
      refine hq_cV (n := 2) (ci := 12) (o := 0) (qc := (TX12, 57)) C hs (c_X12_fieldAt l C.2.2.2.2.1 0 (by decide : rg 0) v4 rv4 _ _ hw) gX12_latest_X12_fieldAt rfl ⟨rfl, rfl⟩ (by decide +kernel) ⟨Nat.le_of_ble_eq_true rfl, Nat.le_of_ble_eq_true rfl⟩ tkM_0 (by decide) rfl rfl hl.1 rfl (Nat.le_of_ble_eq_true rfl) dX12_latest_29 (hq_ki (fun x3 M9 H locs rx3 hw hs => ?_))
      obtain ⟨e9, hw⟩ := hw; rw [e9] at hs
      refine lv_istore (lv' := [(5, .int (w3 x3)), (0, .ref (B + 0)), (1, .int (w3 v1)), (3, .int (w3 v3)), (4, .int (w3 v4))]) hx hb dX12_latest_32 hl (by decide) rfl (fun ls hl => ?_)
      refine lv_iload_n hx hb dX12_latest_34 rfl (lv_at hl 3 rfl) ?_
      refine hq_if_eq (tgt := 47) C (rb_rg rv3) dX12_latest_35 (by decide) (fun h => ?_) (fun h => ?_)
      · have hw := hw.1 h
        refine lv_aload_n hx hb dX12_latest_47 rfl (lv_at hl 1 rfl) ?_
        refine lv_iload hx hb dX12_latest_48 (lv_at hl 0 rfl) ?_
        refine lv_iload_n hx hb dX12_latest_50 rfl (lv_at hl 2 rfl) ?_
        refine hq_cV (n := 2) (ci := 12) (o := 0) (qc := (TX12, 57)) C hs (c_X12_areOfOneName l C.2.2.2.2.1 x3 rx3 v1 rv1 _ _ hw) gX12_latest_X12_areOfOneName rfl ⟨rfl, rfl⟩ (by decide +kernel) ⟨Nat.le_of_ble_eq_true rfl, Nat.le_of_ble_eq_true rfl⟩ tkM_0 (by decide) rfl rfl hl.1 rfl (Nat.le_of_ble_eq_true rfl) dX12_latest_51 (hq_kz (fun x4 M9 H locs rx4 hw hs => ?_))
        obtain ⟨e9, hw⟩ := hw; rw [e9] at hs
        refine hq_if_eq (tgt := 60) C (rb_rg rx4) dX12_latest_54 (by decide) (fun h => ?_) (fun h => ?_)
        · have hw := hw.1 h
          refine cb_X12_latest_60 v1 rv1 v3 rv3 v4 rv4 C hw hs (lv_sub hl [1, 2, 3, 4] rfl) ?_
          · intro y4 ry4 H locs ls hw hs hl
            exact ih y4 ry4 _ _ _ hw hs (lv_sub hl [0, 1, 2, 3] rfl)
        · have hw := hw.2 h
          refine lv_iload hx hb dX12_latest_57 (lv_at hl 4 rfl) ?_
          exact hq_iret C hs rv4 ⟨rfl, hw⟩ dX12_latest_59
      · have hw := hw.2 h
        refine lv_iload hx hb dX12_latest_38 (lv_at hl 0 rfl) ?_
        refine lv_iload_n hx hb dX12_latest_40 rfl (lv_at hl 2 rfl) ?_
        refine hq_icmp_ne (tgt := 60) C rx3 rv1 dX12_latest_41 (by decide) (fun h => ?_) (fun h => ?_)
        · have hw := hw.1 h
          refine cb_X12_latest_60 v1 rv1 v3 rv3 v4 rv4 C hw hs (lv_sub hl [1, 2, 3, 4] rfl) ?_
          · intro y4 ry4 H locs ls hw hs hl
            exact ih y4 ry4 _ _ _ hw hs (lv_sub hl [0, 1, 2, 3] rfl)
        · have hw := hw.2 h
          refine hq_goto (tgt := 57) C dX12_latest_44 (by decide) ?_
          refine lv_iload hx hb dX12_latest_57 (lv_at hl 4 rfl) ?_
          exact hq_iret C hs rv4 ⟨rfl, hw⟩ dX12_latest_59
set_option maxHeartbeats 4000000 in
set_option maxRecDepth 100000 in
theorem c_X12_latest (l : Launch) {D : va_G} {cA : Nat → ClassId} {B : Nat} {Z : State → Prop} (hZ : hq_Zo Z (hq_in B YM.length)) (v1 : Int) (rv1 : rg v1) (v2 : Int) (rv2 : rg v2) (v3 : Int) (rv3 : rb v3) (M : hq_M) (k : Int → Prop) (hw : w_X12_latest v1 v2 v3 M k) : hq_T vwCl SLx l yX12_latest wsX12_latest ({ frames := 1, cells := 0, slots := 0, locals := 24 } : Room) D cA YM B Z [.ref (B + 0), .int (w3 v1), .int (w3 v2), .int (w3 v3)] M (hq_qi (fun z M' => M' = M ∧ k z)) := by
  refine hq_meth (cc := cX12_latest) (maxL := 6) (ret := (some .int)) (own := RX12) hZ rfl (by decide +kernel) rfl (Nat.le_of_ble_eq_true rfl) ?_
  intro p e s m below meth c ls C hs hl
  have hx := C.1.1
  have hb := C.1.2.1
  unfold w_X12_latest at hw
  have hl : lv_has ls 6 [(0, .ref (B + 0)), (1, .int (w3 v1)), (2, .int (w3 v2)), (3, .int (w3 v3))] := hl
  refine lv_iload_n hx hb dX12_latest_0 rfl (lv_at hl 2 rfl) ?_
  refine lv_aload_n hx hb dX12_latest_1 rfl (lv_at hl 0 rfl) ?_
  refine hq_getA (o := 0) C hs fX12_latest_32 tkM_0 (by decide) rfl dX12_latest_2 ?_
  refine hq_iconst C dX12_latest_5 ?_
  obtain ⟨g1, hw⟩ := hw
  refine hq_iald (o := 6) C hs tkM_6 (by decide : rg 0) g1 dX12_latest_6 (fun g2 => ?_)
  refine hq_cS (n := 2) C hs (c_X12_lesser l C.2.2.2.2.1 v2 rv2 (M 6 0) g2 _ _ hw) gX12_latest_X12_lesser rfl ⟨rfl, rfl⟩ (by decide +kernel) ⟨Nat.le_of_ble_eq_true rfl, Nat.le_of_ble_eq_true rfl⟩ rfl hl.1 rfl (Nat.le_of_ble_eq_true rfl) dX12_latest_7 (hq_ki (fun x3 M9 H locs rx3 hw hs => ?_))
  obtain ⟨e9, hw⟩ := hw; rw [e9] at hs
  refine hq_iconst C dX12_latest_10 ?_
  obtain ⟨g4, hw⟩ := hw
  refine hq_isub C dX12_latest_11 ?_
  refine hq_nm (fun x5 ex5 => ?_)
  have hw := hw x5 ex5
  have rx5 : rg x5 := by rw [ex5]; exact g4
  refine lv_istore (lv' := [(4, .int (w3 x5)), (0, .ref (B + 0)), (1, .int (w3 v1)), (2, .int (w3 v2)), (3, .int (w3 v3))]) hx hb dX12_latest_12 hl (by decide) rfl (fun ls hl => ?_)
  obtain ⟨n9, hw⟩ := hw
  refine cl_X12_latest_14 v1 rv1 v3 rv3 C  n9 x5 rx5 _ _ _ hw hs (lv_sub hl [1, 2, 4, 0] rfl)
theorem iX12_inserted_12 : ∀ w ∈ u_ws RX12 TX12 57, w ∈ wsX12_inserted := fun w h => List.mem_cons_of_mem _ (List.mem_append_right _ h)
set_option maxRecDepth 20000 in
theorem fX12_inserted_32 : hq_fl vwCl wsX12_inserted RX12 32 12 18 true (.array .int) := ⟨RX12, TX12, 57, tyX12, rfl, by decide, iX12_inserted_12, by decide +kernel, rfl, tyX12_ok 18 (by decide), tyX12_ok, nmX12⟩
set_option maxRecDepth 20000 in
theorem fX12_inserted_38 : hq_fl vwCl wsX12_inserted RX12 38 12 20 true (.array .int) := ⟨RX12, TX12, 57, tyX12, rfl, by decide, iX12_inserted_12, by decide +kernel, rfl, tyX12_ok 20 (by decide), tyX12_ok, nmX12⟩
set_option maxHeartbeats 4000000 in
set_option maxRecDepth 100000 in
theorem c_X12_inserted (l : Launch) {D : va_G} {cA : Nat → ClassId} {B : Nat} {Z : State → Prop} (hZ : hq_Zo Z (hq_in B YM.length)) (v1 : Int) (rv1 : rg v1) (M : hq_M) (k : Int → hq_M → Prop) (hw : w_X12_inserted v1 M k) : hq_T vwCl SLx l yX12_inserted wsX12_inserted ({ frames := 4, cells := 0, slots := 0, locals := 92 } : Room) D cA YM B Z [.ref (B + 0), .int (w3 v1)] M (hq_qi k) := by
  refine hq_meth (cc := cX12_inserted) (maxL := 2) (ret := (some .int)) (own := RX12) hZ rfl (by decide +kernel) rfl (Nat.le_of_ble_eq_true rfl) ?_
  intro p e s m below meth c ls C hs hl
  have hx := C.1.1
  have hb := C.1.2.1
  unfold w_X12_inserted at hw
  have hl : lv_has ls 2 [(0, .ref (B + 0)), (1, .int (w3 v1))] := hl
  refine lv_aload_n hx hb dX12_inserted_0 rfl (lv_at hl 0 rfl) ?_
  refine lv_aload_n hx hb dX12_inserted_1 rfl (lv_at hl 0 rfl) ?_
  refine lv_iload_n hx hb dX12_inserted_2 rfl (lv_at hl 1 rfl) ?_
  refine hq_cV (n := 1) (ci := 12) (o := 0) (qc := (TX12, 57)) C hs (c_X12_sizeOf l C.2.2.2.2.1 v1 rv1 _ _ hw) gX12_inserted_X12_sizeOf rfl ⟨rfl, rfl⟩ (by decide +kernel) ⟨Nat.le_of_ble_eq_true rfl, Nat.le_of_ble_eq_true rfl⟩ tkM_0 (by decide) rfl rfl hl.1 rfl (Nat.le_of_ble_eq_true rfl) dX12_inserted_3 (hq_ki (fun x1 M9 H locs rx1 hw hs => ?_))
  obtain ⟨e9, hw⟩ := hw; rw [e9] at hs
  refine lv_aload_n hx hb dX12_inserted_6 rfl (lv_at hl 0 rfl) ?_
  refine hq_getA (o := 0) C hs fX12_inserted_38 tkM_0 (by decide) rfl dX12_inserted_7 ?_
  refine hq_iconst C dX12_inserted_10 ?_
  obtain ⟨g2, hw⟩ := hw
  refine hq_iald (o := 8) C hs tkM_8 (by decide : rg 0) g2 dX12_inserted_11 (fun g3 => ?_)
  refine hq_cV (n := 2) (ci := 12) (o := 0) (qc := (TX12, 57)) C hs (c_X12_canHave l C.2.2.2.2.1 x1 rx1 (M 8 0) g3 _ _ hw) gX12_inserted_X12_canHave rfl ⟨rfl, rfl⟩ (by decide +kernel) ⟨Nat.le_of_ble_eq_true rfl, Nat.le_of_ble_eq_true rfl⟩ tkM_0 (by decide) rfl rfl hl.1 rfl (Nat.le_of_ble_eq_true rfl) dX12_inserted_12 (hq_kz (fun x4 M9 H locs rx4 hw hs => ?_))
  obtain ⟨e9, hw⟩ := hw; rw [e9] at hs
  refine hq_if_ne (tgt := 21) C (rb_rg rx4) dX12_inserted_15 (by decide) (fun h => ?_) (fun h => ?_)
  · have hw := hw.1 h
    refine lv_aload_n hx hb dX12_inserted_21 rfl (lv_at hl 0 rfl) ?_
    refine hq_cV (n := 0) (ci := 12) (o := 0) (qc := (TX12, 57)) C hs (c_X12_isOverfull l C.2.2.2.2.1 _ _ hw) gX12_inserted_X12_isOverfull rfl ⟨rfl, rfl⟩ (by decide +kernel) ⟨Nat.le_of_ble_eq_true rfl, Nat.le_of_ble_eq_true rfl⟩ tkM_0 (by decide) rfl rfl hl.1 rfl (Nat.le_of_ble_eq_true rfl) dX12_inserted_22 (hq_kz (fun x5 M9 H locs rx5 hw hs => ?_))
    obtain ⟨e9, hw⟩ := hw; rw [e9] at hs
    refine hq_if_eq (tgt := 31) C (rb_rg rx5) dX12_inserted_25 (by decide) (fun h => ?_) (fun h => ?_)
    · have hw := hw.1 h
      refine lv_aload_n hx hb dX12_inserted_31 rfl (lv_at hl 0 rfl) ?_
      refine hq_iconst C dX12_inserted_32 ?_
      refine lv_iload_n hx hb dX12_inserted_33 rfl (lv_at hl 1 rfl) ?_
      refine hq_cV (n := 2) (ci := 12) (o := 0) (qc := (TX12, 57)) C hs (c_X12_comes l C.2.2.2.2.1 0 (by decide : rg 0) v1 rv1 _ _ hw) gX12_inserted_X12_comes rfl ⟨rfl, rfl⟩ (by decide +kernel) ⟨Nat.le_of_ble_eq_true rfl, Nat.le_of_ble_eq_true rfl⟩ tkM_0 (by decide) rfl rfl hl.1 rfl (Nat.le_of_ble_eq_true rfl) dX12_inserted_34 (hq_kv (fun M6 H locs hw hs => ?_))
      refine lv_aload_n hx hb dX12_inserted_37 rfl (lv_at hl 0 rfl) ?_
      refine hq_iconst C dX12_inserted_38 ?_
      refine lv_iload_n hx hb dX12_inserted_39 rfl (lv_at hl 1 rfl) ?_
      refine hq_cV (n := 2) (ci := 12) (o := 0) (qc := (TX12, 57)) C hs (c_X12_sendsOrder l C.2.2.2.2.1 1 (by decide : rg 1) v1 rv1 _ _ hw) gX12_inserted_X12_sendsOrder rfl ⟨rfl, rfl⟩ (by decide +kernel) ⟨Nat.le_of_ble_eq_true rfl, Nat.le_of_ble_eq_true rfl⟩ tkM_0 (by decide) rfl rfl hl.1 rfl (Nat.le_of_ble_eq_true rfl) dX12_inserted_40 (hq_kv (fun M7 H locs hw hs => ?_))
      refine lv_aload_n hx hb dX12_inserted_43 rfl (lv_at hl 0 rfl) ?_
      refine hq_getA (o := 0) C hs fX12_inserted_32 tkM_0 (by decide) rfl dX12_inserted_44 ?_
      refine hq_iconst C dX12_inserted_47 ?_
      obtain ⟨g8, hw⟩ := hw
      refine hq_iald (o := 6) C hs tkM_6 (by decide : rg 0) g8 dX12_inserted_48 (fun g9 => ?_)
      refine hq_iconst C dX12_inserted_49 ?_
      obtain ⟨g10, hw⟩ := hw
      refine hq_isub C dX12_inserted_50 ?_
      exact hq_iret C hs g10 hw dX12_inserted_51
    · have hw := hw.2 h
      refine hq_bipush C dX12_inserted_28 (by decide) ?_
      exact hq_iret C hs (by decide : rg (-3)) hw dX12_inserted_30
  · have hw := hw.2 h
    refine hq_bipush C dX12_inserted_18 (by decide) ?_
    exact hq_iret C hs (by decide : rg (-2)) hw dX12_inserted_20
theorem iX12_insertsField_12 : ∀ w ∈ u_ws RX12 TX12 57, w ∈ wsX12_insertsField := fun w h => List.mem_cons_of_mem _ (List.mem_append_right _ h)
set_option maxRecDepth 20000 in
theorem fX12_insertsField_16 : hq_fl vwCl wsX12_insertsField RX12 16 12 4 true (.array .int) := ⟨RX12, TX12, 57, tyX12, rfl, by decide, iX12_insertsField_12, by decide +kernel, rfl, tyX12_ok 4 (by decide), tyX12_ok, nmX12⟩
set_option maxRecDepth 20000 in
theorem fX12_insertsField_32 : hq_fl vwCl wsX12_insertsField RX12 32 12 18 true (.array .int) := ⟨RX12, TX12, 57, tyX12, rfl, by decide, iX12_insertsField_12, by decide +kernel, rfl, tyX12_ok 18 (by decide), tyX12_ok, nmX12⟩
set_option maxRecDepth 20000 in
theorem fX12_insertsField_267 : hq_fl vwCl wsX12_insertsField RX12 267 12 49 false .int := ⟨RX12, TX12, 57, tyX12, rfl, by decide, iX12_insertsField_12, by decide +kernel, rfl, tyX12_ok 49 (by decide), tyX12_ok, nmX12⟩
set_option maxHeartbeats 4000000 in
set_option maxRecDepth 100000 in
theorem cb_X12_insertsField_90 {p : Program} {l : Launch} {e : Env} {s : State} {m : MethodId} {args : Array Value} {below : List Frame} {meth : Method} {c : Code} {D : va_G} {cA : Nat → ClassId} {B : Nat} {Z : State → Prop} (v1 : Int) (rv1 : rg v1)  {k : Int → hq_M → Prop} {M : hq_M} {H : Heap} {locs : List Loc} {ls : Array Slot} (C : hq_C vwCl p m c cX12_insertsField 4 s args wsX12_insertsField RX12 meth (some .int) D cA (hq_in B YM.length) Z)
    (hw : b_X12_insertsField_90 v1 k M) (hs : hq_S vwCl SLx D cA YM B s.heap M H locs) (hl : lv_has ls 4 [(0, .ref (B + 0)), (1, .int (w3 v1))])
     : W p l e ({ frames := 5, cells := 0, slots := 0, locals := 113 } : Room) s m args below meth c H locs 0 0 (MQ below (hq_Q vwCl SLx D cA YM B (hq_qi k)) args s 0 0 (hq_in B YM.length)) (F0 m 90 ls []) := by
  have hx := C.1.1
  have hb := C.1.2.1
  unfold b_X12_insertsField_90 at hw
  refine lv_aload_n hx hb dX12_insertsField_90 rfl (lv_at hl 0 rfl) ?_
  refine lv_iload_n hx hb dX12_insertsField_91 rfl (lv_at hl 1 rfl) ?_
  refine hq_cV (n := 1) (ci := 12) (o := 0) (qc := (TX12, 57)) C hs (c_X12_laysValue l C.2.2.2.2.1 v1 rv1 _ _ hw) gX12_insertsField_X12_laysValue rfl ⟨rfl, rfl⟩ (by decide +kernel) ⟨Nat.le_of_ble_eq_true rfl, Nat.le_of_ble_eq_true rfl⟩ tkM_0 (by decide) rfl rfl hl.1 rfl (Nat.le_of_ble_eq_true rfl) dX12_insertsField_92 (hq_kv (fun M1 H locs hw hs => ?_))
  refine lv_aload_n hx hb dX12_insertsField_95 rfl (lv_at hl 0 rfl) ?_
  refine lv_iload_n hx hb dX12_insertsField_96 rfl (lv_at hl 1 rfl) ?_
  refine hq_cV (n := 1) (ci := 12) (o := 0) (qc := (TX12, 57)) C hs (c_X12_inserted l C.2.2.2.2.1 v1 rv1 _ _ hw) gX12_insertsField_X12_inserted rfl ⟨rfl, rfl⟩ (by decide +kernel) ⟨Nat.le_of_ble_eq_true rfl, Nat.le_of_ble_eq_true rfl⟩ tkM_0 (by decide) rfl rfl hl.1 rfl (Nat.le_of_ble_eq_true rfl) dX12_insertsField_97 (hq_ki (fun x3 M2 H locs rx3 hw hs => ?_))
  exact hq_iret C hs rx3 hw dX12_insertsField_100
set_option maxHeartbeats 4000000 in
set_option maxRecDepth 100000 in
theorem c_X12_insertsField (l : Launch) {D : va_G} {cA : Nat → ClassId} {B : Nat} {Z : State → Prop} (hZ : hq_Zo Z (hq_in B YM.length)) (v1 : Int) (rv1 : rg v1) (M : hq_M) (k : Int → hq_M → Prop) (hw : w_X12_insertsField v1 M k) : hq_T vwCl SLx l yX12_insertsField wsX12_insertsField ({ frames := 5, cells := 0, slots := 0, locals := 113 } : Room) D cA YM B Z [.ref (B + 0), .int (w3 v1)] M (hq_qi k) := by
  refine hq_meth (cc := cX12_insertsField) (maxL := 4) (ret := (some .int)) (own := RX12) hZ rfl (by decide +kernel) rfl (Nat.le_of_ble_eq_true rfl) ?_
  intro p e s m below meth c ls C hs hl
  have hx := C.1.1
  have hb := C.1.2.1
  unfold w_X12_insertsField at hw
  have hl : lv_has ls 4 [(0, .ref (B + 0)), (1, .int (w3 v1))] := hl
  refine lv_aload_n hx hb dX12_insertsField_0 rfl (lv_at hl 0 rfl) ?_
  refine hq_iconst C dX12_insertsField_1 ?_
  refine hq_putI (o := 0) C hs fX12_insertsField_267 tkM_0 (by decide) rfl (by decide : rg 0) dX12_insertsField_2 (fun M1 eM1 H locs hs => ?_)
  have hw := hw M1 eM1
  refine lv_aload_n hx hb dX12_insertsField_5 rfl (lv_at hl 0 rfl) ?_
  refine lv_iload_n hx hb dX12_insertsField_6 rfl (lv_at hl 1 rfl) ?_
  refine hq_iconst C dX12_insertsField_7 ?_
  refine hq_cV (n := 2) (ci := 12) (o := 0) (qc := (TX12, 57)) C hs (c_X12_stillOf l C.2.2.2.2.1 v1 rv1 0 (by decide) _ _ hw) gX12_insertsField_X12_stillOf rfl ⟨rfl, rfl⟩ (by decide +kernel) ⟨Nat.le_of_ble_eq_true rfl, Nat.le_of_ble_eq_true rfl⟩ tkM_0 (by decide) rfl rfl hl.1 rfl (Nat.le_of_ble_eq_true rfl) dX12_insertsField_8 (hq_ki (fun x2 M9 H locs rx2 hw hs => ?_))
  obtain ⟨e9, hw⟩ := hw; rw [e9] at hs
  refine lv_istore_n (lv' := [(2, .int (w3 x2)), (0, .ref (B + 0)), (1, .int (w3 v1))]) hx hb dX12_insertsField_11 rfl hl (by decide) rfl (fun ls hl => ?_)
  refine lv_aload_n hx hb dX12_insertsField_12 rfl (lv_at hl 1 rfl) ?_
  refine lv_iload_n hx hb dX12_insertsField_13 rfl (lv_at hl 2 rfl) ?_
  refine lv_aload_n hx hb dX12_insertsField_14 rfl (lv_at hl 1 rfl) ?_
  refine hq_getA (o := 0) C hs fX12_insertsField_32 tkM_0 (by decide) rfl dX12_insertsField_15 ?_
  refine hq_iconst C dX12_insertsField_18 ?_
  obtain ⟨g3, hw⟩ := hw
  refine hq_iald (o := 6) C hs tkM_6 (by decide : rg 0) g3 dX12_insertsField_19 (fun g4 => ?_)
  refine hq_iconst C dX12_insertsField_20 ?_
  refine hq_cV (n := 3) (ci := 12) (o := 0) (qc := (TX12, 57)) C hs (c_X12_latest l C.2.2.2.2.1 v1 rv1 (M1 6 0) g4 0 (by decide) _ _ hw) gX12_insertsField_X12_latest rfl ⟨rfl, rfl⟩ (by decide +kernel) ⟨Nat.le_of_ble_eq_true rfl, Nat.le_of_ble_eq_true rfl⟩ tkM_0 (by decide) rfl rfl hl.1 rfl (Nat.le_of_ble_eq_true rfl) dX12_insertsField_21 (hq_ki (fun x5 M9 H locs rx5 hw hs => ?_))
  obtain ⟨e9, hw⟩ := hw; rw [e9] at hs
  refine lv_istore_n (lv' := [(3, .int (w3 x5)), (2, .int (w3 x2)), (0, .ref (B + 0)), (1, .int (w3 v1))]) hx hb dX12_insertsField_24 rfl hl (by decide) rfl (fun ls hl => ?_)
  refine lv_iload_n hx hb dX12_insertsField_25 rfl (lv_at hl 1 rfl) ?_
  refine hq_bipush C dX12_insertsField_26 (by decide) ?_
  refine hq_icmp_eq (tgt := 44) C rx2 (by decide : rg (-9)) dX12_insertsField_28 (by decide) (fun h => ?_) (fun h => ?_)
  · have hw := hw.1 h
    refine lv_iload_n hx hb dX12_insertsField_44 rfl (lv_at hl 0 rfl) ?_
    refine hq_bipush C dX12_insertsField_45 (by decide) ?_
    refine hq_icmp_eq (tgt := 72) C rx5 (by decide : rg (-9)) dX12_insertsField_47 (by decide) (fun h => ?_) (fun h => ?_)
    · have hw := hw.1 h
      refine lv_aload_n hx hb dX12_insertsField_72 rfl (lv_at hl 2 rfl) ?_
      refine hq_bipush C dX12_insertsField_73 (by decide) ?_
      refine hq_iconst C dX12_insertsField_75 ?_
      refine lv_aload_n hx hb dX12_insertsField_76 rfl (lv_at hl 2 rfl) ?_
      refine hq_getA (o := 0) C hs fX12_insertsField_16 tkM_0 (by decide) rfl dX12_insertsField_77 ?_
      refine lv_iload_n hx hb dX12_insertsField_80 rfl (lv_at hl 3 rfl) ?_
      obtain ⟨g6, hw⟩ := hw
      refine hq_iald (o := 1) C hs tkM_1 rv1 g6 dX12_insertsField_81 (fun g7 => ?_)
      refine hq_cV (n := 3) (ci := 12) (o := 0) (qc := (TX12, 57)) C hs (c_X12_laysNumber l C.2.2.2.2.1 64 (by decide : rg 64) 5 (by decide : rg 5) (M1 1 v1.toNat) g7 _ _ hw) gX12_insertsField_X12_laysNumber rfl ⟨rfl, rfl⟩ (by decide +kernel) ⟨Nat.le_of_ble_eq_true rfl, Nat.le_of_ble_eq_true rfl⟩ tkM_0 (by decide) rfl rfl hl.1 rfl (Nat.le_of_ble_eq_true rfl) dX12_insertsField_82 (hq_kv (fun M8 H locs hw hs => ?_))
      refine lv_aload_n hx hb dX12_insertsField_85 rfl (lv_at hl 2 rfl) ?_
      refine lv_iload_n hx hb dX12_insertsField_86 rfl (lv_at hl 3 rfl) ?_
      refine hq_cV (n := 1) (ci := 12) (o := 0) (qc := (TX12, 57)) C hs (c_X12_laysName l C.2.2.2.2.1 v1 rv1 _ _ hw) gX12_insertsField_X12_laysName rfl ⟨rfl, rfl⟩ (by decide +kernel) ⟨Nat.le_of_ble_eq_true rfl, Nat.le_of_ble_eq_true rfl⟩ tkM_0 (by decide) rfl rfl hl.1 rfl (Nat.le_of_ble_eq_true rfl) dX12_insertsField_87 (hq_kv (fun M9 H locs hw hs => ?_))
      refine cb_X12_insertsField_90 v1 rv1 C hw hs (lv_sub hl [2, 3] rfl) 
    · have hw := hw.2 h
      refine lv_aload_n hx hb dX12_insertsField_50 rfl (lv_at hl 2 rfl) ?_
      refine hq_sipush C dX12_insertsField_51 (by decide) ?_
      refine hq_bipush C dX12_insertsField_54 (by decide) ?_
      refine lv_aload_n hx hb dX12_insertsField_56 rfl (lv_at hl 2 rfl) ?_
      refine hq_getA (o := 0) C hs fX12_insertsField_32 tkM_0 (by decide) rfl dX12_insertsField_57 ?_
      refine hq_iconst C dX12_insertsField_60 ?_
      obtain ⟨g10, hw⟩ := hw
      refine hq_iald (o := 6) C hs tkM_6 (by decide : rg 0) g10 dX12_insertsField_61 (fun g11 => ?_)
      refine hq_iconst C dX12_insertsField_62 ?_
      obtain ⟨g12, hw⟩ := hw
      refine hq_isub C dX12_insertsField_63 ?_
      refine lv_iload_n hx hb dX12_insertsField_64 rfl (lv_at hl 0 rfl) ?_
      obtain ⟨g13, hw⟩ := hw
      refine hq_isub C dX12_insertsField_65 ?_
      refine hq_cV (n := 3) (ci := 12) (o := 0) (qc := (TX12, 57)) C hs (c_X12_laysNumber l C.2.2.2.2.1 128 (by decide : rg 128) 6 (by decide : rg 6) (((M1 6 0) - 1) - x5) g13 _ _ hw) gX12_insertsField_X12_laysNumber rfl ⟨rfl, rfl⟩ (by decide +kernel) ⟨Nat.le_of_ble_eq_true rfl, Nat.le_of_ble_eq_true rfl⟩ tkM_0 (by decide) rfl rfl hl.1 rfl (Nat.le_of_ble_eq_true rfl) dX12_insertsField_66 (hq_kv (fun M14 H locs hw hs => ?_))
      refine hq_goto (tgt := 90) C dX12_insertsField_69 (by decide) ?_
      refine cb_X12_insertsField_90 v1 rv1 C hw hs (lv_sub hl [2, 3] rfl) 
  · have hw := hw.2 h
    refine lv_aload_n hx hb dX12_insertsField_31 rfl (lv_at hl 2 rfl) ?_
    refine hq_sipush C dX12_insertsField_32 (by decide) ?_
    refine hq_bipush C dX12_insertsField_35 (by decide) ?_
    refine lv_iload_n hx hb dX12_insertsField_37 rfl (lv_at hl 1 rfl) ?_
    refine hq_cV (n := 3) (ci := 12) (o := 0) (qc := (TX12, 57)) C hs (c_X12_laysNumber l C.2.2.2.2.1 192 (by decide : rg 192) 6 (by decide : rg 6) x2 rx2 _ _ hw) gX12_insertsField_X12_laysNumber rfl ⟨rfl, rfl⟩ (by decide +kernel) ⟨Nat.le_of_ble_eq_true rfl, Nat.le_of_ble_eq_true rfl⟩ tkM_0 (by decide) rfl rfl hl.1 rfl (Nat.le_of_ble_eq_true rfl) dX12_insertsField_38 (hq_kv (fun M15 H locs hw hs => ?_))
    refine hq_goto (tgt := 90) C dX12_insertsField_41 (by decide) ?_
    refine cb_X12_insertsField_90 v1 rv1 C hw hs (lv_sub hl [2, 3] rfl) 
theorem iX12_capacity_12 : ∀ w ∈ u_ws RX12 TX12 57, w ∈ wsX12_capacity := fun w h => List.mem_cons_of_mem _ (List.mem_append_right _ h)
set_option maxRecDepth 20000 in
theorem fX12_capacity_7 : hq_fl vwCl wsX12_capacity RX12 7 12 2 false .int := ⟨RX12, TX12, 57, tyX12, rfl, by decide, iX12_capacity_12, by decide +kernel, rfl, tyX12_ok 2 (by decide), tyX12_ok, nmX12⟩
set_option maxRecDepth 20000 in
theorem fX12_capacity_38 : hq_fl vwCl wsX12_capacity RX12 38 12 20 true (.array .int) := ⟨RX12, TX12, 57, tyX12, rfl, by decide, iX12_capacity_12, by decide +kernel, rfl, tyX12_ok 20 (by decide), tyX12_ok, nmX12⟩
set_option maxRecDepth 20000 in
theorem fX12_capacity_267 : hq_fl vwCl wsX12_capacity RX12 267 12 49 false .int := ⟨RX12, TX12, 57, tyX12, rfl, by decide, iX12_capacity_12, by decide +kernel, rfl, tyX12_ok 49 (by decide), tyX12_ok, nmX12⟩
set_option maxHeartbeats 4000000 in
set_option maxRecDepth 100000 in
theorem c_X12_capacity (l : Launch) {D : va_G} {cA : Nat → ClassId} {B : Nat} {Z : State → Prop} (hZ : hq_Zo Z (hq_in B YM.length)) (v1 : Int) (rv1 : rg v1) (M : hq_M) (k : Int → hq_M → Prop) (hw : w_X12_capacity v1 M k) : hq_T vwCl SLx l yX12_capacity wsX12_capacity ({ frames := 4, cells := 0, slots := 0, locals := 92 } : Room) D cA YM B Z [.ref (B + 0), .int (w3 v1)] M (hq_qi k) := by
  refine hq_meth (cc := cX12_capacity) (maxL := 2) (ret := (some .int)) (own := RX12) hZ rfl (by decide +kernel) rfl (Nat.le_of_ble_eq_true rfl) ?_
  intro p e s m below meth c ls C hs hl
  have hx := C.1.1
  have hb := C.1.2.1
  unfold w_X12_capacity at hw
  have hl : lv_has ls 2 [(0, .ref (B + 0)), (1, .int (w3 v1))] := hl
  refine lv_iload_n hx hb dX12_capacity_0 rfl (lv_at hl 1 rfl) ?_
  refine hq_i2l (y := 0) C rv1 dX12_capacity_1 ?_
  refine hq_lconst (z := 0) C dX12_capacity_2 rfl ?_
  refine lv_aload_n hx hb dX12_capacity_3 rfl (lv_at hl 0 rfl) ?_
  refine hq_getI (o := 0) C hs fX12_capacity_7 tkM_0 (by decide) rfl dX12_capacity_4 (fun g1 => ?_)
  refine hq_i2l (y := 0) C g1 dX12_capacity_7 ?_
  refine hq_cS (n := 3) C hs (c_X12_in l C.2.2.2.2.1 v1 (rg_rl rv1) 0 (by decide : rl 0) (M 0 2) (rg_rl g1) _ _ hw) gX12_capacity_X12_in rfl ⟨rfl, rfl⟩ (by decide +kernel) ⟨Nat.le_of_ble_eq_true rfl, Nat.le_of_ble_eq_true rfl⟩ rfl hl.1 rfl (Nat.le_of_ble_eq_true rfl) dX12_capacity_8 (hq_kz (fun x2 M9 H locs rx2 hw hs => ?_))
  obtain ⟨e9, hw⟩ := hw; rw [e9] at hs
  refine hq_if_ne (tgt := 16) C (rb_rg rx2) dX12_capacity_11 (by decide) (fun h => ?_) (fun h => ?_)
  · have hw := hw.1 h
    refine lv_iload_n hx hb dX12_capacity_16 rfl (lv_at hl 1 rfl) ?_
    refine lv_aload_n hx hb dX12_capacity_17 rfl (lv_at hl 0 rfl) ?_
    refine hq_getA (o := 0) C hs fX12_capacity_38 tkM_0 (by decide) rfl dX12_capacity_18 ?_
    refine hq_iconst C dX12_capacity_21 ?_
    obtain ⟨g3, hw⟩ := hw
    refine hq_iald (o := 8) C hs tkM_8 (by decide : rg 0) g3 dX12_capacity_22 (fun g4 => ?_)
    refine hq_icmp_eq (tgt := 35) C rv1 g4 dX12_capacity_23 (by decide) (fun h => ?_) (fun h => ?_)
    · have hw := hw.1 h
      refine hq_bipush C dX12_capacity_35 (by decide) ?_
      exact hq_iret C hs (by decide : rg (-2)) hw dX12_capacity_37
    · have hw := hw.2 h
      refine lv_aload_n hx hb dX12_capacity_26 rfl (lv_at hl 0 rfl) ?_
      refine hq_iconst C dX12_capacity_27 ?_
      refine lv_iload_n hx hb dX12_capacity_28 rfl (lv_at hl 1 rfl) ?_
      refine hq_cV (n := 2) (ci := 12) (o := 0) (qc := (TX12, 57)) C hs (c_X12_canHave l C.2.2.2.2.1 0 (by decide : rg 0) v1 rv1 _ _ hw) gX12_capacity_X12_canHave rfl ⟨rfl, rfl⟩ (by decide +kernel) ⟨Nat.le_of_ble_eq_true rfl, Nat.le_of_ble_eq_true rfl⟩ tkM_0 (by decide) rfl rfl hl.1 rfl (Nat.le_of_ble_eq_true rfl) dX12_capacity_29 (hq_kz (fun x5 M9 H locs rx5 hw hs => ?_))
      obtain ⟨e9, hw⟩ := hw; rw [e9] at hs
      refine hq_if_ne (tgt := 38) C (rb_rg rx5) dX12_capacity_32 (by decide) (fun h => ?_) (fun h => ?_)
      · have hw := hw.1 h
        refine lv_aload_n hx hb dX12_capacity_38 rfl (lv_at hl 0 rfl) ?_
        refine hq_iconst C dX12_capacity_39 ?_
        refine hq_putI (o := 0) C hs fX12_capacity_267 tkM_0 (by decide) rfl (by decide : rg 0) dX12_capacity_40 (fun M6 eM6 H locs hs => ?_)
        have hw := hw M6 eM6
        refine lv_aload_n hx hb dX12_capacity_43 rfl (lv_at hl 0 rfl) ?_
        refine hq_bipush C dX12_capacity_44 (by decide) ?_
        refine hq_iconst C dX12_capacity_46 ?_
        refine lv_iload_n hx hb dX12_capacity_47 rfl (lv_at hl 1 rfl) ?_
        refine hq_cV (n := 3) (ci := 12) (o := 0) (qc := (TX12, 57)) C hs (c_X12_laysNumber l C.2.2.2.2.1 32 (by decide : rg 32) 5 (by decide : rg 5) v1 rv1 _ _ hw) gX12_capacity_X12_laysNumber rfl ⟨rfl, rfl⟩ (by decide +kernel) ⟨Nat.le_of_ble_eq_true rfl, Nat.le_of_ble_eq_true rfl⟩ tkM_0 (by decide) rfl rfl hl.1 rfl (Nat.le_of_ble_eq_true rfl) dX12_capacity_48 (hq_kv (fun M7 H locs hw hs => ?_))
        refine lv_aload_n hx hb dX12_capacity_51 rfl (lv_at hl 0 rfl) ?_
        refine hq_cV (n := 0) (ci := 12) (o := 0) (qc := (TX12, 57)) C hs (c_X12_isOverfull l C.2.2.2.2.1 _ _ hw) gX12_capacity_X12_isOverfull rfl ⟨rfl, rfl⟩ (by decide +kernel) ⟨Nat.le_of_ble_eq_true rfl, Nat.le_of_ble_eq_true rfl⟩ tkM_0 (by decide) rfl rfl hl.1 rfl (Nat.le_of_ble_eq_true rfl) dX12_capacity_52 (hq_kz (fun x8 M9 H locs rx8 hw hs => ?_))
        obtain ⟨e9, hw⟩ := hw; rw [e9] at hs
        refine hq_if_eq (tgt := 61) C (rb_rg rx8) dX12_capacity_55 (by decide) (fun h => ?_) (fun h => ?_)
        · have hw := hw.1 h
          refine lv_aload_n hx hb dX12_capacity_61 rfl (lv_at hl 0 rfl) ?_
          refine hq_iconst C dX12_capacity_62 ?_
          refine lv_iload_n hx hb dX12_capacity_63 rfl (lv_at hl 1 rfl) ?_
          refine hq_cV (n := 2) (ci := 12) (o := 0) (qc := (TX12, 57)) C hs (c_X12_sendsOrder l C.2.2.2.2.1 0 (by decide : rg 0) v1 rv1 _ _ hw) gX12_capacity_X12_sendsOrder rfl ⟨rfl, rfl⟩ (by decide +kernel) ⟨Nat.le_of_ble_eq_true rfl, Nat.le_of_ble_eq_true rfl⟩ tkM_0 (by decide) rfl rfl hl.1 rfl (Nat.le_of_ble_eq_true rfl) dX12_capacity_64 (hq_kv (fun M9 H locs hw hs => ?_))
          refine lv_aload_n hx hb dX12_capacity_67 rfl (lv_at hl 0 rfl) ?_
          refine hq_getA (o := 0) C hs fX12_capacity_38 tkM_0 (by decide) rfl dX12_capacity_68 ?_
          refine hq_iconst C dX12_capacity_71 ?_
          refine lv_iload_n hx hb dX12_capacity_72 rfl (lv_at hl 1 rfl) ?_
          obtain ⟨g10, hw⟩ := hw
          refine hq_iast (o := 8) C hs tkM_8 (by decide : rg 0) g10 rv1 dX12_capacity_73 (fun M11 eM11 H locs hs => ?_)
          have hw := hw M11 eM11
          refine lv_aload_n hx hb dX12_capacity_74 rfl (lv_at hl 0 rfl) ?_
          refine hq_iconst C dX12_capacity_75 ?_
          refine hq_iconst C dX12_capacity_76 ?_
          refine hq_cV (n := 2) (ci := 12) (o := 0) (qc := (TX12, 57)) C hs (c_X12_makesRoom l C.2.2.2.2.1 0 (by decide : rg 0) 0 (by decide : rg 0) _ _ hw) gX12_capacity_X12_makesRoom rfl ⟨rfl, rfl⟩ (by decide +kernel) ⟨Nat.le_of_ble_eq_true rfl, Nat.le_of_ble_eq_true rfl⟩ tkM_0 (by decide) rfl rfl hl.1 rfl (Nat.le_of_ble_eq_true rfl) dX12_capacity_77 (hq_ki (fun x13 M12 H locs rx13 hw hs => ?_))
          exact hq_iret C hs rx13 hw dX12_capacity_80
        · have hw := hw.2 h
          refine hq_bipush C dX12_capacity_58 (by decide) ?_
          exact hq_iret C hs (by decide : rg (-3)) hw dX12_capacity_60
      · have hw := hw.2 h
        refine hq_bipush C dX12_capacity_35 (by decide) ?_
        exact hq_iret C hs (by decide : rg (-2)) hw dX12_capacity_37
  · have hw := hw.2 h
    refine hq_iconst C dX12_capacity_14 ?_
    exact hq_iret C hs (by decide : rg (-1)) hw dX12_capacity_15
set_option maxHeartbeats 4000000 in
set_option maxRecDepth 100000 in
theorem c_X12_inserts (l : Launch) {D : va_G} {cA : Nat → ClassId} {B : Nat} {Z : State → Prop} (hZ : hq_Zo Z (hq_in B YM.length)) (v1 : Int) (rv1 : rg v1) (M : hq_M) (k : Int → hq_M → Prop) (hw : w_X12_inserts v1 M k) : hq_T vwCl SLx l yX12_inserts wsX12_inserts ({ frames := 6, cells := 0, slots := 0, locals := 136 } : Room) D cA YM B Z [.ref (B + 0), .int (w3 v1)] M (hq_qi k) := by
  refine hq_meth (cc := cX12_inserts) (maxL := 2) (ret := (some .int)) (own := RX12) hZ rfl (by decide +kernel) rfl (Nat.le_of_ble_eq_true rfl) ?_
  intro p e s m below meth c ls C hs hl
  have hx := C.1.1
  have hb := C.1.2.1
  unfold w_X12_inserts at hw
  have hl : lv_has ls 2 [(0, .ref (B + 0)), (1, .int (w3 v1))] := hl
  refine lv_aload_n hx hb dX12_inserts_0 rfl (lv_at hl 0 rfl) ?_
  refine lv_iload_n hx hb dX12_inserts_1 rfl (lv_at hl 1 rfl) ?_
  refine hq_cV (n := 1) (ci := 12) (o := 0) (qc := (TX12, 57)) C hs (c_X12_isField l C.2.2.2.2.1 v1 rv1 _ _ hw) gX12_inserts_X12_isField rfl ⟨rfl, rfl⟩ (by decide +kernel) ⟨Nat.le_of_ble_eq_true rfl, Nat.le_of_ble_eq_true rfl⟩ tkM_0 (by decide) rfl rfl hl.1 rfl (Nat.le_of_ble_eq_true rfl) dX12_inserts_2 (hq_kz (fun x1 M9 H locs rx1 hw hs => ?_))
  obtain ⟨e9, hw⟩ := hw; rw [e9] at hs
  refine hq_if_eq (tgt := 16) C (rb_rg rx1) dX12_inserts_5 (by decide) (fun h => ?_) (fun h => ?_)
  · have hw := hw.1 h
    refine hq_iconst C dX12_inserts_16 ?_
    exact hq_iret C hs (by decide : rg (-1)) hw dX12_inserts_17
  · have hw := hw.2 h
    refine lv_aload_n hx hb dX12_inserts_8 rfl (lv_at hl 0 rfl) ?_
    refine lv_iload_n hx hb dX12_inserts_9 rfl (lv_at hl 1 rfl) ?_
    refine hq_cV (n := 1) (ci := 12) (o := 0) (qc := (TX12, 57)) C hs (c_X12_insertsField l C.2.2.2.2.1 v1 rv1 _ _ hw) gX12_inserts_X12_insertsField rfl ⟨rfl, rfl⟩ (by decide +kernel) ⟨Nat.le_of_ble_eq_true rfl, Nat.le_of_ble_eq_true rfl⟩ tkM_0 (by decide) rfl rfl hl.1 rfl (Nat.le_of_ble_eq_true rfl) dX12_inserts_10 (hq_ki (fun x3 M2 H locs rx3 hw hs => ?_))
    refine hq_goto (tgt := 17) C dX12_inserts_13 (by decide) ?_
    exact hq_iret C hs rx3 hw dX12_inserts_17
theorem iX12_repeats_12 : ∀ w ∈ u_ws RX12 TX12 57, w ∈ wsX12_repeats := fun w h => List.mem_cons_of_mem _ (List.mem_append_right _ h)
set_option maxRecDepth 20000 in
theorem fX12_repeats_32 : hq_fl vwCl wsX12_repeats RX12 32 12 18 true (.array .int) := ⟨RX12, TX12, 57, tyX12, rfl, by decide, iX12_repeats_12, by decide +kernel, rfl, tyX12_ok 18 (by decide), tyX12_ok, nmX12⟩
set_option maxRecDepth 20000 in
theorem fX12_repeats_267 : hq_fl vwCl wsX12_repeats RX12 267 12 49 false .int := ⟨RX12, TX12, 57, tyX12, rfl, by decide, iX12_repeats_12, by decide +kernel, rfl, tyX12_ok 49 (by decide), tyX12_ok, nmX12⟩
set_option maxHeartbeats 4000000 in
set_option maxRecDepth 100000 in
theorem c_X12_repeats (l : Launch) {D : va_G} {cA : Nat → ClassId} {B : Nat} {Z : State → Prop} (hZ : hq_Zo Z (hq_in B YM.length)) (v1 : Int) (rv1 : rg v1) (M : hq_M) (k : Int → hq_M → Prop) (hw : w_X12_repeats v1 M k) : hq_T vwCl SLx l yX12_repeats wsX12_repeats ({ frames := 5, cells := 0, slots := 0, locals := 113 } : Room) D cA YM B Z [.ref (B + 0), .int (w3 v1)] M (hq_qi k) := by
  refine hq_meth (cc := cX12_repeats) (maxL := 2) (ret := (some .int)) (own := RX12) hZ rfl (by decide +kernel) rfl (Nat.le_of_ble_eq_true rfl) ?_
  intro p e s m below meth c ls C hs hl
  have hx := C.1.1
  have hb := C.1.2.1
  unfold w_X12_repeats at hw
  have hl : lv_has ls 2 [(0, .ref (B + 0)), (1, .int (w3 v1))] := hl
  refine lv_aload_n hx hb dX12_repeats_0 rfl (lv_at hl 0 rfl) ?_
  refine hq_iconst C dX12_repeats_1 ?_
  refine lv_iload_n hx hb dX12_repeats_2 rfl (lv_at hl 1 rfl) ?_
  refine hq_cV (n := 2) (ci := 12) (o := 0) (qc := (TX12, 57)) C hs (c_X12_isThere l C.2.2.2.2.1 0 (by decide : rg 0) v1 rv1 _ _ hw) gX12_repeats_X12_isThere rfl ⟨rfl, rfl⟩ (by decide +kernel) ⟨Nat.le_of_ble_eq_true rfl, Nat.le_of_ble_eq_true rfl⟩ tkM_0 (by decide) rfl rfl hl.1 rfl (Nat.le_of_ble_eq_true rfl) dX12_repeats_3 (hq_kz (fun x1 M9 H locs rx1 hw hs => ?_))
  obtain ⟨e9, hw⟩ := hw; rw [e9] at hs
  refine hq_if_ne (tgt := 11) C (rb_rg rx1) dX12_repeats_6 (by decide) (fun h => ?_) (fun h => ?_)
  · have hw := hw.1 h
    refine lv_aload_n hx hb dX12_repeats_11 rfl (lv_at hl 0 rfl) ?_
    refine hq_iconst C dX12_repeats_12 ?_
    refine hq_putI (o := 0) C hs fX12_repeats_267 tkM_0 (by decide) rfl (by decide : rg 0) dX12_repeats_13 (fun M2 eM2 H locs hs => ?_)
    have hw := hw M2 eM2
    refine lv_aload_n hx hb dX12_repeats_16 rfl (lv_at hl 0 rfl) ?_
    refine hq_iconst C dX12_repeats_17 ?_
    refine hq_iconst C dX12_repeats_18 ?_
    refine lv_aload_n hx hb dX12_repeats_19 rfl (lv_at hl 0 rfl) ?_
    refine hq_getA (o := 0) C hs fX12_repeats_32 tkM_0 (by decide) rfl dX12_repeats_20 ?_
    refine hq_iconst C dX12_repeats_23 ?_
    obtain ⟨g3, hw⟩ := hw
    refine hq_iald (o := 6) C hs tkM_6 (by decide : rg 0) g3 dX12_repeats_24 (fun g4 => ?_)
    refine hq_iconst C dX12_repeats_25 ?_
    obtain ⟨g5, hw⟩ := hw
    refine hq_isub C dX12_repeats_26 ?_
    refine lv_iload_n hx hb dX12_repeats_27 rfl (lv_at hl 1 rfl) ?_
    obtain ⟨g6, hw⟩ := hw
    refine hq_isub C dX12_repeats_28 ?_
    refine hq_cV (n := 3) (ci := 12) (o := 0) (qc := (TX12, 57)) C hs (c_X12_laysNumber l C.2.2.2.2.1 0 (by decide : rg 0) 5 (by decide : rg 5) (((M2 6 0) - 1) - v1) g6 _ _ hw) gX12_repeats_X12_laysNumber rfl ⟨rfl, rfl⟩ (by decide +kernel) ⟨Nat.le_of_ble_eq_true rfl, Nat.le_of_ble_eq_true rfl⟩ tkM_0 (by decide) rfl rfl hl.1 rfl (Nat.le_of_ble_eq_true rfl) dX12_repeats_29 (hq_kv (fun M7 H locs hw hs => ?_))
    refine lv_aload_n hx hb dX12_repeats_32 rfl (lv_at hl 0 rfl) ?_
    refine lv_aload_n hx hb dX12_repeats_33 rfl (lv_at hl 0 rfl) ?_
    refine hq_iconst C dX12_repeats_34 ?_
    refine lv_iload_n hx hb dX12_repeats_35 rfl (lv_at hl 1 rfl) ?_
    refine hq_cV (n := 2) (ci := 12) (o := 0) (qc := (TX12, 57)) C hs (c_X12_fieldAt l C.2.2.2.2.1 0 (by decide : rg 0) v1 rv1 _ _ hw) gX12_repeats_X12_fieldAt rfl ⟨rfl, rfl⟩ (by decide +kernel) ⟨Nat.le_of_ble_eq_true rfl, Nat.le_of_ble_eq_true rfl⟩ tkM_0 (by decide) rfl rfl hl.1 rfl (Nat.le_of_ble_eq_true rfl) dX12_repeats_36 (hq_ki (fun x8 M9 H locs rx8 hw hs => ?_))
    obtain ⟨e9, hw⟩ := hw; rw [e9] at hs
    refine hq_cV (n := 1) (ci := 12) (o := 0) (qc := (TX12, 57)) C hs (c_X12_inserted l C.2.2.2.2.1 x8 rx8 _ _ hw) gX12_repeats_X12_inserted rfl ⟨rfl, rfl⟩ (by decide +kernel) ⟨Nat.le_of_ble_eq_true rfl, Nat.le_of_ble_eq_true rfl⟩ tkM_0 (by decide) rfl rfl hl.1 rfl (Nat.le_of_ble_eq_true rfl) dX12_repeats_39 (hq_ki (fun x10 M9 H locs rx10 hw hs => ?_))
    exact hq_iret C hs rx10 hw dX12_repeats_42
  · have hw := hw.2 h
    refine hq_iconst C dX12_repeats_9 ?_
    exact hq_iret C hs (by decide : rg (-1)) hw dX12_repeats_10
theorem iX12_puts_12 : ∀ w ∈ u_ws RX12 TX12 57, w ∈ wsX12_puts := fun w h => List.mem_cons_of_mem _ (List.mem_append_right _ h)
set_option maxRecDepth 20000 in
theorem fX12_puts_78 : hq_fl vwCl wsX12_puts RX12 78 12 36 true (.array .int) := ⟨RX12, TX12, 57, tyX12, rfl, by decide, iX12_puts_12, by decide +kernel, rfl, tyX12_ok 36 (by decide), tyX12_ok, nmX12⟩
set_option maxRecDepth 20000 in
theorem fX12_puts_325 : hq_fl vwCl wsX12_puts RX12 325 12 37 false .int := ⟨RX12, TX12, 57, tyX12, rfl, by decide, iX12_puts_12, by decide +kernel, rfl, tyX12_ok 37 (by decide), tyX12_ok, nmX12⟩
set_option maxHeartbeats 4000000 in
set_option maxRecDepth 100000 in
theorem c_X12_puts (l : Launch) {D : va_G} {cA : Nat → ClassId} {B : Nat} {Z : State → Prop} (hZ : hq_Zo Z (hq_in B YM.length)) (v1 : Int) (rv1 : rg v1) (M : hq_M) (k : Int → hq_M → Prop) (hw : w_X12_puts v1 M k) : hq_T vwCl SLx l yX12_puts wsX12_puts ({ frames := 2, cells := 0, slots := 0, locals := 46 } : Room) D cA YM B Z [.ref (B + 0), .int (w3 v1)] M (hq_qi k) := by
  refine hq_meth (cc := cX12_puts) (maxL := 2) (ret := (some .int)) (own := RX12) hZ rfl (by decide +kernel) rfl (Nat.le_of_ble_eq_true rfl) ?_
  intro p e s m below meth c ls C hs hl
  have hx := C.1.1
  have hb := C.1.2.1
  unfold w_X12_puts at hw
  have hl : lv_has ls 2 [(0, .ref (B + 0)), (1, .int (w3 v1))] := hl
  refine lv_aload_n hx hb dX12_puts_0 rfl (lv_at hl 0 rfl) ?_
  refine lv_iload_n hx hb dX12_puts_1 rfl (lv_at hl 1 rfl) ?_
  refine hq_cV (n := 1) (ci := 12) (o := 0) (qc := (TX12, 57)) C hs (c_X12_isField l C.2.2.2.2.1 v1 rv1 _ _ hw) gX12_puts_X12_isField rfl ⟨rfl, rfl⟩ (by decide +kernel) ⟨Nat.le_of_ble_eq_true rfl, Nat.le_of_ble_eq_true rfl⟩ tkM_0 (by decide) rfl rfl hl.1 rfl (Nat.le_of_ble_eq_true rfl) dX12_puts_2 (hq_kz (fun x1 M9 H locs rx1 hw hs => ?_))
  obtain ⟨e9, hw⟩ := hw; rw [e9] at hs
  refine hq_if_ne (tgt := 10) C (rb_rg rx1) dX12_puts_5 (by decide) (fun h => ?_) (fun h => ?_)
  · have hw := hw.1 h
    refine lv_aload_n hx hb dX12_puts_10 rfl (lv_at hl 0 rfl) ?_
    refine hq_getI (o := 0) C hs fX12_puts_325 tkM_0 (by decide) rfl dX12_puts_11 (fun g2 => ?_)
    refine hq_bipush C dX12_puts_14 (by decide) ?_
    refine hq_icmp_ne (tgt := 22) C g2 (by decide : rg 6) dX12_puts_16 (by decide) (fun h => ?_) (fun h => ?_)
    · have hw := hw.1 h
      refine lv_aload_n hx hb dX12_puts_22 rfl (lv_at hl 0 rfl) ?_
      refine hq_getA (o := 0) C hs fX12_puts_78 tkM_0 (by decide) rfl dX12_puts_23 ?_
      refine lv_aload_n hx hb dX12_puts_26 rfl (lv_at hl 0 rfl) ?_
      refine hq_getI (o := 0) C hs fX12_puts_325 tkM_0 (by decide) rfl dX12_puts_27 (fun g3 => ?_)
      refine lv_iload_n hx hb dX12_puts_30 rfl (lv_at hl 1 rfl) ?_
      obtain ⟨g4, hw⟩ := hw
      refine hq_iast (o := 21) C hs tkM_21 g3 g4 rv1 dX12_puts_31 (fun M5 eM5 H locs hs => ?_)
      have hw := hw M5 eM5
      refine lv_aload_n hx hb dX12_puts_32 rfl (lv_at hl 0 rfl) ?_
      refine lv_dup hx hb dX12_puts_33 rfl ?_
      refine hq_getI (o := 0) C hs fX12_puts_325 tkM_0 (by decide) rfl dX12_puts_34 (fun g6 => ?_)
      refine hq_iconst C dX12_puts_37 ?_
      obtain ⟨g7, hw⟩ := hw
      refine hq_iadd C dX12_puts_38 ?_
      refine hq_putI (o := 0) C hs fX12_puts_325 tkM_0 (by decide) rfl g7 dX12_puts_39 (fun M8 eM8 H locs hs => ?_)
      have hw := hw M8 eM8
      refine lv_aload_n hx hb dX12_puts_42 rfl (lv_at hl 0 rfl) ?_
      refine hq_getI (o := 0) C hs fX12_puts_325 tkM_0 (by decide) rfl dX12_puts_43 (fun g9 => ?_)
      exact hq_iret C hs g9 hw dX12_puts_46
    · have hw := hw.2 h
      refine hq_bipush C dX12_puts_19 (by decide) ?_
      exact hq_iret C hs (by decide : rg (-3)) hw dX12_puts_21
  · have hw := hw.2 h
    refine hq_iconst C dX12_puts_8 ?_
    exact hq_iret C hs (by decide : rg (-1)) hw dX12_puts_9
theorem iX12_takes_12 : ∀ w ∈ u_ws RX12 TX12 57, w ∈ wsX12_takes := fun w h => List.mem_cons_of_mem _ (List.mem_append_right _ h)
set_option maxRecDepth 20000 in
theorem fX12_takes_78 : hq_fl vwCl wsX12_takes RX12 78 12 36 true (.array .int) := ⟨RX12, TX12, 57, tyX12, rfl, by decide, iX12_takes_12, by decide +kernel, rfl, tyX12_ok 36 (by decide), tyX12_ok, nmX12⟩
set_option maxRecDepth 20000 in
theorem fX12_takes_325 : hq_fl vwCl wsX12_takes RX12 325 12 37 false .int := ⟨RX12, TX12, 57, tyX12, rfl, by decide, iX12_takes_12, by decide +kernel, rfl, tyX12_ok 37 (by decide), tyX12_ok, nmX12⟩
set_option maxHeartbeats 4000000 in
set_option maxRecDepth 100000 in
theorem c_X12_takes (l : Launch) {D : va_G} {cA : Nat → ClassId} {B : Nat} {Z : State → Prop} (hZ : hq_Zo Z (hq_in B YM.length))  (M : hq_M) (k : Int → hq_M → Prop) (hw : w_X12_takes  M k) : hq_T vwCl SLx l yX12_takes wsX12_takes ({ frames := 0, cells := 0, slots := 0, locals := 0 } : Room) D cA YM B Z [.ref (B + 0)] M (hq_qi k) := by
  refine hq_meth (cc := cX12_takes) (maxL := 1) (ret := (some .int)) (own := RX12) hZ rfl (by decide +kernel) rfl (Nat.le_of_ble_eq_true rfl) ?_
  intro p e s m below meth c ls C hs hl
  have hx := C.1.1
  have hb := C.1.2.1
  unfold w_X12_takes at hw
  have hl : lv_has ls 1 [(0, .ref (B + 0))] := hl
  refine lv_aload_n hx hb dX12_takes_0 rfl (lv_at hl 0 rfl) ?_
  refine hq_getI (o := 0) C hs fX12_takes_325 tkM_0 (by decide) rfl dX12_takes_1 (fun g1 => ?_)
  refine hq_if_ne (tgt := 10) C g1 dX12_takes_4 (by decide) (fun h => ?_) (fun h => ?_)
  · have hw := hw.1 h
    refine lv_aload_n hx hb dX12_takes_10 rfl (lv_at hl 0 rfl) ?_
    refine lv_dup hx hb dX12_takes_11 rfl ?_
    refine hq_getI (o := 0) C hs fX12_takes_325 tkM_0 (by decide) rfl dX12_takes_12 (fun g2 => ?_)
    refine hq_iconst C dX12_takes_15 ?_
    obtain ⟨g3, hw⟩ := hw
    refine hq_isub C dX12_takes_16 ?_
    refine hq_putI (o := 0) C hs fX12_takes_325 tkM_0 (by decide) rfl g3 dX12_takes_17 (fun M4 eM4 H locs hs => ?_)
    have hw := hw M4 eM4
    refine lv_aload_n hx hb dX12_takes_20 rfl (lv_at hl 0 rfl) ?_
    refine hq_getA (o := 0) C hs fX12_takes_78 tkM_0 (by decide) rfl dX12_takes_21 ?_
    refine lv_aload_n hx hb dX12_takes_24 rfl (lv_at hl 0 rfl) ?_
    refine hq_getI (o := 0) C hs fX12_takes_325 tkM_0 (by decide) rfl dX12_takes_25 (fun g5 => ?_)
    obtain ⟨g6, hw⟩ := hw
    refine hq_iald (o := 21) C hs tkM_21 g5 g6 dX12_takes_28 (fun g7 => ?_)
    exact hq_iret C hs g7 hw dX12_takes_29
  · have hw := hw.2 h
    refine hq_bipush C dX12_takes_7 (by decide) ?_
    exact hq_iret C hs (by decide : rg (-2)) hw dX12_takes_9
theorem iX12_isAtRisk_12 : ∀ w ∈ u_ws RX12 TX12 57, w ∈ wsX12_isAtRisk := fun w h => List.mem_cons_of_mem _ (List.mem_append_right _ h)
set_option maxRecDepth 20000 in
theorem fX12_isAtRisk_47 : hq_fl vwCl wsX12_isAtRisk RX12 47 12 26 true (.array .int) := ⟨RX12, TX12, 57, tyX12, rfl, by decide, iX12_isAtRisk_12, by decide +kernel, rfl, tyX12_ok 26 (by decide), tyX12_ok, nmX12⟩
set_option maxRecDepth 20000 in
theorem fX12_isAtRisk_62 : hq_fl vwCl wsX12_isAtRisk RX12 62 12 31 true (.array .boolean) := ⟨RX12, TX12, 57, tyX12, rfl, by decide, iX12_isAtRisk_12, by decide +kernel, rfl, tyX12_ok 31 (by decide), tyX12_ok, nmX12⟩
set_option maxRecDepth 20000 in
theorem fX12_isAtRisk_258 : hq_fl vwCl wsX12_isAtRisk RX12 258 12 23 false .int := ⟨RX12, TX12, 57, tyX12, rfl, by decide, iX12_isAtRisk_12, by decide +kernel, rfl, tyX12_ok 23 (by decide), tyX12_ok, nmX12⟩
set_option maxHeartbeats 4000000 in
set_option maxRecDepth 100000 in
theorem c_X12_isAtRisk (l : Launch) {D : va_G} {cA : Nat → ClassId} {B : Nat} {Z : State → Prop} (hZ : hq_Zo Z (hq_in B YM.length)) (v1 : Int) (rv1 : rg v1) (M : hq_M) (k : Int → Prop) (hw : w_X12_isAtRisk v1 M k) : hq_T vwCl SLx l yX12_isAtRisk wsX12_isAtRisk ({ frames := 0, cells := 0, slots := 0, locals := 0 } : Room) D cA YM B Z [.ref (B + 0), .int (w3 v1)] M (hq_qz (fun z M' => M' = M ∧ k z)) := by
  refine hq_meth (cc := cX12_isAtRisk) (maxL := 2) (ret := (some .boolean)) (own := RX12) hZ rfl (by decide +kernel) rfl (Nat.le_of_ble_eq_true rfl) ?_
  intro p e s m below meth c ls C hs hl
  have hx := C.1.1
  have hb := C.1.2.1
  unfold w_X12_isAtRisk at hw
  have hl : lv_has ls 2 [(0, .ref (B + 0)), (1, .int (w3 v1))] := hl
  refine lv_aload_n hx hb dX12_isAtRisk_0 rfl (lv_at hl 0 rfl) ?_
  refine hq_getA (o := 0) C hs fX12_isAtRisk_62 tkM_0 (by decide) rfl dX12_isAtRisk_1 ?_
  refine lv_iload_n hx hb dX12_isAtRisk_4 rfl (lv_at hl 1 rfl) ?_
  obtain ⟨g1, hw⟩ := hw
  refine hq_zald (o := 16) C hs tkM_16 rv1 g1 dX12_isAtRisk_5 (fun g2 => ?_)
  refine hq_if_ne (tgt := 26) C (rb_rg g2) dX12_isAtRisk_6 (by decide) (fun h => ?_) (fun h => ?_)
  · have hw := hw.1 h
    refine hq_iconst C dX12_isAtRisk_26 ?_
    exact hq_zret C hs (by decide) ⟨rfl, hw⟩ dX12_isAtRisk_27
  · have hw := hw.2 h
    refine lv_aload_n hx hb dX12_isAtRisk_9 rfl (lv_at hl 0 rfl) ?_
    refine hq_getA (o := 0) C hs fX12_isAtRisk_47 tkM_0 (by decide) rfl dX12_isAtRisk_10 ?_
    refine lv_iload_n hx hb dX12_isAtRisk_13 rfl (lv_at hl 1 rfl) ?_
    obtain ⟨g3, hw⟩ := hw
    refine hq_iald (o := 11) C hs tkM_11 rv1 g3 dX12_isAtRisk_14 (fun g4 => ?_)
    refine lv_aload_n hx hb dX12_isAtRisk_15 rfl (lv_at hl 0 rfl) ?_
    refine hq_getI (o := 0) C hs fX12_isAtRisk_258 tkM_0 (by decide) rfl dX12_isAtRisk_16 (fun g5 => ?_)
    refine hq_icmp_le (tgt := 26) C g4 g5 dX12_isAtRisk_19 (by decide) (fun h => ?_) (fun h => ?_)
    · have hw := hw.1 h
      refine hq_iconst C dX12_isAtRisk_26 ?_
      exact hq_zret C hs (by decide) ⟨rfl, hw⟩ dX12_isAtRisk_27
    · have hw := hw.2 h
      refine hq_iconst C dX12_isAtRisk_22 ?_
      refine hq_goto (tgt := 27) C dX12_isAtRisk_23 (by decide) ?_
      exact hq_zret C hs (by decide) ⟨rfl, hw⟩ dX12_isAtRisk_27
theorem iX12_risks_12 : ∀ w ∈ u_ws RX12 TX12 57, w ∈ wsX12_risks := fun w h => List.mem_cons_of_mem _ (List.mem_append_right _ h)
set_option maxRecDepth 20000 in
theorem fX12_risks_252 : hq_fl vwCl wsX12_risks RX12 252 12 25 false .int := ⟨RX12, TX12, 57, tyX12, rfl, by decide, iX12_risks_12, by decide +kernel, rfl, tyX12_ok 25 (by decide), tyX12_ok, nmX12⟩
set_option maxHeartbeats 4000000 in
set_option maxRecDepth 100000 in
theorem cb_X12_risks_26 {p : Program} {l : Launch} {e : Env} {s : State} {m : MethodId} {args : Array Value} {below : List Frame} {meth : Method} {c : Code} {D : va_G} {cA : Nat → ClassId} {B : Nat} {Z : State → Prop} (v2 : Int) (rv2 : rg v2) (t0 : Int) (rt0 : rg t0) (t1 : Int) (rt1 : rb t1) {k_4 : Int → Int → Prop} {k : Int → Prop} {M : hq_M} {H : Heap} {locs : List Loc} {ls : Array Slot} (C : hq_C vwCl p m c cX12_risks 3 s args wsX12_risks RX12 meth (some .int) D cA (hq_in B YM.length) Z)
    (hw : b_X12_risks_26 v2 t0 t1 k_4 k M) (hs : hq_S vwCl SLx D cA YM B s.heap M H locs) (hl : lv_has ls 3 [(0, .ref (B + 0)), (2, .int (w3 v2))])
    (hk_4 : ∀ (y1 : Int) (ry1 : rg y1) (y2 : Int) (ry2 : rg y2) (H : Heap) (locs : List Loc) (ls : Array Slot), k_4 y1 y2 → hq_S vwCl SLx D cA YM B s.heap M H locs → lv_has ls 3 [(0, .ref (B + 0)), (1, .int (w3 y1)), (2, .int (w3 y2))] → W p l e ({ frames := 1, cells := 0, slots := 0, locals := 21 } : Room) s m args below meth c H locs 0 0 (MQ below (hq_Q vwCl SLx D cA YM B (hq_qi (fun z M' => M' = M ∧ k z))) args s 0 0 (hq_in B YM.length)) (F0 m 4 ls [])) : W p l e ({ frames := 1, cells := 0, slots := 0, locals := 21 } : Room) s m args below meth c H locs 0 0 (MQ below (hq_Q vwCl SLx D cA YM B (hq_qi (fun z M' => M' = M ∧ k z))) args s 0 0 (hq_in B YM.length)) (F0 m 26 ls [.int (w3 t1), .int (w3 t0)]) := by
  have hx := C.1.1
  have hb := C.1.2.1
  unfold b_X12_risks_26 at hw
  obtain ⟨g1, hw⟩ := hw
  refine hq_iadd C dX12_risks_26 ?_
  refine hq_nm (fun x2 ex2 => ?_)
  have hw := hw x2 ex2
  have rx2 : rg x2 := by rw [ex2]; exact g1
  refine lv_istore_n (lv' := [(1, .int (w3 x2)), (0, .ref (B + 0)), (2, .int (w3 v2))]) hx hb dX12_risks_27 rfl hl (by decide) rfl (fun ls hl => ?_)
  obtain ⟨g4, hw⟩ := hw
  refine hq_iinc (k := 2) C dX12_risks_28 hl rfl (by decide) (fun x3 ex3 ls hl => ?_)
  have hw := hw x3 ex3
  have rx3 : rg x3 := by rw [ex3]; exact g4
  have hl : lv_has ls 3 [(2, .int (w3 x3)), (1, .int (w3 x2)), (0, .ref (B + 0))] := hl
  refine hq_goto (tgt := 4) C dX12_risks_31 (by decide) ?_
  exact hk_4 x2 rx2 x3 rx3 _ _ _ hw hs (lv_sub hl [2, 1, 0] rfl)
set_option maxHeartbeats 4000000 in
set_option maxRecDepth 100000 in
theorem cl_X12_risks_4 {p : Program} {l : Launch} {e : Env} {s : State} {m : MethodId} {args : Array Value} {below : List Frame} {meth : Method} {c : Code} {D : va_G} {cA : Nat → ClassId} {B : Nat} {Z : State → Prop}   {k : Int → Prop} {M : hq_M} (C : hq_C vwCl p m c cX12_risks 3 s args wsX12_risks RX12 meth (some .int) D cA (hq_in B YM.length) Z)
     : ∀ (n : Nat) (v1 : Int) (rv1 : rg v1) (v2 : Int) (rv2 : rg v2) (H : Heap) (locs : List Loc) (ls : Array Slot), l_X12_risks_4 k M n v1 v2 → hq_S vwCl SLx D cA YM B s.heap M H locs → lv_has ls 3 [(0, .ref (B + 0)), (1, .int (w3 v1)), (2, .int (w3 v2))] → W p l e ({ frames := 1, cells := 0, slots := 0, locals := 21 } : Room) s m args below meth c H locs 0 0 (MQ below (hq_Q vwCl SLx D cA YM B (hq_qi (fun z M' => M' = M ∧ k z))) args s 0 0 (hq_in B YM.length)) (F0 m 4 ls []) := by
  have hx := C.1.1
  have hb := C.1.2.1
  intro n
  induction n with
  | zero => intro v1 rv1 v2 rv2 H locs ls hw hs hl; exact hw.elim
  | succ n ih =>
    intro v1 rv1 v2 rv2 H locs ls hw hs hl
    unfold l_X12_risks_4 at hw
    refine lv_iload_n hx hb dX12_risks_4 rfl (lv_at hl 2 rfl) ?_
    refine lv_aload_n hx hb dX12_risks_5 rfl (lv_at hl 0 rfl) ?_
    refine hq_getI (o := 0) C hs fX12_risks_252 tkM_0 (by decide) rfl dX12_risks_6 (fun g1 => ?_)
    refine hq_icmp_ge (tgt := 34) C rv2 g1 dX12_risks_9 (by decide) (fun h => ?_) (fun h => ?_)
    · have hw := hw.1 h
      refine lv_iload_n hx hb dX12_risks_34 rfl (lv_at hl 1 rfl) ?_
      exact hq_iret C hs rv1 ⟨rfl, hw⟩ dX12_risks_35
    · have hw := hw.2 h
      refine lv_iload_n hx hb dX12_risks_12 rfl (lv_at hl 1 rfl) ?_
      refine lv_aload_n hx hb dX12_risks_13 rfl (lv_at hl 0 rfl) ?_
      refine lv_iload_n hx hb dX12_risks_14 rfl (lv_at hl 2 rfl) ?_
      refine hq_cV (n := 1) (ci := 12) (o := 0) (qc := (TX12, 57)) C hs (c_X12_isAtRisk l C.2.2.2.2.1 v2 rv2 _ _ hw) gX12_risks_X12_isAtRisk rfl ⟨rfl, rfl⟩ (by decide +kernel) ⟨Nat.le_of_ble_eq_true rfl, Nat.le_of_ble_eq_true rfl⟩ tkM_0 (by decide) rfl rfl hl.1 rfl (Nat.le_of_ble_eq_true rfl) dX12_risks_15 (hq_kz (fun x2 M9 H locs rx2 hw hs => ?_))
      obtain ⟨e9, hw⟩ := hw; rw [e9] at hs
      refine hq_if_eq (tgt := 25) C (rb_rg rx2) dX12_risks_18 (by decide) (fun h => ?_) (fun h => ?_)
      · have hw := hw.1 h
        refine hq_iconst C dX12_risks_25 ?_
        refine cb_X12_risks_26 v2 rv2 v1 rv1 0 (by decide) C hw hs (lv_sub hl [0, 2] rfl) ?_
        · intro y1 ry1 y2 ry2 H locs ls hw hs hl
          exact ih y1 ry1 y2 ry2 _ _ _ hw hs (lv_sub hl [0, 1, 2] rfl)
      · have hw := hw.2 h
        refine hq_iconst C dX12_risks_21 ?_
        refine hq_goto (tgt := 26) C dX12_risks_22 (by decide) ?_
        refine cb_X12_risks_26 v2 rv2 v1 rv1 1 (by decide) C hw hs (lv_sub hl [0, 2] rfl) ?_
        · intro y1 ry1 y2 ry2 H locs ls hw hs hl
          exact ih y1 ry1 y2 ry2 _ _ _ hw hs (lv_sub hl [0, 1, 2] rfl)
set_option maxHeartbeats 4000000 in
set_option maxRecDepth 100000 in
theorem c_X12_risks (l : Launch) {D : va_G} {cA : Nat → ClassId} {B : Nat} {Z : State → Prop} (hZ : hq_Zo Z (hq_in B YM.length))  (M : hq_M) (k : Int → Prop) (hw : w_X12_risks  M k) : hq_T vwCl SLx l yX12_risks wsX12_risks ({ frames := 1, cells := 0, slots := 0, locals := 21 } : Room) D cA YM B Z [.ref (B + 0)] M (hq_qi (fun z M' => M' = M ∧ k z)) := by
  refine hq_meth (cc := cX12_risks) (maxL := 3) (ret := (some .int)) (own := RX12) hZ rfl (by decide +kernel) rfl (Nat.le_of_ble_eq_true rfl) ?_
  intro p e s m below meth c ls C hs hl
  have hx := C.1.1
  have hb := C.1.2.1
  unfold w_X12_risks at hw
  have hl : lv_has ls 3 [(0, .ref (B + 0))] := hl
  refine hq_iconst C dX12_risks_0 ?_
  refine lv_istore_n (lv' := [(1, .int (w3 0)), (0, .ref (B + 0))]) hx hb dX12_risks_1 rfl hl (by decide) rfl (fun ls hl => ?_)
  refine hq_iconst C dX12_risks_2 ?_
  refine lv_istore_n (lv' := [(2, .int (w3 0)), (1, .int (w3 0)), (0, .ref (B + 0))]) hx hb dX12_risks_3 rfl hl (by decide) rfl (fun ls hl => ?_)
  obtain ⟨n9, hw⟩ := hw
  refine cl_X12_risks_4  C  n9 0 (by decide : rg 0) 0 (by decide : rg 0) _ _ _ hw hs (lv_sub hl [2, 1, 0] rfl)
theorem iX12_laysToLetter_12 : ∀ w ∈ u_ws RX12 TX12 57, w ∈ wsX12_laysToLetter := fun w h => List.mem_cons_of_mem _ (List.mem_append_right _ h)
set_option maxRecDepth 20000 in
theorem fX12_laysToLetter_84 : hq_fl vwCl wsX12_laysToLetter RX12 84 12 40 true (.array .int) := ⟨RX12, TX12, 57, tyX12, rfl, by decide, iX12_laysToLetter_12, by decide +kernel, rfl, tyX12_ok 40 (by decide), tyX12_ok, nmX12⟩
set_option maxRecDepth 20000 in
theorem fX12_laysToLetter_99 : hq_fl vwCl wsX12_laysToLetter RX12 99 12 48 true (.array .int) := ⟨RX12, TX12, 57, tyX12, rfl, by decide, iX12_laysToLetter_12, by decide +kernel, rfl, tyX12_ok 48 (by decide), tyX12_ok, nmX12⟩
set_option maxRecDepth 20000 in
theorem fX12_laysToLetter_267 : hq_fl vwCl wsX12_laysToLetter RX12 267 12 49 false .int := ⟨RX12, TX12, 57, tyX12, rfl, by decide, iX12_laysToLetter_12, by decide +kernel, rfl, tyX12_ok 49 (by decide), tyX12_ok, nmX12⟩
set_option maxRecDepth 20000 in
theorem fX12_laysToLetter_331 : hq_fl vwCl wsX12_laysToLetter RX12 331 12 41 false .int := ⟨RX12, TX12, 57, tyX12, rfl, by decide, iX12_laysToLetter_12, by decide +kernel, rfl, tyX12_ok 41 (by decide), tyX12_ok, nmX12⟩
set_option maxHeartbeats 4000000 in
set_option maxRecDepth 100000 in
theorem cl_X12_laysToLetter_2 {p : Program} {l : Launch} {e : Env} {s : State} {m : MethodId} {args : Array Value} {below : List Frame} {meth : Method} {c : Code} {D : va_G} {cA : Nat → ClassId} {B : Nat} {Z : State → Prop}  {k_41 : hq_M → Prop} {k : hq_M → Prop} (C : hq_C vwCl p m c cX12_laysToLetter 2 s args wsX12_laysToLetter RX12 meth none D cA (hq_in B YM.length) Z)
    (hk_41 : ∀ (M1 : hq_M) (H : Heap) (locs : List Loc) (ls : Array Slot), k_41 M1 → hq_S vwCl SLx D cA YM B s.heap M1 H locs → lv_has ls 2 [(0, .ref (B + 0))] → W p l e ({ frames := 0, cells := 0, slots := 0, locals := 0 } : Room) s m args below meth c H locs 0 0 (MQ below (hq_Q vwCl SLx D cA YM B (hq_qv k)) args s 0 0 (hq_in B YM.length)) (F0 m 41 ls [])) : ∀ (n : Nat) (v1 : Int) (rv1 : rg v1) (M : hq_M) (H : Heap) (locs : List Loc) (ls : Array Slot), l_X12_laysToLetter_2 k_41 k n v1 M → hq_S vwCl SLx D cA YM B s.heap M H locs → lv_has ls 2 [(0, .ref (B + 0)), (1, .int (w3 v1))] → W p l e ({ frames := 0, cells := 0, slots := 0, locals := 0 } : Room) s m args below meth c H locs 0 0 (MQ below (hq_Q vwCl SLx D cA YM B (hq_qv k)) args s 0 0 (hq_in B YM.length)) (F0 m 2 ls []) := by
  have hx := C.1.1
  have hb := C.1.2.1
  intro n
  induction n with
  | zero => intro v1 rv1 M H locs ls hw hs hl; exact hw.elim
  | succ n ih =>
    intro v1 rv1 M H locs ls hw hs hl
    unfold l_X12_laysToLetter_2 at hw
    refine lv_iload_n hx hb dX12_laysToLetter_2 rfl (lv_at hl 1 rfl) ?_
    refine lv_aload_n hx hb dX12_laysToLetter_3 rfl (lv_at hl 0 rfl) ?_
    refine hq_getI (o := 0) C hs fX12_laysToLetter_267 tkM_0 (by decide) rfl dX12_laysToLetter_4 (fun g1 => ?_)
    refine hq_icmp_ge (tgt := 41) C rv1 g1 dX12_laysToLetter_7 (by decide) (fun h => ?_) (fun h => ?_)
    · have hw := hw.1 h
      exact hk_41 _ _ _ _ hw hs (lv_sub hl [0] rfl)
    · have hw := hw.2 h
      refine lv_aload_n hx hb dX12_laysToLetter_10 rfl (lv_at hl 0 rfl) ?_
      refine hq_getA (o := 0) C hs fX12_laysToLetter_84 tkM_0 (by decide) rfl dX12_laysToLetter_11 ?_
      refine lv_aload_n hx hb dX12_laysToLetter_14 rfl (lv_at hl 0 rfl) ?_
      refine hq_getI (o := 0) C hs fX12_laysToLetter_331 tkM_0 (by decide) rfl dX12_laysToLetter_15 (fun g2 => ?_)
      refine lv_aload_n hx hb dX12_laysToLetter_18 rfl (lv_at hl 0 rfl) ?_
      refine hq_getA (o := 0) C hs fX12_laysToLetter_99 tkM_0 (by decide) rfl dX12_laysToLetter_19 ?_
      refine lv_iload_n hx hb dX12_laysToLetter_22 rfl (lv_at hl 1 rfl) ?_
      obtain ⟨g3, hw⟩ := hw
      refine hq_iald (o := 28) C hs tkM_28 rv1 g3 dX12_laysToLetter_23 (fun g4 => ?_)
      obtain ⟨g5, hw⟩ := hw
      refine hq_iast (o := 23) C hs tkM_23 g2 g5 g4 dX12_laysToLetter_24 (fun M6 eM6 H locs hs => ?_)
      have hw := hw M6 eM6
      refine lv_aload_n hx hb dX12_laysToLetter_25 rfl (lv_at hl 0 rfl) ?_
      refine lv_dup hx hb dX12_laysToLetter_26 rfl ?_
      refine hq_getI (o := 0) C hs fX12_laysToLetter_331 tkM_0 (by decide) rfl dX12_laysToLetter_27 (fun g7 => ?_)
      refine hq_iconst C dX12_laysToLetter_30 ?_
      obtain ⟨g8, hw⟩ := hw
      refine hq_iadd C dX12_laysToLetter_31 ?_
      refine hq_putI (o := 0) C hs fX12_laysToLetter_331 tkM_0 (by decide) rfl g8 dX12_laysToLetter_32 (fun M9 eM9 H locs hs => ?_)
      have hw := hw M9 eM9
      obtain ⟨g11, hw⟩ := hw
      refine hq_iinc (k := 1) C dX12_laysToLetter_35 hl rfl (by decide) (fun x10 ex10 ls hl => ?_)
      have hw := hw x10 ex10
      have rx10 : rg x10 := by rw [ex10]; exact g11
      have hl : lv_has ls 2 [(1, .int (w3 x10)), (0, .ref (B + 0))] := hl
      refine hq_goto (tgt := 2) C dX12_laysToLetter_38 (by decide) ?_
      exact ih x10 rx10 _ _ _ _ hw hs (lv_sub hl [1, 0] rfl)
set_option maxHeartbeats 4000000 in
set_option maxRecDepth 100000 in
theorem c_X12_laysToLetter (l : Launch) {D : va_G} {cA : Nat → ClassId} {B : Nat} {Z : State → Prop} (hZ : hq_Zo Z (hq_in B YM.length))  (M : hq_M) (k : hq_M → Prop) (hw : w_X12_laysToLetter  M k) : hq_T vwCl SLx l yX12_laysToLetter wsX12_laysToLetter ({ frames := 0, cells := 0, slots := 0, locals := 0 } : Room) D cA YM B Z [.ref (B + 0)] M (hq_qv k) := by
  refine hq_meth (cc := cX12_laysToLetter) (maxL := 2) (ret := none) (own := RX12) hZ rfl (by decide +kernel) rfl (Nat.le_of_ble_eq_true rfl) ?_
  intro p e s m below meth c ls C hs hl
  have hx := C.1.1
  have hb := C.1.2.1
  unfold w_X12_laysToLetter at hw
  have hl : lv_has ls 2 [(0, .ref (B + 0))] := hl
  refine hq_iconst C dX12_laysToLetter_0 ?_
  refine lv_istore_n (lv' := [(1, .int (w3 0)), (0, .ref (B + 0))]) hx hb dX12_laysToLetter_1 rfl hl (by decide) rfl (fun ls hl => ?_)
  obtain ⟨n9, hw⟩ := hw
  refine cl_X12_laysToLetter_2  C ?_ n9 0 (by decide : rg 0) _ _ _ _ hw hs (lv_sub hl [1, 0] rfl)
  · intro M1 H locs ls hw hs hl
    refine lv_aload_n hx hb dX12_laysToLetter_41 rfl (lv_at hl 0 rfl) ?_
    refine hq_iconst C dX12_laysToLetter_42 ?_
    refine hq_putI (o := 0) C hs fX12_laysToLetter_267 tkM_0 (by decide) rfl (by decide : rg 0) dX12_laysToLetter_43 (fun M2 eM2 H locs hs => ?_)
    have hw := hw M2 eM2
    exact hq_vret C hs hw dX12_laysToLetter_46
theorem iX12_refersTo_12 : ∀ w ∈ u_ws RX12 TX12 57, w ∈ wsX12_refersTo := fun w h => List.mem_cons_of_mem _ (List.mem_append_right _ h)
set_option maxRecDepth 20000 in
theorem fX12_refersTo_81 : hq_fl vwCl wsX12_refersTo RX12 81 12 38 true (.array .int) := ⟨RX12, TX12, 57, tyX12, rfl, by decide, iX12_refersTo_12, by decide +kernel, rfl, tyX12_ok 38 (by decide), tyX12_ok, nmX12⟩
set_option maxRecDepth 20000 in
theorem fX12_refersTo_249 : hq_fl vwCl wsX12_refersTo RX12 249 12 39 false .int := ⟨RX12, TX12, 57, tyX12, rfl, by decide, iX12_refersTo_12, by decide +kernel, rfl, tyX12_ok 39 (by decide), tyX12_ok, nmX12⟩
set_option maxHeartbeats 4000000 in
set_option maxRecDepth 100000 in
theorem c_X12_refersTo (l : Launch) {D : va_G} {cA : Nat → ClassId} {B : Nat} {Z : State → Prop} (hZ : hq_Zo Z (hq_in B YM.length)) (v1 : Int) (rv1 : rg v1) (M : hq_M) (k : hq_M → Prop) (hw : w_X12_refersTo v1 M k) : hq_T vwCl SLx l yX12_refersTo wsX12_refersTo ({ frames := 0, cells := 0, slots := 0, locals := 0 } : Room) D cA YM B Z [.ref (B + 0), .int (w3 v1)] M (hq_qv k) := by
  refine hq_meth (cc := cX12_refersTo) (maxL := 2) (ret := none) (own := RX12) hZ rfl (by decide +kernel) rfl (Nat.le_of_ble_eq_true rfl) ?_
  intro p e s m below meth c ls C hs hl
  have hx := C.1.1
  have hb := C.1.2.1
  unfold w_X12_refersTo at hw
  have hl : lv_has ls 2 [(0, .ref (B + 0)), (1, .int (w3 v1))] := hl
  refine lv_aload_n hx hb dX12_refersTo_0 rfl (lv_at hl 0 rfl) ?_
  refine hq_getA (o := 0) C hs fX12_refersTo_81 tkM_0 (by decide) rfl dX12_refersTo_1 ?_
  refine lv_aload_n hx hb dX12_refersTo_4 rfl (lv_at hl 0 rfl) ?_
  refine hq_getI (o := 0) C hs fX12_refersTo_249 tkM_0 (by decide) rfl dX12_refersTo_5 (fun g1 => ?_)
  refine lv_iload_n hx hb dX12_refersTo_8 rfl (lv_at hl 1 rfl) ?_
  obtain ⟨g2, hw⟩ := hw
  refine hq_iast (o := 22) C hs tkM_22 g1 g2 rv1 dX12_refersTo_9 (fun M3 eM3 H locs hs => ?_)
  have hw := hw M3 eM3
  exact hq_vret C hs hw dX12_refersTo_10
theorem iX12_laysLike_12 : ∀ w ∈ u_ws RX12 TX12 57, w ∈ wsX12_laysLike := fun w h => List.mem_cons_of_mem _ (List.mem_append_right _ h)
set_option maxRecDepth 20000 in
theorem fX12_laysLike_267 : hq_fl vwCl wsX12_laysLike RX12 267 12 49 false .int := ⟨RX12, TX12, 57, tyX12, rfl, by decide, iX12_laysLike_12, by decide +kernel, rfl, tyX12_ok 49 (by decide), tyX12_ok, nmX12⟩
set_option maxHeartbeats 4000000 in
set_option maxRecDepth 100000 in
theorem cb_X12_laysLike_37 {p : Program} {l : Launch} {e : Env} {s : State} {m : MethodId} {args : Array Value} {below : List Frame} {meth : Method} {c : Code} {D : va_G} {cA : Nat → ClassId} {B : Nat} {Z : State → Prop} (v1 : Int) (rv1 : rg v1)  {k : hq_M → Prop} {M : hq_M} {H : Heap} {locs : List Loc} {ls : Array Slot} (C : hq_C vwCl p m c cX12_laysLike 3 s args wsX12_laysLike RX12 meth none D cA (hq_in B YM.length) Z)
    (hw : b_X12_laysLike_37 v1 k M) (hs : hq_S vwCl SLx D cA YM B s.heap M H locs) (hl : lv_has ls 3 [(0, .ref (B + 0)), (1, .int (w3 v1))])
     : W p l e ({ frames := 2, cells := 0, slots := 0, locals := 46 } : Room) s m args below meth c H locs 0 0 (MQ below (hq_Q vwCl SLx D cA YM B (hq_qv k)) args s 0 0 (hq_in B YM.length)) (F0 m 37 ls []) := by
  have hx := C.1.1
  have hb := C.1.2.1
  unfold b_X12_laysLike_37 at hw
  refine lv_aload_n hx hb dX12_laysLike_37 rfl (lv_at hl 0 rfl) ?_
  refine lv_iload_n hx hb dX12_laysLike_38 rfl (lv_at hl 1 rfl) ?_
  refine hq_cV (n := 1) (ci := 12) (o := 0) (qc := (TX12, 57)) C hs (c_X12_refersTo l C.2.2.2.2.1 v1 rv1 _ _ hw) gX12_laysLike_X12_refersTo rfl ⟨rfl, rfl⟩ (by decide +kernel) ⟨Nat.le_of_ble_eq_true rfl, Nat.le_of_ble_eq_true rfl⟩ tkM_0 (by decide) rfl rfl hl.1 rfl (Nat.le_of_ble_eq_true rfl) dX12_laysLike_39 (hq_kv (fun M1 H locs hw hs => ?_))
  exact hq_vret C hs hw dX12_laysLike_42
set_option maxHeartbeats 4000000 in
set_option maxRecDepth 100000 in
theorem c_X12_laysLike (l : Launch) {D : va_G} {cA : Nat → ClassId} {B : Nat} {Z : State → Prop} (hZ : hq_Zo Z (hq_in B YM.length)) (v1 : Int) (rv1 : rg v1) (v2 : Int) (rv2 : rg v2) (M : hq_M) (k : hq_M → Prop) (hw : w_X12_laysLike v1 v2 M k) : hq_T vwCl SLx l yX12_laysLike wsX12_laysLike ({ frames := 2, cells := 0, slots := 0, locals := 46 } : Room) D cA YM B Z [.ref (B + 0), .int (w3 v1), .int (w3 v2)] M (hq_qv k) := by
  refine hq_meth (cc := cX12_laysLike) (maxL := 3) (ret := none) (own := RX12) hZ rfl (by decide +kernel) rfl (Nat.le_of_ble_eq_true rfl) ?_
  intro p e s m below meth c ls C hs hl
  have hx := C.1.1
  have hb := C.1.2.1
  unfold w_X12_laysLike at hw
  have hl : lv_has ls 3 [(0, .ref (B + 0)), (1, .int (w3 v1)), (2, .int (w3 v2))] := hl
  refine lv_aload_n hx hb dX12_laysLike_0 rfl (lv_at hl 0 rfl) ?_
  refine hq_iconst C dX12_laysLike_1 ?_
  refine hq_putI (o := 0) C hs fX12_laysLike_267 tkM_0 (by decide) rfl (by decide : rg 0) dX12_laysLike_2 (fun M1 eM1 H locs hs => ?_)
  have hw := hw M1 eM1
  refine lv_iload_n hx hb dX12_laysLike_5 rfl (lv_at hl 1 rfl) ?_
  refine lv_iload_n hx hb dX12_laysLike_6 rfl (lv_at hl 2 rfl) ?_
  refine hq_icmp_ge (tgt := 27) C rv1 rv2 dX12_laysLike_7 (by decide) (fun h => ?_) (fun h => ?_)
  · have hw := hw.1 h
    refine lv_aload_n hx hb dX12_laysLike_27 rfl (lv_at hl 0 rfl) ?_
    refine hq_bipush C dX12_laysLike_28 (by decide) ?_
    refine hq_iconst C dX12_laysLike_30 ?_
    refine lv_iload_n hx hb dX12_laysLike_31 rfl (lv_at hl 1 rfl) ?_
    refine lv_iload_n hx hb dX12_laysLike_32 rfl (lv_at hl 2 rfl) ?_
    obtain ⟨g2, hw⟩ := hw
    refine hq_isub C dX12_laysLike_33 ?_
    refine hq_cV (n := 3) (ci := 12) (o := 0) (qc := (TX12, 57)) C hs (c_X12_laysNumber l C.2.2.2.2.1 16 (by decide : rg 16) 4 (by decide : rg 4) (v1 - v2) g2 _ _ hw) gX12_laysLike_X12_laysNumber rfl ⟨rfl, rfl⟩ (by decide +kernel) ⟨Nat.le_of_ble_eq_true rfl, Nat.le_of_ble_eq_true rfl⟩ tkM_0 (by decide) rfl rfl hl.1 rfl (Nat.le_of_ble_eq_true rfl) dX12_laysLike_34 (hq_kv (fun M3 H locs hw hs => ?_))
    refine cb_X12_laysLike_37 v1 rv1 C hw hs (lv_sub hl [0, 1] rfl) 
  · have hw := hw.2 h
    refine lv_aload_n hx hb dX12_laysLike_10 rfl (lv_at hl 0 rfl) ?_
    refine hq_sipush C dX12_laysLike_11 (by decide) ?_
    refine hq_bipush C dX12_laysLike_14 (by decide) ?_
    refine lv_iload_n hx hb dX12_laysLike_16 rfl (lv_at hl 2 rfl) ?_
    refine hq_iconst C dX12_laysLike_17 ?_
    obtain ⟨g4, hw⟩ := hw
    refine hq_isub C dX12_laysLike_18 ?_
    refine lv_iload_n hx hb dX12_laysLike_19 rfl (lv_at hl 1 rfl) ?_
    obtain ⟨g5, hw⟩ := hw
    refine hq_isub C dX12_laysLike_20 ?_
    refine hq_cV (n := 3) (ci := 12) (o := 0) (qc := (TX12, 57)) C hs (c_X12_laysNumber l C.2.2.2.2.1 128 (by decide : rg 128) 6 (by decide : rg 6) ((v2 - 1) - v1) g5 _ _ hw) gX12_laysLike_X12_laysNumber rfl ⟨rfl, rfl⟩ (by decide +kernel) ⟨Nat.le_of_ble_eq_true rfl, Nat.le_of_ble_eq_true rfl⟩ tkM_0 (by decide) rfl rfl hl.1 rfl (Nat.le_of_ble_eq_true rfl) dX12_laysLike_21 (hq_kv (fun M6 H locs hw hs => ?_))
    refine hq_goto (tgt := 37) C dX12_laysLike_24 (by decide) ?_
    refine cb_X12_laysLike_37 v1 rv1 C hw hs (lv_sub hl [0, 1] rfl) 
theorem iX12_laysByName_12 : ∀ w ∈ u_ws RX12 TX12 57, w ∈ wsX12_laysByName := fun w h => List.mem_cons_of_mem _ (List.mem_append_right _ h)
set_option maxRecDepth 20000 in
theorem fX12_laysByName_16 : hq_fl vwCl wsX12_laysByName RX12 16 12 4 true (.array .int) := ⟨RX12, TX12, 57, tyX12, rfl, by decide, iX12_laysByName_12, by decide +kernel, rfl, tyX12_ok 4 (by decide), tyX12_ok, nmX12⟩
set_option maxRecDepth 20000 in
theorem fX12_laysByName_267 : hq_fl vwCl wsX12_laysByName RX12 267 12 49 false .int := ⟨RX12, TX12, 57, tyX12, rfl, by decide, iX12_laysByName_12, by decide +kernel, rfl, tyX12_ok 49 (by decide), tyX12_ok, nmX12⟩
set_option maxHeartbeats 4000000 in
set_option maxRecDepth 100000 in
theorem cb_X12_laysByName_107 {p : Program} {l : Launch} {e : Env} {s : State} {m : MethodId} {args : Array Value} {below : List Frame} {meth : Method} {c : Code} {D : va_G} {cA : Nat → ClassId} {B : Nat} {Z : State → Prop} (v1 : Int) (rv1 : rg v1)  {k : hq_M → Prop} {M : hq_M} {H : Heap} {locs : List Loc} {ls : Array Slot} (C : hq_C vwCl p m c cX12_laysByName 6 s args wsX12_laysByName RX12 meth none D cA (hq_in B YM.length) Z)
    (hw : b_X12_laysByName_107 v1 k M) (hs : hq_S vwCl SLx D cA YM B s.heap M H locs) (hl : lv_has ls 6 [(0, .ref (B + 0)), (1, .int (w3 v1))])
     : W p l e ({ frames := 3, cells := 0, slots := 0, locals := 71 } : Room) s m args below meth c H locs 0 0 (MQ below (hq_Q vwCl SLx D cA YM B (hq_qv k)) args s 0 0 (hq_in B YM.length)) (F0 m 107 ls []) := by
  have hx := C.1.1
  have hb := C.1.2.1
  unfold b_X12_laysByName_107 at hw
  refine lv_aload_n hx hb dX12_laysByName_107 rfl (lv_at hl 0 rfl) ?_
  refine lv_iload_n hx hb dX12_laysByName_108 rfl (lv_at hl 1 rfl) ?_
  refine hq_cV (n := 1) (ci := 12) (o := 0) (qc := (TX12, 57)) C hs (c_X12_laysValue l C.2.2.2.2.1 v1 rv1 _ _ hw) gX12_laysByName_X12_laysValue rfl ⟨rfl, rfl⟩ (by decide +kernel) ⟨Nat.le_of_ble_eq_true rfl, Nat.le_of_ble_eq_true rfl⟩ tkM_0 (by decide) rfl rfl hl.1 rfl (Nat.le_of_ble_eq_true rfl) dX12_laysByName_109 (hq_kv (fun M1 H locs hw hs => ?_))
  exact hq_vret C hs hw dX12_laysByName_112
set_option maxHeartbeats 4000000 in
set_option maxRecDepth 100000 in
theorem c_X12_laysByName (l : Launch) {D : va_G} {cA : Nat → ClassId} {B : Nat} {Z : State → Prop} (hZ : hq_Zo Z (hq_in B YM.length)) (v1 : Int) (rv1 : rg v1) (v2 : Int) (rv2 : rg v2) (v3 : Int) (rv3 : rg v3) (M : hq_M) (k : hq_M → Prop) (hw : w_X12_laysByName v1 v2 v3 M k) : hq_T vwCl SLx l yX12_laysByName wsX12_laysByName ({ frames := 3, cells := 0, slots := 0, locals := 71 } : Room) D cA YM B Z [.ref (B + 0), .int (w3 v1), .int (w3 v2), .int (w3 v3)] M (hq_qv k) := by
  refine hq_meth (cc := cX12_laysByName) (maxL := 6) (ret := none) (own := RX12) hZ rfl (by decide +kernel) rfl (Nat.le_of_ble_eq_true rfl) ?_
  intro p e s m below meth c ls C hs hl
  have hx := C.1.1
  have hb := C.1.2.1
  unfold w_X12_laysByName at hw
  have hl : lv_has ls 6 [(0, .ref (B + 0)), (1, .int (w3 v1)), (2, .int (w3 v2)), (3, .int (w3 v3))] := hl
  refine lv_aload_n hx hb dX12_laysByName_0 rfl (lv_at hl 0 rfl) ?_
  refine hq_iconst C dX12_laysByName_1 ?_
  refine hq_putI (o := 0) C hs fX12_laysByName_267 tkM_0 (by decide) rfl (by decide : rg 0) dX12_laysByName_2 (fun M1 eM1 H locs hs => ?_)
  have hw := hw M1 eM1
  refine lv_aload_n hx hb dX12_laysByName_5 rfl (lv_at hl 0 rfl) ?_
  refine lv_iload_n hx hb dX12_laysByName_6 rfl (lv_at hl 1 rfl) ?_
  refine hq_iconst C dX12_laysByName_7 ?_
  refine hq_cV (n := 2) (ci := 12) (o := 0) (qc := (TX12, 57)) C hs (c_X12_stillOf l C.2.2.2.2.1 v1 rv1 0 (by decide) _ _ hw) gX12_laysByName_X12_stillOf rfl ⟨rfl, rfl⟩ (by decide +kernel) ⟨Nat.le_of_ble_eq_true rfl, Nat.le_of_ble_eq_true rfl⟩ tkM_0 (by decide) rfl rfl hl.1 rfl (Nat.le_of_ble_eq_true rfl) dX12_laysByName_8 (hq_ki (fun x2 M9 H locs rx2 hw hs => ?_))
  obtain ⟨e9, hw⟩ := hw; rw [e9] at hs
  refine lv_istore (lv' := [(4, .int (w3 x2)), (0, .ref (B + 0)), (1, .int (w3 v1)), (2, .int (w3 v2)), (3, .int (w3 v3))]) hx hb dX12_laysByName_11 hl (by decide) rfl (fun ls hl => ?_)
  refine lv_aload_n hx hb dX12_laysByName_13 rfl (lv_at hl 1 rfl) ?_
  refine lv_iload_n hx hb dX12_laysByName_14 rfl (lv_at hl 2 rfl) ?_
  refine lv_iload_n hx hb dX12_laysByName_15 rfl (lv_at hl 3 rfl) ?_
  refine hq_iconst C dX12_laysByName_16 ?_
  refine hq_cV (n := 3) (ci := 12) (o := 0) (qc := (TX12, 57)) C hs (c_X12_latest l C.2.2.2.2.1 v1 rv1 v2 rv2 0 (by decide) _ _ hw) gX12_laysByName_X12_latest rfl ⟨rfl, rfl⟩ (by decide +kernel) ⟨Nat.le_of_ble_eq_true rfl, Nat.le_of_ble_eq_true rfl⟩ tkM_0 (by decide) rfl rfl hl.1 rfl (Nat.le_of_ble_eq_true rfl) dX12_laysByName_17 (hq_ki (fun x3 M9 H locs rx3 hw hs => ?_))
  obtain ⟨e9, hw⟩ := hw; rw [e9] at hs
  refine lv_istore (lv' := [(5, .int (w3 x3)), (4, .int (w3 x2)), (0, .ref (B + 0)), (1, .int (w3 v1)), (2, .int (w3 v2)), (3, .int (w3 v3))]) hx hb dX12_laysByName_20 hl (by decide) rfl (fun ls hl => ?_)
  refine lv_iload hx hb dX12_laysByName_22 (lv_at hl 1 rfl) ?_
  refine hq_bipush C dX12_laysByName_24 (by decide) ?_
  refine hq_icmp_eq (tgt := 41) C rx2 (by decide : rg (-9)) dX12_laysByName_26 (by decide) (fun h => ?_) (fun h => ?_)
  · have hw := hw.1 h
    refine lv_iload hx hb dX12_laysByName_41 (lv_at hl 0 rfl) ?_
    refine hq_bipush C dX12_laysByName_43 (by decide) ?_
    refine hq_icmp_eq (tgt := 89) C rx3 (by decide : rg (-9)) dX12_laysByName_45 (by decide) (fun h => ?_) (fun h => ?_)
    · have hw := hw.1 h
      refine lv_aload_n hx hb dX12_laysByName_89 rfl (lv_at hl 2 rfl) ?_
      refine hq_bipush C dX12_laysByName_90 (by decide) ?_
      refine hq_iconst C dX12_laysByName_92 ?_
      refine lv_aload_n hx hb dX12_laysByName_93 rfl (lv_at hl 2 rfl) ?_
      refine hq_getA (o := 0) C hs fX12_laysByName_16 tkM_0 (by decide) rfl dX12_laysByName_94 ?_
      refine lv_iload_n hx hb dX12_laysByName_97 rfl (lv_at hl 3 rfl) ?_
      obtain ⟨g4, hw⟩ := hw
      refine hq_iald (o := 1) C hs tkM_1 rv1 g4 dX12_laysByName_98 (fun g5 => ?_)
      refine hq_cV (n := 3) (ci := 12) (o := 0) (qc := (TX12, 57)) C hs (c_X12_laysNumber l C.2.2.2.2.1 32 (by decide : rg 32) 3 (by decide : rg 3) (M1 1 v1.toNat) g5 _ _ hw) gX12_laysByName_X12_laysNumber rfl ⟨rfl, rfl⟩ (by decide +kernel) ⟨Nat.le_of_ble_eq_true rfl, Nat.le_of_ble_eq_true rfl⟩ tkM_0 (by decide) rfl rfl hl.1 rfl (Nat.le_of_ble_eq_true rfl) dX12_laysByName_99 (hq_kv (fun M6 H locs hw hs => ?_))
      refine lv_aload_n hx hb dX12_laysByName_102 rfl (lv_at hl 2 rfl) ?_
      refine lv_iload_n hx hb dX12_laysByName_103 rfl (lv_at hl 3 rfl) ?_
      refine hq_cV (n := 1) (ci := 12) (o := 0) (qc := (TX12, 57)) C hs (c_X12_laysName l C.2.2.2.2.1 v1 rv1 _ _ hw) gX12_laysByName_X12_laysName rfl ⟨rfl, rfl⟩ (by decide +kernel) ⟨Nat.le_of_ble_eq_true rfl, Nat.le_of_ble_eq_true rfl⟩ tkM_0 (by decide) rfl rfl hl.1 rfl (Nat.le_of_ble_eq_true rfl) dX12_laysByName_104 (hq_kv (fun M7 H locs hw hs => ?_))
      refine cb_X12_laysByName_107 v1 rv1 C hw hs (lv_sub hl [2, 3] rfl) 
    · have hw := hw.2 h
      refine lv_aload_n hx hb dX12_laysByName_48 rfl (lv_at hl 2 rfl) ?_
      refine lv_iload hx hb dX12_laysByName_49 (lv_at hl 0 rfl) ?_
      refine hq_cV (n := 1) (ci := 12) (o := 0) (qc := (TX12, 57)) C hs (c_X12_refersTo l C.2.2.2.2.1 x3 rx3 _ _ hw) gX12_laysByName_X12_refersTo rfl ⟨rfl, rfl⟩ (by decide +kernel) ⟨Nat.le_of_ble_eq_true rfl, Nat.le_of_ble_eq_true rfl⟩ tkM_0 (by decide) rfl rfl hl.1 rfl (Nat.le_of_ble_eq_true rfl) dX12_laysByName_51 (hq_kv (fun M8 H locs hw hs => ?_))
      refine lv_iload hx hb dX12_laysByName_54 (lv_at hl 0 rfl) ?_
      refine lv_iload_n hx hb dX12_laysByName_56 rfl (lv_at hl 5 rfl) ?_
      refine hq_icmp_ge (tgt := 76) C rx3 rv3 dX12_laysByName_57 (by decide) (fun h => ?_) (fun h => ?_)
      · have hw := hw.1 h
        refine lv_aload_n hx hb dX12_laysByName_76 rfl (lv_at hl 2 rfl) ?_
        refine hq_iconst C dX12_laysByName_77 ?_
        refine hq_iconst C dX12_laysByName_78 ?_
        refine lv_iload hx hb dX12_laysByName_79 (lv_at hl 0 rfl) ?_
        refine lv_iload_n hx hb dX12_laysByName_81 rfl (lv_at hl 5 rfl) ?_
        obtain ⟨g9, hw⟩ := hw
        refine hq_isub C dX12_laysByName_82 ?_
        refine hq_cV (n := 3) (ci := 12) (o := 0) (qc := (TX12, 57)) C hs (c_X12_laysNumber l C.2.2.2.2.1 0 (by decide : rg 0) 3 (by decide : rg 3) (x3 - v3) g9 _ _ hw) gX12_laysByName_X12_laysNumber rfl ⟨rfl, rfl⟩ (by decide +kernel) ⟨Nat.le_of_ble_eq_true rfl, Nat.le_of_ble_eq_true rfl⟩ tkM_0 (by decide) rfl rfl hl.1 rfl (Nat.le_of_ble_eq_true rfl) dX12_laysByName_83 (hq_kv (fun M10 H locs hw hs => ?_))
        refine hq_goto (tgt := 107) C dX12_laysByName_86 (by decide) ?_
        refine cb_X12_laysByName_107 v1 rv1 C hw hs (lv_sub hl [2, 3] rfl) 
      · have hw := hw.2 h
        refine lv_aload_n hx hb dX12_laysByName_60 rfl (lv_at hl 2 rfl) ?_
        refine hq_bipush C dX12_laysByName_61 (by decide) ?_
        refine hq_iconst C dX12_laysByName_63 ?_
        refine lv_iload_n hx hb dX12_laysByName_64 rfl (lv_at hl 5 rfl) ?_
        refine hq_iconst C dX12_laysByName_65 ?_
        obtain ⟨g11, hw⟩ := hw
        refine hq_isub C dX12_laysByName_66 ?_
        refine lv_iload hx hb dX12_laysByName_67 (lv_at hl 0 rfl) ?_
        obtain ⟨g12, hw⟩ := hw
        refine hq_isub C dX12_laysByName_69 ?_
        refine hq_cV (n := 3) (ci := 12) (o := 0) (qc := (TX12, 57)) C hs (c_X12_laysNumber l C.2.2.2.2.1 64 (by decide : rg 64) 4 (by decide : rg 4) ((v3 - 1) - x3) g12 _ _ hw) gX12_laysByName_X12_laysNumber rfl ⟨rfl, rfl⟩ (by decide +kernel) ⟨Nat.le_of_ble_eq_true rfl, Nat.le_of_ble_eq_true rfl⟩ tkM_0 (by decide) rfl rfl hl.1 rfl (Nat.le_of_ble_eq_true rfl) dX12_laysByName_70 (hq_kv (fun M13 H locs hw hs => ?_))
        refine hq_goto (tgt := 107) C dX12_laysByName_73 (by decide) ?_
        refine cb_X12_laysByName_107 v1 rv1 C hw hs (lv_sub hl [2, 3] rfl) 
  · have hw := hw.2 h
    refine lv_aload_n hx hb dX12_laysByName_29 rfl (lv_at hl 2 rfl) ?_
    refine hq_bipush C dX12_laysByName_30 (by decide) ?_
    refine hq_iconst C dX12_laysByName_32 ?_
    refine lv_iload hx hb dX12_laysByName_33 (lv_at hl 1 rfl) ?_
    refine hq_cV (n := 3) (ci := 12) (o := 0) (qc := (TX12, 57)) C hs (c_X12_laysNumber l C.2.2.2.2.1 80 (by decide : rg 80) 4 (by decide : rg 4) x2 rx2 _ _ hw) gX12_laysByName_X12_laysNumber rfl ⟨rfl, rfl⟩ (by decide +kernel) ⟨Nat.le_of_ble_eq_true rfl, Nat.le_of_ble_eq_true rfl⟩ tkM_0 (by decide) rfl rfl hl.1 rfl (Nat.le_of_ble_eq_true rfl) dX12_laysByName_35 (hq_kv (fun M14 H locs hw hs => ?_))
    refine hq_goto (tgt := 107) C dX12_laysByName_38 (by decide) ?_
    refine cb_X12_laysByName_107 v1 rv1 C hw hs (lv_sub hl [2, 3] rfl) 
theorem iX12_laysField_12 : ∀ w ∈ u_ws RX12 TX12 57, w ∈ wsX12_laysField := fun w h => List.mem_cons_of_mem _ (List.mem_append_right _ h)
set_option maxRecDepth 20000 in
theorem fX12_laysField_32 : hq_fl vwCl wsX12_laysField RX12 32 12 18 true (.array .int) := ⟨RX12, TX12, 57, tyX12, rfl, by decide, iX12_laysField_12, by decide +kernel, rfl, tyX12_ok 18 (by decide), tyX12_ok, nmX12⟩
set_option maxRecDepth 20000 in
theorem fX12_laysField_249 : hq_fl vwCl wsX12_laysField RX12 249 12 39 false .int := ⟨RX12, TX12, 57, tyX12, rfl, by decide, iX12_laysField_12, by decide +kernel, rfl, tyX12_ok 39 (by decide), tyX12_ok, nmX12⟩
set_option maxRecDepth 20000 in
theorem fX12_laysField_258 : hq_fl vwCl wsX12_laysField RX12 258 12 23 false .int := ⟨RX12, TX12, 57, tyX12, rfl, by decide, iX12_laysField_12, by decide +kernel, rfl, tyX12_ok 23 (by decide), tyX12_ok, nmX12⟩
set_option maxRecDepth 20000 in
theorem fX12_laysField_267 : hq_fl vwCl wsX12_laysField RX12 267 12 49 false .int := ⟨RX12, TX12, 57, tyX12, rfl, by decide, iX12_laysField_12, by decide +kernel, rfl, tyX12_ok 49 (by decide), tyX12_ok, nmX12⟩
set_option maxHeartbeats 4000000 in
set_option maxRecDepth 100000 in
theorem cb_X12_laysField_143 {p : Program} {l : Launch} {e : Env} {s : State} {m : MethodId} {args : Array Value} {below : List Frame} {meth : Method} {c : Code} {D : va_G} {cA : Nat → ClassId} {B : Nat} {Z : State → Prop}   {k : hq_M → Prop} {M : hq_M} {H : Heap} {locs : List Loc} {ls : Array Slot} (C : hq_C vwCl p m c cX12_laysField 8 s args wsX12_laysField RX12 meth none D cA (hq_in B YM.length) Z)
    (hw : b_X12_laysField_143 k M) (hs : hq_S vwCl SLx D cA YM B s.heap M H locs) (hl : lv_has ls 8 [(0, .ref (B + 0))])
     : W p l e ({ frames := 6, cells := 0, slots := 0, locals := 136 } : Room) s m args below meth c H locs 0 0 (MQ below (hq_Q vwCl SLx D cA YM B (hq_qv k)) args s 0 0 (hq_in B YM.length)) (F0 m 143 ls []) := by
  have hx := C.1.1
  have hb := C.1.2.1
  unfold b_X12_laysField_143 at hw
  refine lv_aload_n hx hb dX12_laysField_143 rfl (lv_at hl 0 rfl) ?_
  refine hq_cV (n := 0) (ci := 12) (o := 0) (qc := (TX12, 57)) C hs (c_X12_laysToLetter l C.2.2.2.2.1 _ _ hw) gX12_laysField_X12_laysToLetter rfl ⟨rfl, rfl⟩ (by decide +kernel) ⟨Nat.le_of_ble_eq_true rfl, Nat.le_of_ble_eq_true rfl⟩ tkM_0 (by decide) rfl rfl hl.1 rfl (Nat.le_of_ble_eq_true rfl) dX12_laysField_144 (hq_kv (fun M1 H locs hw hs => ?_))
  refine lv_aload_n hx hb dX12_laysField_147 rfl (lv_at hl 0 rfl) ?_
  refine lv_dup hx hb dX12_laysField_148 rfl ?_
  refine hq_getI (o := 0) C hs fX12_laysField_249 tkM_0 (by decide) rfl dX12_laysField_149 (fun g2 => ?_)
  refine hq_iconst C dX12_laysField_152 ?_
  obtain ⟨g3, hw⟩ := hw
  refine hq_iadd C dX12_laysField_153 ?_
  refine hq_putI (o := 0) C hs fX12_laysField_249 tkM_0 (by decide) rfl g3 dX12_laysField_154 (fun M4 eM4 H locs hs => ?_)
  have hw := hw M4 eM4
  exact hq_vret C hs hw dX12_laysField_157
set_option maxHeartbeats 4000000 in
set_option maxRecDepth 100000 in
theorem cb_X12_laysField_138 {p : Program} {l : Launch} {e : Env} {s : State} {m : MethodId} {args : Array Value} {below : List Frame} {meth : Method} {c : Code} {D : va_G} {cA : Nat → ClassId} {B : Nat} {Z : State → Prop} (v4 : Int) (rv4 : rg v4) (t1 : Int) (rt1 : rg t1) (t2 : Int) (rt2 : rg t2)  {k : hq_M → Prop} {M : hq_M} {H : Heap} {locs : List Loc} {ls : Array Slot} (C : hq_C vwCl p m c cX12_laysField 8 s args wsX12_laysField RX12 meth none D cA (hq_in B YM.length) Z)
    (hw : b_X12_laysField_138 v4 t1 t2 k M) (hs : hq_S vwCl SLx D cA YM B s.heap M H locs) (hl : lv_has ls 8 [(0, .ref (B + 0)), (4, .int (w3 v4))])
     : W p l e ({ frames := 6, cells := 0, slots := 0, locals := 136 } : Room) s m args below meth c H locs 0 0 (MQ below (hq_Q vwCl SLx D cA YM B (hq_qv k)) args s 0 0 (hq_in B YM.length)) (F0 m 138 ls [.int (w3 t2), .int (w3 t1), .ref (B + 0)]) := by
  have hx := C.1.1
  have hb := C.1.2.1
  unfold b_X12_laysField_138 at hw
  refine lv_iload hx hb dX12_laysField_138 (lv_at hl 1 rfl) ?_
  refine hq_cV (n := 3) (ci := 12) (o := 0) (qc := (TX12, 57)) C hs (c_X12_laysByName l C.2.2.2.2.1 t1 rt1 t2 rt2 v4 rv4 _ _ hw) gX12_laysField_X12_laysByName rfl ⟨rfl, rfl⟩ (by decide +kernel) ⟨Nat.le_of_ble_eq_true rfl, Nat.le_of_ble_eq_true rfl⟩ tkM_0 (by decide) rfl rfl hl.1 rfl (Nat.le_of_ble_eq_true rfl) dX12_laysField_140 (hq_kv (fun M1 H locs hw hs => ?_))
  refine cb_X12_laysField_143  C hw hs (lv_sub hl [0] rfl) 
set_option maxHeartbeats 4000000 in
set_option maxRecDepth 100000 in
theorem cb_X12_laysField_101 {p : Program} {l : Launch} {e : Env} {s : State} {m : MethodId} {args : Array Value} {below : List Frame} {meth : Method} {c : Code} {D : va_G} {cA : Nat → ClassId} {B : Nat} {Z : State → Prop} (v1 : Int) (rv1 : rg v1) (v2 : Int) (rv2 : rb v2) (v4 : Int) (rv4 : rg v4) (v6 : Int) (rv6 : rg v6)  {k : hq_M → Prop} {M : hq_M} {H : Heap} {locs : List Loc} {ls : Array Slot} (C : hq_C vwCl p m c cX12_laysField 8 s args wsX12_laysField RX12 meth none D cA (hq_in B YM.length) Z)
    (hw : b_X12_laysField_101 v1 v2 v4 v6 k M) (hs : hq_S vwCl SLx D cA YM B s.heap M H locs) (hl : lv_has ls 8 [(0, .ref (B + 0)), (1, .int (w3 v1)), (2, .int (w3 v2)), (4, .int (w3 v4)), (6, .int (w3 v6))])
     : W p l e ({ frames := 6, cells := 0, slots := 0, locals := 136 } : Room) s m args below meth c H locs 0 0 (MQ below (hq_Q vwCl SLx D cA YM B (hq_qv k)) args s 0 0 (hq_in B YM.length)) (F0 m 101 ls []) := by
  have hx := C.1.1
  have hb := C.1.2.1
  unfold b_X12_laysField_101 at hw
  refine lv_iload hx hb dX12_laysField_101 (lv_at hl 4 rfl) ?_
  refine hq_bipush C dX12_laysField_103 (by decide) ?_
  refine hq_icmp_eq (tgt := 119) C rv6 (by decide : rg (-9)) dX12_laysField_105 (by decide) (fun h => ?_) (fun h => ?_)
  · have hw := hw.1 h
    refine lv_aload_n hx hb dX12_laysField_119 rfl (lv_at hl 0 rfl) ?_
    refine lv_iload_n hx hb dX12_laysField_120 rfl (lv_at hl 1 rfl) ?_
    refine lv_iload_n hx hb dX12_laysField_121 rfl (lv_at hl 2 rfl) ?_
    refine hq_if_eq (tgt := 134) C (rb_rg rv2) dX12_laysField_122 (by decide) (fun h => ?_) (fun h => ?_)
    · have hw := hw.1 h
      refine lv_aload_n hx hb dX12_laysField_134 rfl (lv_at hl 0 rfl) ?_
      refine hq_getI (o := 0) C hs fX12_laysField_258 tkM_0 (by decide) rfl dX12_laysField_135 (fun g1 => ?_)
      refine cb_X12_laysField_138 v4 rv4 v1 rv1 (M 0 23) g1 C hw hs (lv_sub hl [0, 3] rfl) 
    · have hw := hw.2 h
      refine lv_aload_n hx hb dX12_laysField_125 rfl (lv_at hl 0 rfl) ?_
      refine hq_getA (o := 0) C hs fX12_laysField_32 tkM_0 (by decide) rfl dX12_laysField_126 ?_
      refine hq_iconst C dX12_laysField_129 ?_
      obtain ⟨g2, hw⟩ := hw
      refine hq_iald (o := 6) C hs tkM_6 (by decide : rg 0) g2 dX12_laysField_130 (fun g3 => ?_)
      refine hq_goto (tgt := 138) C dX12_laysField_131 (by decide) ?_
      refine cb_X12_laysField_138 v4 rv4 v1 rv1 (M 6 0) g3 C hw hs (lv_sub hl [0, 3] rfl) 
  · have hw := hw.2 h
    refine lv_aload_n hx hb dX12_laysField_108 rfl (lv_at hl 0 rfl) ?_
    refine lv_iload hx hb dX12_laysField_109 (lv_at hl 4 rfl) ?_
    refine lv_iload hx hb dX12_laysField_111 (lv_at hl 3 rfl) ?_
    refine hq_cV (n := 2) (ci := 12) (o := 0) (qc := (TX12, 57)) C hs (c_X12_laysLike l C.2.2.2.2.1 v6 rv6 v4 rv4 _ _ hw) gX12_laysField_X12_laysLike rfl ⟨rfl, rfl⟩ (by decide +kernel) ⟨Nat.le_of_ble_eq_true rfl, Nat.le_of_ble_eq_true rfl⟩ tkM_0 (by decide) rfl rfl hl.1 rfl (Nat.le_of_ble_eq_true rfl) dX12_laysField_113 (hq_kv (fun M4 H locs hw hs => ?_))
    refine hq_goto (tgt := 143) C dX12_laysField_116 (by decide) ?_
    refine cb_X12_laysField_143  C hw hs (lv_sub hl [0] rfl) 
set_option maxHeartbeats 4000000 in
set_option maxRecDepth 100000 in
theorem cb_X12_laysField_99 {p : Program} {l : Launch} {e : Env} {s : State} {m : MethodId} {args : Array Value} {below : List Frame} {meth : Method} {c : Code} {D : va_G} {cA : Nat → ClassId} {B : Nat} {Z : State → Prop} (v1 : Int) (rv1 : rg v1) (v2 : Int) (rv2 : rb v2) (v4 : Int) (rv4 : rg v4) (t0 : Int) (rt0 : rg t0)  {k : hq_M → Prop} {M : hq_M} {H : Heap} {locs : List Loc} {ls : Array Slot} (C : hq_C vwCl p m c cX12_laysField 8 s args wsX12_laysField RX12 meth none D cA (hq_in B YM.length) Z)
    (hw : b_X12_laysField_99 v1 v2 v4 t0 k M) (hs : hq_S vwCl SLx D cA YM B s.heap M H locs) (hl : lv_has ls 8 [(0, .ref (B + 0)), (1, .int (w3 v1)), (2, .int (w3 v2)), (4, .int (w3 v4))])
     : W p l e ({ frames := 6, cells := 0, slots := 0, locals := 136 } : Room) s m args below meth c H locs 0 0 (MQ below (hq_Q vwCl SLx D cA YM B (hq_qv k)) args s 0 0 (hq_in B YM.length)) (F0 m 99 ls [.int (w3 t0)]) := by
  have hx := C.1.1
  have hb := C.1.2.1
  unfold b_X12_laysField_99 at hw
  refine lv_istore (lv' := [(6, .int (w3 t0)), (0, .ref (B + 0)), (1, .int (w3 v1)), (2, .int (w3 v2)), (4, .int (w3 v4))]) hx hb dX12_laysField_99 hl (by decide) rfl (fun ls hl => ?_)
  refine cb_X12_laysField_101 v1 rv1 v2 rv2 v4 rv4 t0 rt0 C hw hs (lv_sub hl [1, 2, 3, 4, 0] rfl) 
set_option maxHeartbeats 4000000 in
set_option maxRecDepth 100000 in
theorem cb_X12_laysField_59 {p : Program} {l : Launch} {e : Env} {s : State} {m : MethodId} {args : Array Value} {below : List Frame} {meth : Method} {c : Code} {D : va_G} {cA : Nat → ClassId} {B : Nat} {Z : State → Prop} (v1 : Int) (rv1 : rg v1) (v2 : Int) (rv2 : rb v2) (v3 : Int) (rv3 : rb v3) (v4 : Int) (rv4 : rg v4) (t1 : Int) (rt1 : rg t1) (t2 : Int) (rt2 : rg t2)  {k : hq_M → Prop} {M : hq_M} {H : Heap} {locs : List Loc} {ls : Array Slot} (C : hq_C vwCl p m c cX12_laysField 8 s args wsX12_laysField RX12 meth none D cA (hq_in B YM.length) Z)
    (hw : b_X12_laysField_59 v1 v2 v3 v4 t1 t2 k M) (hs : hq_S vwCl SLx D cA YM B s.heap M H locs) (hl : lv_has ls 8 [(0, .ref (B + 0)), (1, .int (w3 v1)), (2, .int (w3 v2)), (3, .int (w3 v3)), (4, .int (w3 v4))])
     : W p l e ({ frames := 6, cells := 0, slots := 0, locals := 136 } : Room) s m args below meth c H locs 0 0 (MQ below (hq_Q vwCl SLx D cA YM B (hq_qv k)) args s 0 0 (hq_in B YM.length)) (F0 m 59 ls [.int (w3 t2), .int (w3 t1), .ref (B + 0)]) := by
  have hx := C.1.1
  have hb := C.1.2.1
  unfold b_X12_laysField_59 at hw
  refine hq_iconst C dX12_laysField_59 ?_
  refine hq_cV (n := 3) (ci := 12) (o := 0) (qc := (TX12, 57)) C hs (c_X12_latest l C.2.2.2.2.1 t1 rt1 t2 rt2 1 (by decide) _ _ hw) gX12_laysField_X12_latest rfl ⟨rfl, rfl⟩ (by decide +kernel) ⟨Nat.le_of_ble_eq_true rfl, Nat.le_of_ble_eq_true rfl⟩ tkM_0 (by decide) rfl rfl hl.1 rfl (Nat.le_of_ble_eq_true rfl) dX12_laysField_60 (hq_ki (fun x1 M9 H locs rx1 hw hs => ?_))
  obtain ⟨e9, hw⟩ := hw; rw [e9] at hs
  refine lv_istore (lv' := [(6, .int (w3 x1)), (0, .ref (B + 0)), (1, .int (w3 v1)), (2, .int (w3 v2)), (3, .int (w3 v3)), (4, .int (w3 v4))]) hx hb dX12_laysField_63 hl (by decide) rfl (fun ls hl => ?_)
  refine lv_iload hx hb dX12_laysField_65 (lv_at hl 0 rfl) ?_
  refine hq_bipush C dX12_laysField_67 (by decide) ?_
  refine hq_icmp_ne (tgt := 101) C rx1 (by decide : rg (-9)) dX12_laysField_69 (by decide) (fun h => ?_) (fun h => ?_)
  · have hw := hw.1 h
    refine cb_X12_laysField_101 v1 rv1 v2 rv2 v4 rv4 x1 rx1 C hw hs (lv_sub hl [1, 2, 3, 5, 0] rfl) 
  · have hw := hw.2 h
    refine lv_iload_n hx hb dX12_laysField_72 rfl (lv_at hl 4 rfl) ?_
    refine hq_if_eq (tgt := 101) C (rb_rg rv3) dX12_laysField_73 (by decide) (fun h => ?_) (fun h => ?_)
    · have hw := hw.1 h
      refine cb_X12_laysField_101 v1 rv1 v2 rv2 v4 rv4 x1 rx1 C hw hs (lv_sub hl [1, 2, 3, 5, 0] rfl) 
    · have hw := hw.2 h
      refine lv_iload_n hx hb dX12_laysField_76 rfl (lv_at hl 3 rfl) ?_
      refine hq_if_eq (tgt := 101) C (rb_rg rv2) dX12_laysField_77 (by decide) (fun h => ?_) (fun h => ?_)
      · have hw := hw.1 h
        refine cb_X12_laysField_101 v1 rv1 v2 rv2 v4 rv4 x1 rx1 C hw hs (lv_sub hl [1, 2, 3, 5, 0] rfl) 
      · have hw := hw.2 h
        refine lv_aload_n hx hb dX12_laysField_80 rfl (lv_at hl 1 rfl) ?_
        refine lv_iload_n hx hb dX12_laysField_81 rfl (lv_at hl 2 rfl) ?_
        refine hq_cV (n := 1) (ci := 12) (o := 0) (qc := (TX12, 57)) C hs (c_X12_insertsField l C.2.2.2.2.1 v1 rv1 _ _ hw) gX12_laysField_X12_insertsField rfl ⟨rfl, rfl⟩ (by decide +kernel) ⟨Nat.le_of_ble_eq_true rfl, Nat.le_of_ble_eq_true rfl⟩ tkM_0 (by decide) rfl rfl hl.1 rfl (Nat.le_of_ble_eq_true rfl) dX12_laysField_82 (hq_ki (fun x3 M2 H locs rx3 hw hs => ?_))
        refine lv_istore (lv' := [(7, .int (w3 x3)), (6, .int (w3 x1)), (0, .ref (B + 0)), (1, .int (w3 v1)), (2, .int (w3 v2)), (3, .int (w3 v3)), (4, .int (w3 v4))]) hx hb dX12_laysField_85 hl (by decide) rfl (fun ls hl => ?_)
        refine lv_iload hx hb dX12_laysField_87 (lv_at hl 0 rfl) ?_
        refine hq_if_ge (tgt := 97) C rx3 dX12_laysField_89 (by decide) (fun h => ?_) (fun h => ?_)
        · have hw := hw.1 h
          refine lv_iload hx hb dX12_laysField_97 (lv_at hl 0 rfl) ?_
          refine cb_X12_laysField_99 v1 rv1 v2 rv2 v4 rv4 x3 rx3 C hw hs (lv_sub hl [2, 3, 4, 6] rfl) 
        · have hw := hw.2 h
          refine hq_bipush C dX12_laysField_92 (by decide) ?_
          refine hq_goto (tgt := 99) C dX12_laysField_94 (by decide) ?_
          refine cb_X12_laysField_99 v1 rv1 v2 rv2 v4 rv4 (-9) (by decide : rg (-9)) C hw hs (lv_sub hl [2, 3, 4, 6] rfl) 
set_option maxHeartbeats 4000000 in
set_option maxRecDepth 100000 in
theorem c_X12_laysField (l : Launch) {D : va_G} {cA : Nat → ClassId} {B : Nat} {Z : State → Prop} (hZ : hq_Zo Z (hq_in B YM.length)) (v1 : Int) (rv1 : rg v1) (v2 : Int) (rv2 : rb v2) (v3 : Int) (rv3 : rb v3) (v4 : Int) (rv4 : rg v4) (M : hq_M) (k : hq_M → Prop) (hw : w_X12_laysField v1 v2 v3 v4 M k) : hq_T vwCl SLx l yX12_laysField wsX12_laysField ({ frames := 6, cells := 0, slots := 0, locals := 136 } : Room) D cA YM B Z [.ref (B + 0), .int (w3 v1), .int (w3 v2), .int (w3 v3), .int (w3 v4)] M (hq_qv k) := by
  refine hq_meth (cc := cX12_laysField) (maxL := 8) (ret := none) (own := RX12) hZ rfl (by decide +kernel) rfl (Nat.le_of_ble_eq_true rfl) ?_
  intro p e s m below meth c ls C hs hl
  have hx := C.1.1
  have hb := C.1.2.1
  unfold w_X12_laysField at hw
  have hl : lv_has ls 8 [(0, .ref (B + 0)), (1, .int (w3 v1)), (2, .int (w3 v2)), (3, .int (w3 v3)), (4, .int (w3 v4))] := hl
  refine lv_aload_n hx hb dX12_laysField_0 rfl (lv_at hl 0 rfl) ?_
  refine hq_bipush C dX12_laysField_1 (by decide) ?_
  refine hq_cV (n := 1) (ci := 12) (o := 0) (qc := (TX12, 57)) C hs (c_X12_refersTo l C.2.2.2.2.1 (-9) (by decide : rg (-9)) _ _ hw) gX12_laysField_X12_refersTo rfl ⟨rfl, rfl⟩ (by decide +kernel) ⟨Nat.le_of_ble_eq_true rfl, Nat.le_of_ble_eq_true rfl⟩ tkM_0 (by decide) rfl rfl hl.1 rfl (Nat.le_of_ble_eq_true rfl) dX12_laysField_3 (hq_kv (fun M1 H locs hw hs => ?_))
  refine lv_aload_n hx hb dX12_laysField_6 rfl (lv_at hl 0 rfl) ?_
  refine lv_iload_n hx hb dX12_laysField_7 rfl (lv_at hl 1 rfl) ?_
  refine hq_iconst C dX12_laysField_8 ?_
  refine hq_cV (n := 2) (ci := 12) (o := 0) (qc := (TX12, 57)) C hs (c_X12_stillOf l C.2.2.2.2.1 v1 rv1 1 (by decide) _ _ hw) gX12_laysField_X12_stillOf rfl ⟨rfl, rfl⟩ (by decide +kernel) ⟨Nat.le_of_ble_eq_true rfl, Nat.le_of_ble_eq_true rfl⟩ tkM_0 (by decide) rfl rfl hl.1 rfl (Nat.le_of_ble_eq_true rfl) dX12_laysField_9 (hq_ki (fun x2 M9 H locs rx2 hw hs => ?_))
  obtain ⟨e9, hw⟩ := hw; rw [e9] at hs
  refine lv_istore (lv' := [(5, .int (w3 x2)), (0, .ref (B + 0)), (1, .int (w3 v1)), (2, .int (w3 v2)), (3, .int (w3 v3)), (4, .int (w3 v4))]) hx hb dX12_laysField_12 hl (by decide) rfl (fun ls hl => ?_)
  refine lv_iload hx hb dX12_laysField_14 (lv_at hl 0 rfl) ?_
  refine hq_bipush C dX12_laysField_16 (by decide) ?_
  refine hq_icmp_eq (tgt := 40) C rx2 (by decide : rg (-9)) dX12_laysField_18 (by decide) (fun h => ?_) (fun h => ?_)
  · have hw := hw.1 h
    refine lv_aload_n hx hb dX12_laysField_40 rfl (lv_at hl 1 rfl) ?_
    refine lv_iload_n hx hb dX12_laysField_41 rfl (lv_at hl 2 rfl) ?_
    refine lv_iload_n hx hb dX12_laysField_42 rfl (lv_at hl 3 rfl) ?_
    refine hq_if_eq (tgt := 55) C (rb_rg rv2) dX12_laysField_43 (by decide) (fun h => ?_) (fun h => ?_)
    · have hw := hw.1 h
      refine lv_aload_n hx hb dX12_laysField_55 rfl (lv_at hl 1 rfl) ?_
      refine hq_getI (o := 0) C hs fX12_laysField_258 tkM_0 (by decide) rfl dX12_laysField_56 (fun g3 => ?_)
      refine cb_X12_laysField_59 v1 rv1 v2 rv2 v3 rv3 v4 rv4 v1 rv1 (M1 0 23) g3 C hw hs (lv_sub hl [1, 2, 3, 4, 5] rfl) 
    · have hw := hw.2 h
      refine lv_aload_n hx hb dX12_laysField_46 rfl (lv_at hl 1 rfl) ?_
      refine hq_getA (o := 0) C hs fX12_laysField_32 tkM_0 (by decide) rfl dX12_laysField_47 ?_
      refine hq_iconst C dX12_laysField_50 ?_
      obtain ⟨g4, hw⟩ := hw
      refine hq_iald (o := 6) C hs tkM_6 (by decide : rg 0) g4 dX12_laysField_51 (fun g5 => ?_)
      refine hq_goto (tgt := 59) C dX12_laysField_52 (by decide) ?_
      refine cb_X12_laysField_59 v1 rv1 v2 rv2 v3 rv3 v4 rv4 v1 rv1 (M1 6 0) g5 C hw hs (lv_sub hl [1, 2, 3, 4, 5] rfl) 
  · have hw := hw.2 h
    refine lv_aload_n hx hb dX12_laysField_21 rfl (lv_at hl 1 rfl) ?_
    refine hq_iconst C dX12_laysField_22 ?_
    refine hq_putI (o := 0) C hs fX12_laysField_267 tkM_0 (by decide) rfl (by decide : rg 0) dX12_laysField_23 (fun M6 eM6 H locs hs => ?_)
    have hw := hw M6 eM6
    refine lv_aload_n hx hb dX12_laysField_26 rfl (lv_at hl 1 rfl) ?_
    refine hq_sipush C dX12_laysField_27 (by decide) ?_
    refine hq_bipush C dX12_laysField_30 (by decide) ?_
    refine lv_iload hx hb dX12_laysField_32 (lv_at hl 0 rfl) ?_
    refine hq_cV (n := 3) (ci := 12) (o := 0) (qc := (TX12, 57)) C hs (c_X12_laysNumber l C.2.2.2.2.1 192 (by decide : rg 192) 6 (by decide : rg 6) x2 rx2 _ _ hw) gX12_laysField_X12_laysNumber rfl ⟨rfl, rfl⟩ (by decide +kernel) ⟨Nat.le_of_ble_eq_true rfl, Nat.le_of_ble_eq_true rfl⟩ tkM_0 (by decide) rfl rfl hl.1 rfl (Nat.le_of_ble_eq_true rfl) dX12_laysField_34 (hq_kv (fun M7 H locs hw hs => ?_))
    refine hq_goto (tgt := 143) C dX12_laysField_37 (by decide) ?_
    refine cb_X12_laysField_143  C hw hs (lv_sub hl [1] rfl) 
