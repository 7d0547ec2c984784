set_option maxHeartbeats 4000000 in
set_option maxRecDepth 100000 in
theorem c_X12_in (l : Launch) {D : va_G} {cA : Nat → ClassId} {B : Nat} {Z : State → Prop} (hZ : hq_Zo Z (hq_in B YM.length)) (v0 : Int) (rv0 : rl v0) (v2 : Int) (rv2 : rl v2) (v4 : Int) (rv4 : rl v4) (M : hq_M) (k : Int → Prop) (hw : w_X12_in v0 v2 v4 M k) : hq_T vwCl SLx l yX12_in wsX12_in ({ frames := 0, cells := 0, slots := 0, locals := 0 } : Room) D cA YM B Z [.long (w6 v0), .long (w6 v2), .long (w6 v4)] M (hq_qz (fun z M' => M' = M ∧ k z)) := by
  refine hq_meth (cc := cX12_in) (maxL := 6) (ret := (some .boolean)) (own := RX12) hZ rfl (by decide +kernel) rfl (Nat.le_of_ble_eq_true rfl) ?_
  intro p e s m below meth c ls C hs hl
  have hx := C.1.1
  have hb := C.1.2.1
  unfold w_X12_in at hw
  have hl : lv_has ls 6 [(0, .long (w6 v0)), (2, .long (w6 v2)), (4, .long (w6 v4))] := hl
  refine lv_lload_n hx hb dX12_in_0 rfl (lv_at hl 0 rfl) ?_
  refine lv_lload_n hx hb dX12_in_1 rfl (lv_at hl 1 rfl) ?_
  refine hq_lcmp_lt (tgt := 17) C rv0 rv2 dX12_in_2 dX12_in_3 (by decide) (fun h => ?_) (fun h => ?_)
  · have hw := hw.1 h
    refine hq_iconst C dX12_in_17 ?_
    exact hq_zret C hs (by decide) ⟨rfl, hw⟩ dX12_in_18
  · have hw := hw.2 h
    refine lv_lload_n hx hb dX12_in_6 rfl (lv_at hl 0 rfl) ?_
    refine lv_lload hx hb dX12_in_7 (lv_at hl 2 rfl) ?_
    refine hq_lcmp_gt (tgt := 17) C rv0 rv4 dX12_in_9 dX12_in_10 (by decide) (fun h => ?_) (fun h => ?_)
    · have hw := hw.1 h
      refine hq_iconst C dX12_in_17 ?_
      exact hq_zret C hs (by decide) ⟨rfl, hw⟩ dX12_in_18
    · have hw := hw.2 h
      refine hq_iconst C dX12_in_13 ?_
      refine hq_goto (tgt := 18) C dX12_in_14 (by decide) ?_
      exact hq_zret C hs (by decide) ⟨rfl, hw⟩ dX12_in_18
set_option maxHeartbeats 4000000 in
set_option maxRecDepth 100000 in
theorem c_X12_lesser (l : Launch) {D : va_G} {cA : Nat → ClassId} {B : Nat} {Z : State → Prop} (hZ : hq_Zo Z (hq_in B YM.length)) (v0 : Int) (rv0 : rg v0) (v1 : Int) (rv1 : rg v1) (M : hq_M) (k : Int → Prop) (hw : w_X12_lesser v0 v1 M k) : hq_T vwCl SLx l yX12_lesser wsX12_lesser ({ frames := 0, cells := 0, slots := 0, locals := 0 } : Room) D cA YM B Z [.int (w3 v0), .int (w3 v1)] M (hq_qi (fun z M' => M' = M ∧ k z)) := by
  refine hq_meth (cc := cX12_lesser) (maxL := 2) (ret := (some .int)) (own := RX12) hZ rfl (by decide +kernel) rfl (Nat.le_of_ble_eq_true rfl) ?_
  intro p e s m below meth c ls C hs hl
  have hx := C.1.1
  have hb := C.1.2.1
  unfold w_X12_lesser at hw
  have hl : lv_has ls 2 [(0, .int (w3 v0)), (1, .int (w3 v1))] := hl
  refine lv_iload_n hx hb dX12_lesser_0 rfl (lv_at hl 0 rfl) ?_
  refine lv_iload_n hx hb dX12_lesser_1 rfl (lv_at hl 1 rfl) ?_
  refine hq_icmp_ge (tgt := 9) C rv0 rv1 dX12_lesser_2 (by decide) (fun h => ?_) (fun h => ?_)
  · have hw := hw.1 h
    refine lv_iload_n hx hb dX12_lesser_9 rfl (lv_at hl 1 rfl) ?_
    exact hq_iret C hs rv1 ⟨rfl, hw⟩ dX12_lesser_10
  · have hw := hw.2 h
    refine lv_iload_n hx hb dX12_lesser_5 rfl (lv_at hl 0 rfl) ?_
    refine hq_goto (tgt := 10) C dX12_lesser_6 (by decide) ?_
    exact hq_iret C hs rv0 ⟨rfl, hw⟩ dX12_lesser_10
set_option maxHeartbeats 4000000 in
set_option maxRecDepth 100000 in
theorem c_X12_greater (l : Launch) {D : va_G} {cA : Nat → ClassId} {B : Nat} {Z : State → Prop} (hZ : hq_Zo Z (hq_in B YM.length)) (v0 : Int) (rv0 : rg v0) (v1 : Int) (rv1 : rg v1) (M : hq_M) (k : Int → Prop) (hw : w_X12_greater v0 v1 M k) : hq_T vwCl SLx l yX12_greater wsX12_greater ({ frames := 0, cells := 0, slots := 0, locals := 0 } : Room) D cA YM B Z [.int (w3 v0), .int (w3 v1)] M (hq_qi (fun z M' => M' = M ∧ k z)) := by
  refine hq_meth (cc := cX12_greater) (maxL := 2) (ret := (some .int)) (own := RX12) hZ rfl (by decide +kernel) rfl (Nat.le_of_ble_eq_true rfl) ?_
  intro p e s m below meth c ls C hs hl
  have hx := C.1.1
  have hb := C.1.2.1
  unfold w_X12_greater at hw
  have hl : lv_has ls 2 [(0, .int (w3 v0)), (1, .int (w3 v1))] := hl
  refine lv_iload_n hx hb dX12_greater_0 rfl (lv_at hl 0 rfl) ?_
  refine lv_iload_n hx hb dX12_greater_1 rfl (lv_at hl 1 rfl) ?_
  refine hq_icmp_le (tgt := 9) C rv0 rv1 dX12_greater_2 (by decide) (fun h => ?_) (fun h => ?_)
  · have hw := hw.1 h
    refine lv_iload_n hx hb dX12_greater_9 rfl (lv_at hl 1 rfl) ?_
    exact hq_iret C hs rv1 ⟨rfl, hw⟩ dX12_greater_10
  · have hw := hw.2 h
    refine lv_iload_n hx hb dX12_greater_5 rfl (lv_at hl 0 rfl) ?_
    refine hq_goto (tgt := 10) C dX12_greater_6 (by decide) ?_
    exact hq_iret C hs rv0 ⟨rfl, hw⟩ dX12_greater_10
set_option maxRecDepth 20000 in
theorem kX12_isFigure_120 : Cond.constantLong RX12 120 48 ∈ wsX12_isFigure := by decide +kernel
set_option maxRecDepth 20000 in
theorem kX12_isFigure_122 : Cond.constantLong RX12 122 57 ∈ wsX12_isFigure := by decide +kernel
set_option maxHeartbeats 4000000 in
set_option maxRecDepth 100000 in
theorem c_X12_isFigure (l : Launch) {D : va_G} {cA : Nat → ClassId} {B : Nat} {Z : State → Prop} (hZ : hq_Zo Z (hq_in B YM.length)) (v0 : Int) (rv0 : rg v0) (M : hq_M) (k : Int → Prop) (hw : w_X12_isFigure v0 M k) : hq_T vwCl SLx l yX12_isFigure wsX12_isFigure ({ frames := 1, cells := 0, slots := 0, locals := 25 } : Room) D cA YM B Z [.int (w3 v0)] M (hq_qz (fun z M' => M' = M ∧ k z)) := by
  refine hq_meth (cc := cX12_isFigure) (maxL := 1) (ret := (some .boolean)) (own := RX12) hZ rfl (by decide +kernel) rfl (Nat.le_of_ble_eq_true rfl) ?_
  intro p e s m below meth c ls C hs hl
  have hx := C.1.1
  have hb := C.1.2.1
  unfold w_X12_isFigure at hw
  have hl : lv_has ls 1 [(0, .int (w3 v0))] := hl
  refine lv_iload_n hx hb dX12_isFigure_0 rfl (lv_at hl 0 rfl) ?_
  refine hq_i2l (y := 0) C rv0 dX12_isFigure_1 ?_
  refine hq_ldc2 (z := 48) C kX12_isFigure_120 (by decide) dX12_isFigure_2 ?_
  refine hq_ldc2 (z := 57) C kX12_isFigure_122 (by decide) dX12_isFigure_5 ?_
  refine hq_cS (n := 3) C hs (c_X12_in l C.2.2.2.2.1 v0 (rg_rl rv0) 48 (by decide : rl 48) 57 (by decide : rl 57) _ _ hw) gX12_isFigure_X12_in rfl ⟨rfl, rfl⟩ (by decide +kernel) ⟨Nat.le_of_ble_eq_true rfl, Nat.le_of_ble_eq_true rfl⟩ rfl hl.1 rfl (Nat.le_of_ble_eq_true rfl) dX12_isFigure_8 (hq_kz (fun x1 M9 H locs rx1 hw hs => ?_))
  obtain ⟨e9, hw⟩ := hw; rw [e9] at hs
  exact hq_zret C hs rx1 ⟨rfl, hw⟩ dX12_isFigure_11
set_option maxRecDepth 20000 in
theorem kX12_isSmall_128 : Cond.constantLong RX12 128 97 ∈ wsX12_isSmall := by decide +kernel
set_option maxRecDepth 20000 in
theorem kX12_isSmall_130 : Cond.constantLong RX12 130 122 ∈ wsX12_isSmall := by decide +kernel
set_option maxHeartbeats 4000000 in
set_option maxRecDepth 100000 in
theorem c_X12_isSmall (l : Launch) {D : va_G} {cA : Nat → ClassId} {B : Nat} {Z : State → Prop} (hZ : hq_Zo Z (hq_in B YM.length)) (v0 : Int) (rv0 : rg v0) (M : hq_M) (k : Int → Prop) (hw : w_X12_isSmall v0 M k) : hq_T vwCl SLx l yX12_isSmall wsX12_isSmall ({ frames := 1, cells := 0, slots := 0, locals := 25 } : Room) D cA YM B Z [.int (w3 v0)] M (hq_qz (fun z M' => M' = M ∧ k z)) := by
  refine hq_meth (cc := cX12_isSmall) (maxL := 1) (ret := (some .boolean)) (own := RX12) hZ rfl (by decide +kernel) rfl (Nat.le_of_ble_eq_true rfl) ?_
  intro p e s m below meth c ls C hs hl
  have hx := C.1.1
  have hb := C.1.2.1
  unfold w_X12_isSmall at hw
  have hl : lv_has ls 1 [(0, .int (w3 v0))] := hl
  refine lv_iload_n hx hb dX12_isSmall_0 rfl (lv_at hl 0 rfl) ?_
  refine hq_i2l (y := 0) C rv0 dX12_isSmall_1 ?_
  refine hq_ldc2 (z := 97) C kX12_isSmall_128 (by decide) dX12_isSmall_2 ?_
  refine hq_ldc2 (z := 122) C kX12_isSmall_130 (by decide) dX12_isSmall_5 ?_
  refine hq_cS (n := 3) C hs (c_X12_in l C.2.2.2.2.1 v0 (rg_rl rv0) 97 (by decide : rl 97) 122 (by decide : rl 122) _ _ hw) gX12_isSmall_X12_in rfl ⟨rfl, rfl⟩ (by decide +kernel) ⟨Nat.le_of_ble_eq_true rfl, Nat.le_of_ble_eq_true rfl⟩ rfl hl.1 rfl (Nat.le_of_ble_eq_true rfl) dX12_isSmall_8 (hq_kz (fun x1 M9 H locs rx1 hw hs => ?_))
  obtain ⟨e9, hw⟩ := hw; rw [e9] at hs
  exact hq_zret C hs rx1 ⟨rfl, hw⟩ dX12_isSmall_11
theorem iX12_take_12 : ∀ w ∈ u_ws RX12 TX12 57, w ∈ wsX12_take := fun w h => List.mem_cons_of_mem _ (List.mem_append_right _ h)
set_option maxRecDepth 20000 in
theorem fX12_take_29 : hq_fl vwCl wsX12_take RX12 29 12 8 true (.array .int) := ⟨RX12, TX12, 57, tyX12, rfl, by decide, iX12_take_12, by decide +kernel, rfl, tyX12_ok 8 (by decide), tyX12_ok, nmX12⟩
set_option maxRecDepth 20000 in
theorem fX12_take_132 : hq_fl vwCl wsX12_take RX12 132 12 10 false .int := ⟨RX12, TX12, 57, tyX12, rfl, by decide, iX12_take_12, by decide +kernel, rfl, tyX12_ok 10 (by decide), tyX12_ok, nmX12⟩
set_option maxRecDepth 20000 in
theorem fX12_take_135 : hq_fl vwCl wsX12_take RX12 135 12 9 false .int := ⟨RX12, TX12, 57, tyX12, rfl, by decide, iX12_take_12, by decide +kernel, rfl, tyX12_ok 9 (by decide), tyX12_ok, nmX12⟩
set_option maxRecDepth 20000 in
theorem fX12_take_138 : hq_fl vwCl wsX12_take RX12 138 12 11 false .int := ⟨RX12, TX12, 57, tyX12, rfl, by decide, iX12_take_12, by decide +kernel, rfl, tyX12_ok 11 (by decide), tyX12_ok, nmX12⟩
set_option maxRecDepth 20000 in
theorem fX12_take_141 : hq_fl vwCl wsX12_take RX12 141 12 12 false .int := ⟨RX12, TX12, 57, tyX12, rfl, by decide, iX12_take_12, by decide +kernel, rfl, tyX12_ok 12 (by decide), tyX12_ok, nmX12⟩
set_option maxHeartbeats 4000000 in
set_option maxRecDepth 100000 in
theorem cl_X12_take_0 {p : Program} {l : Launch} {e : Env} {s : State} {m : MethodId} {args : Array Value} {below : List Frame} {meth : Method} {c : Code} {D : va_G} {cA : Nat → ClassId} {B : Nat} {Z : State → Prop}  {k_38 : hq_M → Prop} {k : hq_M → Prop} (C : hq_C vwCl p m c cX12_take 2 s args wsX12_take RX12 meth none D cA (hq_in B YM.length) Z)
    (hk_38 : ∀ (M1 : hq_M) (H : Heap) (locs : List Loc) (ls : Array Slot), k_38 M1 → hq_S vwCl SLx D cA YM B s.heap M1 H locs → lv_has ls 2 [(0, .ref (B + 0))] → W p l e ({ frames := 2, cells := 0, slots := 0, locals := 45 } : Room) s m args below meth c H locs 0 0 (MQ below (hq_Q vwCl SLx D cA YM B (hq_qv k)) args s 0 0 (hq_in B YM.length)) (F0 m 38 ls [])) : ∀ (n : Nat) (M : hq_M) (H : Heap) (locs : List Loc) (ls : Array Slot), l_X12_take_0 k_38 k n M → hq_S vwCl SLx D cA YM B s.heap M H locs → lv_has ls 2 [(0, .ref (B + 0))] → W p l e ({ frames := 2, cells := 0, slots := 0, locals := 45 } : Room) s m args below meth c H locs 0 0 (MQ below (hq_Q vwCl SLx D cA YM B (hq_qv k)) args s 0 0 (hq_in B YM.length)) (F0 m 0 ls []) := by
  have hx := C.1.1
  have hb := C.1.2.1
  intro n
  induction n with
  | zero => intro M H locs ls hw hs hl; exact hw.elim
  | succ n ih =>
    intro M H locs ls hw hs hl
    unfold l_X12_take_0 at hw
    refine lv_aload_n hx hb dX12_take_0 rfl (lv_at hl 0 rfl) ?_
    refine hq_getI (o := 0) C hs fX12_take_132 tkM_0 (by decide) rfl dX12_take_1 (fun g1 => ?_)
    refine lv_aload_n hx hb dX12_take_4 rfl (lv_at hl 0 rfl) ?_
    refine hq_getI (o := 0) C hs fX12_take_135 tkM_0 (by decide) rfl dX12_take_5 (fun g2 => ?_)
    refine hq_icmp_ge (tgt := 38) C g1 g2 dX12_take_8 (by decide) (fun h => ?_) (fun h => ?_)
    · have hw := hw.1 h
      exact hk_38 _ _ _ _ hw hs (lv_sub hl [0] rfl)
    · have hw := hw.2 h
      refine lv_aload_n hx hb dX12_take_11 rfl (lv_at hl 0 rfl) ?_
      refine hq_getA (o := 0) C hs fX12_take_29 tkM_0 (by decide) rfl dX12_take_12 ?_
      refine lv_aload_n hx hb dX12_take_15 rfl (lv_at hl 0 rfl) ?_
      refine hq_getI (o := 0) C hs fX12_take_132 tkM_0 (by decide) rfl dX12_take_16 (fun g3 => ?_)
      obtain ⟨g4, hw⟩ := hw
      refine hq_iald (o := 5) C hs tkM_5 g3 g4 dX12_take_19 (fun g5 => ?_)
      refine hq_bipush C dX12_take_20 (by decide) ?_
      refine hq_icmp_ne (tgt := 38) C g5 (by decide : rg 32) dX12_take_22 (by decide) (fun h => ?_) (fun h => ?_)
      · have hw := hw.1 h
        exact hk_38 _ _ _ _ hw hs (lv_sub hl [0] rfl)
      · have hw := hw.2 h
        refine lv_aload_n hx hb dX12_take_25 rfl (lv_at hl 0 rfl) ?_
        refine lv_dup hx hb dX12_take_26 rfl ?_
        refine hq_getI (o := 0) C hs fX12_take_132 tkM_0 (by decide) rfl dX12_take_27 (fun g6 => ?_)
        refine hq_iconst C dX12_take_30 ?_
        obtain ⟨g7, hw⟩ := hw
        refine hq_iadd C dX12_take_31 ?_
        refine hq_putI (o := 0) C hs fX12_take_132 tkM_0 (by decide) rfl g7 dX12_take_32 (fun M8 eM8 H locs hs => ?_)
        have hw := hw M8 eM8
        refine hq_goto (tgt := 0) C dX12_take_35 (by decide) ?_
        exact ih _ _ _ _ hw hs (lv_sub hl [0] rfl)
set_option maxHeartbeats 4000000 in
set_option maxRecDepth 100000 in
theorem cb_X12_take_165 {p : Program} {l : Launch} {e : Env} {s : State} {m : MethodId} {args : Array Value} {below : List Frame} {meth : Method} {c : Code} {D : va_G} {cA : Nat → ClassId} {B : Nat} {Z : State → Prop}  {k_124 : hq_M → Prop} {k : hq_M → Prop} {M : hq_M} {H : Heap} {locs : List Loc} {ls : Array Slot} (C : hq_C vwCl p m c cX12_take 2 s args wsX12_take RX12 meth none D cA (hq_in B YM.length) Z)
    (hw : b_X12_take_165 k_124 k M) (hs : hq_S vwCl SLx D cA YM B s.heap M H locs) (hl : lv_has ls 2 [(0, .ref (B + 0))])
    (hk_124 : ∀ (M1 : hq_M) (H : Heap) (locs : List Loc) (ls : Array Slot), k_124 M1 → hq_S vwCl SLx D cA YM B s.heap M1 H locs → lv_has ls 2 [(0, .ref (B + 0))] → W p l e ({ frames := 2, cells := 0, slots := 0, locals := 45 } : Room) s m args below meth c H locs 0 0 (MQ below (hq_Q vwCl SLx D cA YM B (hq_qv k)) args s 0 0 (hq_in B YM.length)) (F0 m 124 ls [])) : W p l e ({ frames := 2, cells := 0, slots := 0, locals := 45 } : Room) s m args below meth c H locs 0 0 (MQ below (hq_Q vwCl SLx D cA YM B (hq_qv k)) args s 0 0 (hq_in B YM.length)) (F0 m 165 ls []) := by
  have hx := C.1.1
  have hb := C.1.2.1
  unfold b_X12_take_165 at hw
  refine lv_aload_n hx hb dX12_take_165 rfl (lv_at hl 0 rfl) ?_
  refine lv_dup hx hb dX12_take_166 rfl ?_
  refine hq_getI (o := 0) C hs fX12_take_132 tkM_0 (by decide) rfl dX12_take_167 (fun g1 => ?_)
  refine hq_iconst C dX12_take_170 ?_
  obtain ⟨g2, hw⟩ := hw
  refine hq_iadd C dX12_take_171 ?_
  refine hq_putI (o := 0) C hs fX12_take_132 tkM_0 (by decide) rfl g2 dX12_take_172 (fun M3 eM3 H locs hs => ?_)
  have hw := hw M3 eM3
  refine hq_goto (tgt := 124) C dX12_take_175 (by decide) ?_
  exact hk_124 _ _ _ _ hw hs (lv_sub hl [0] rfl)
set_option maxHeartbeats 4000000 in
set_option maxRecDepth 100000 in
theorem cl_X12_take_124 {p : Program} {l : Launch} {e : Env} {s : State} {m : MethodId} {args : Array Value} {below : List Frame} {meth : Method} {c : Code} {D : va_G} {cA : Nat → ClassId} {B : Nat} {Z : State → Prop}   {k : hq_M → Prop} (C : hq_C vwCl p m c cX12_take 2 s args wsX12_take RX12 meth none D cA (hq_in B YM.length) Z)
     : ∀ (n : Nat) (M : hq_M) (H : Heap) (locs : List Loc) (ls : Array Slot), l_X12_take_124 k n M → hq_S vwCl SLx D cA YM B s.heap M H locs → lv_has ls 2 [(0, .ref (B + 0))] → W p l e ({ frames := 2, cells := 0, slots := 0, locals := 45 } : Room) s m args below meth c H locs 0 0 (MQ below (hq_Q vwCl SLx D cA YM B (hq_qv k)) args s 0 0 (hq_in B YM.length)) (F0 m 124 ls []) := by
  have hx := C.1.1
  have hb := C.1.2.1
  intro n
  induction n with
  | zero => intro M H locs ls hw hs hl; exact hw.elim
  | succ n ih =>
    intro M H locs ls hw hs hl
    unfold l_X12_take_124 at hw
    refine lv_aload_n hx hb dX12_take_124 rfl (lv_at hl 0 rfl) ?_
    refine hq_getI (o := 0) C hs fX12_take_132 tkM_0 (by decide) rfl dX12_take_125 (fun g1 => ?_)
    refine lv_aload_n hx hb dX12_take_128 rfl (lv_at hl 0 rfl) ?_
    refine hq_getI (o := 0) C hs fX12_take_135 tkM_0 (by decide) rfl dX12_take_129 (fun g2 => ?_)
    refine hq_icmp_ge (tgt := 178) C g1 g2 dX12_take_132 (by decide) (fun h => ?_) (fun h => ?_)
    · have hw := hw.1 h
      exact hq_vret C hs hw dX12_take_178
    · have hw := hw.2 h
      refine lv_aload_n hx hb dX12_take_135 rfl (lv_at hl 0 rfl) ?_
      refine hq_getA (o := 0) C hs fX12_take_29 tkM_0 (by decide) rfl dX12_take_136 ?_
      refine lv_aload_n hx hb dX12_take_139 rfl (lv_at hl 0 rfl) ?_
      refine hq_getI (o := 0) C hs fX12_take_132 tkM_0 (by decide) rfl dX12_take_140 (fun g3 => ?_)
      obtain ⟨g4, hw⟩ := hw
      refine hq_iald (o := 5) C hs tkM_5 g3 g4 dX12_take_143 (fun g5 => ?_)
      refine hq_cS (n := 1) C hs (c_X12_isFigure l C.2.2.2.2.1 (M 5 (M 0 10).toNat) g5 _ _ hw) gX12_take_X12_isFigure rfl ⟨rfl, rfl⟩ (by decide +kernel) ⟨Nat.le_of_ble_eq_true rfl, Nat.le_of_ble_eq_true rfl⟩ rfl hl.1 rfl (Nat.le_of_ble_eq_true rfl) dX12_take_144 (hq_kz (fun x6 M9 H locs rx6 hw hs => ?_))
      obtain ⟨e9, hw⟩ := hw; rw [e9] at hs
      refine hq_if_ne (tgt := 165) C (rb_rg rx6) dX12_take_147 (by decide) (fun h => ?_) (fun h => ?_)
      · have hw := hw.1 h
        refine cb_X12_take_165  C hw hs (lv_sub hl [0] rfl) ?_
        · intro M H locs ls hw hs hl
          exact ih _ _ _ _ hw hs (lv_sub hl [0] rfl)
      · have hw := hw.2 h
        refine lv_aload_n hx hb dX12_take_150 rfl (lv_at hl 0 rfl) ?_
        refine hq_getA (o := 0) C hs fX12_take_29 tkM_0 (by decide) rfl dX12_take_151 ?_
        refine lv_aload_n hx hb dX12_take_154 rfl (lv_at hl 0 rfl) ?_
        refine hq_getI (o := 0) C hs fX12_take_132 tkM_0 (by decide) rfl dX12_take_155 (fun g7 => ?_)
        obtain ⟨g8, hw⟩ := hw
        refine hq_iald (o := 5) C hs tkM_5 g7 g8 dX12_take_158 (fun g9 => ?_)
        refine hq_cS (n := 1) C hs (c_X12_isSmall l C.2.2.2.2.1 (M 5 (M 0 10).toNat) g9 _ _ hw) gX12_take_X12_isSmall rfl ⟨rfl, rfl⟩ (by decide +kernel) ⟨Nat.le_of_ble_eq_true rfl, Nat.le_of_ble_eq_true rfl⟩ rfl hl.1 rfl (Nat.le_of_ble_eq_true rfl) dX12_take_159 (hq_kz (fun x10 M9 H locs rx10 hw hs => ?_))
        obtain ⟨e9, hw⟩ := hw; rw [e9] at hs
        refine hq_if_eq (tgt := 178) C (rb_rg rx10) dX12_take_162 (by decide) (fun h => ?_) (fun h => ?_)
        · have hw := hw.1 h
          exact hq_vret C hs hw dX12_take_178
        · have hw := hw.2 h
          refine cb_X12_take_165  C hw hs (lv_sub hl [0] rfl) ?_
          · intro M H locs ls hw hs hl
            exact ih _ _ _ _ hw hs (lv_sub hl [0] rfl)
set_option maxHeartbeats 4000000 in
set_option maxRecDepth 100000 in
theorem cb_X12_take_118 {p : Program} {l : Launch} {e : Env} {s : State} {m : MethodId} {args : Array Value} {below : List Frame} {meth : Method} {c : Code} {D : va_G} {cA : Nat → ClassId} {B : Nat} {Z : State → Prop}   {k : hq_M → Prop} {M : hq_M} {H : Heap} {locs : List Loc} {ls : Array Slot} (C : hq_C vwCl p m c cX12_take 2 s args wsX12_take RX12 meth none D cA (hq_in B YM.length) Z)
    (hw : b_X12_take_118 k M) (hs : hq_S vwCl SLx D cA YM B s.heap M H locs) (hl : lv_has ls 2 [(0, .ref (B + 0))])
     : W p l e ({ frames := 2, cells := 0, slots := 0, locals := 45 } : Room) s m args below meth c H locs 0 0 (MQ below (hq_Q vwCl SLx D cA YM B (hq_qv k)) args s 0 0 (hq_in B YM.length)) (F0 m 118 ls []) := by
  have hx := C.1.1
  have hb := C.1.2.1
  unfold b_X12_take_118 at hw
  refine lv_aload_n hx hb dX12_take_118 rfl (lv_at hl 0 rfl) ?_
  refine hq_bipush C dX12_take_119 (by decide) ?_
  refine hq_putI (o := 0) C hs fX12_take_141 tkM_0 (by decide) rfl (by decide : rg (-2)) dX12_take_121 (fun M1 eM1 H locs hs => ?_)
  have hw := hw M1 eM1
  obtain ⟨n9, hw⟩ := hw
  refine cl_X12_take_124  C  n9 _ _ _ _ hw hs (lv_sub hl [0] rfl)
set_option maxHeartbeats 4000000 in
set_option maxRecDepth 100000 in
theorem cb_X12_take_91 {p : Program} {l : Launch} {e : Env} {s : State} {m : MethodId} {args : Array Value} {below : List Frame} {meth : Method} {c : Code} {D : va_G} {cA : Nat → ClassId} {B : Nat} {Z : State → Prop} (v1 : Int) (rv1 : rg v1) (t1 : Int) (rt1 : rg t1)  {k : hq_M → Prop} {M : hq_M} {H : Heap} {locs : List Loc} {ls : Array Slot} (C : hq_C vwCl p m c cX12_take 2 s args wsX12_take RX12 meth none D cA (hq_in B YM.length) Z)
    (hw : b_X12_take_91 v1 t1 k M) (hs : hq_S vwCl SLx D cA YM B s.heap M H locs) (hl : lv_has ls 2 [(0, .ref (B + 0)), (1, .int (w3 v1))])
     : W p l e ({ frames := 2, cells := 0, slots := 0, locals := 45 } : Room) s m args below meth c H locs 0 0 (MQ below (hq_Q vwCl SLx D cA YM B (hq_qv k)) args s 0 0 (hq_in B YM.length)) (F0 m 91 ls [.int (w3 t1), .ref (B + 0)]) := by
  have hx := C.1.1
  have hb := C.1.2.1
  unfold b_X12_take_91 at hw
  refine hq_putI (o := 0) C hs fX12_take_141 tkM_0 (by decide) rfl rt1 dX12_take_91 (fun M1 eM1 H locs hs => ?_)
  have hw := hw M1 eM1
  refine lv_aload_n hx hb dX12_take_94 rfl (lv_at hl 0 rfl) ?_
  refine lv_dup hx hb dX12_take_95 rfl ?_
  refine hq_getI (o := 0) C hs fX12_take_132 tkM_0 (by decide) rfl dX12_take_96 (fun g2 => ?_)
  refine hq_iconst C dX12_take_99 ?_
  obtain ⟨g3, hw⟩ := hw
  refine hq_iadd C dX12_take_100 ?_
  refine hq_putI (o := 0) C hs fX12_take_132 tkM_0 (by decide) rfl g3 dX12_take_101 (fun M4 eM4 H locs hs => ?_)
  have hw := hw M4 eM4
  refine lv_iload_n hx hb dX12_take_104 rfl (lv_at hl 1 rfl) ?_
  refine hq_cS (n := 1) C hs (c_X12_isFigure l C.2.2.2.2.1 v1 rv1 _ _ hw) gX12_take_X12_isFigure rfl ⟨rfl, rfl⟩ (by decide +kernel) ⟨Nat.le_of_ble_eq_true rfl, Nat.le_of_ble_eq_true rfl⟩ rfl hl.1 rfl (Nat.le_of_ble_eq_true rfl) dX12_take_105 (hq_kz (fun x5 M9 H locs rx5 hw hs => ?_))
  obtain ⟨e9, hw⟩ := hw; rw [e9] at hs
  refine hq_if_ne (tgt := 118) C (rb_rg rx5) dX12_take_108 (by decide) (fun h => ?_) (fun h => ?_)
  · have hw := hw.1 h
    refine cb_X12_take_118  C hw hs (lv_sub hl [0] rfl) 
  · have hw := hw.2 h
    refine lv_iload_n hx hb dX12_take_111 rfl (lv_at hl 1 rfl) ?_
    refine hq_cS (n := 1) C hs (c_X12_isSmall l C.2.2.2.2.1 v1 rv1 _ _ hw) gX12_take_X12_isSmall rfl ⟨rfl, rfl⟩ (by decide +kernel) ⟨Nat.le_of_ble_eq_true rfl, Nat.le_of_ble_eq_true rfl⟩ rfl hl.1 rfl (Nat.le_of_ble_eq_true rfl) dX12_take_112 (hq_kz (fun x6 M9 H locs rx6 hw hs => ?_))
    obtain ⟨e9, hw⟩ := hw; rw [e9] at hs
    refine hq_if_eq (tgt := 178) C (rb_rg rx6) dX12_take_115 (by decide) (fun h => ?_) (fun h => ?_)
    · have hw := hw.1 h
      exact hq_vret C hs hw dX12_take_178
    · have hw := hw.2 h
      refine cb_X12_take_118  C hw hs (lv_sub hl [0] rfl) 
set_option maxHeartbeats 4000000 in
set_option maxRecDepth 100000 in
theorem cb_X12_take_86 {p : Program} {l : Launch} {e : Env} {s : State} {m : MethodId} {args : Array Value} {below : List Frame} {meth : Method} {c : Code} {D : va_G} {cA : Nat → ClassId} {B : Nat} {Z : State → Prop} (v1 : Int) (rv1 : rg v1)  {k : hq_M → Prop} {M : hq_M} {H : Heap} {locs : List Loc} {ls : Array Slot} (C : hq_C vwCl p m c cX12_take 2 s args wsX12_take RX12 meth none D cA (hq_in B YM.length) Z)
    (hw : b_X12_take_86 v1 k M) (hs : hq_S vwCl SLx D cA YM B s.heap M H locs) (hl : lv_has ls 2 [(0, .ref (B + 0)), (1, .int (w3 v1))])
     : W p l e ({ frames := 2, cells := 0, slots := 0, locals := 45 } : Room) s m args below meth c H locs 0 0 (MQ below (hq_Q vwCl SLx D cA YM B (hq_qv k)) args s 0 0 (hq_in B YM.length)) (F0 m 86 ls [.ref (B + 0)]) := by
  have hx := C.1.1
  have hb := C.1.2.1
  unfold b_X12_take_86 at hw
  refine lv_iload_n hx hb dX12_take_86 rfl (lv_at hl 1 rfl) ?_
  refine hq_goto (tgt := 91) C dX12_take_87 (by decide) ?_
  refine cb_X12_take_91 v1 rv1 v1 rv1 C hw hs (lv_sub hl [0, 1] rfl) 
set_option maxHeartbeats 4000000 in
set_option maxRecDepth 100000 in
theorem c_X12_take (l : Launch) {D : va_G} {cA : Nat → ClassId} {B : Nat} {Z : State → Prop} (hZ : hq_Zo Z (hq_in B YM.length))  (M : hq_M) (k : hq_M → Prop) (hw : w_X12_take  M k) : hq_T vwCl SLx l yX12_take wsX12_take ({ frames := 2, cells := 0, slots := 0, locals := 45 } : Room) D cA YM B Z [.ref (B + 0)] M (hq_qv k) := by
  refine hq_meth (cc := cX12_take) (maxL := 2) (ret := none) (own := RX12) hZ rfl (by decide +kernel) rfl (Nat.le_of_ble_eq_true rfl) ?_
  intro p e s m below meth c ls C hs hl
  have hx := C.1.1
  have hb := C.1.2.1
  unfold w_X12_take at hw
  have hl : lv_has ls 2 [(0, .ref (B + 0))] := hl
  obtain ⟨n9, hw⟩ := hw
  refine cl_X12_take_0  C ?_ n9 _ _ _ _ hw hs (lv_sub hl [0] rfl)
  · intro M1 H locs ls hw hs hl
    refine lv_aload_n hx hb dX12_take_38 rfl (lv_at hl 0 rfl) ?_
    refine lv_aload_n hx hb dX12_take_39 rfl (lv_at hl 0 rfl) ?_
    refine hq_getI (o := 0) C hs fX12_take_132 tkM_0 (by decide) rfl dX12_take_40 (fun g2 => ?_)
    refine hq_putI (o := 0) C hs fX12_take_138 tkM_0 (by decide) rfl g2 dX12_take_43 (fun M3 eM3 H locs hs => ?_)
    have hw := hw M3 eM3
    refine lv_aload_n hx hb dX12_take_46 rfl (lv_at hl 0 rfl) ?_
    refine hq_getI (o := 0) C hs fX12_take_132 tkM_0 (by decide) rfl dX12_take_47 (fun g4 => ?_)
    refine lv_aload_n hx hb dX12_take_50 rfl (lv_at hl 0 rfl) ?_
    refine hq_getI (o := 0) C hs fX12_take_135 tkM_0 (by decide) rfl dX12_take_51 (fun g5 => ?_)
    refine hq_icmp_ne (tgt := 63) C g4 g5 dX12_take_54 (by decide) (fun h => ?_) (fun h => ?_)
    · have hw := hw.1 h
      refine lv_aload_n hx hb dX12_take_63 rfl (lv_at hl 0 rfl) ?_
      refine hq_getA (o := 0) C hs fX12_take_29 tkM_0 (by decide) rfl dX12_take_64 ?_
      refine lv_aload_n hx hb dX12_take_67 rfl (lv_at hl 0 rfl) ?_
      refine hq_getI (o := 0) C hs fX12_take_132 tkM_0 (by decide) rfl dX12_take_68 (fun g6 => ?_)
      obtain ⟨g7, hw⟩ := hw
      refine hq_iald (o := 5) C hs tkM_5 g6 g7 dX12_take_71 (fun g8 => ?_)
      refine hq_nm (fun x9 ex9 => ?_)
      have hw := hw x9 ex9
      have rx9 : rg x9 := by rw [ex9]; exact g8
      refine lv_istore_n (lv' := [(1, .int (w3 x9)), (0, .ref (B + 0))]) hx hb dX12_take_72 rfl hl (by decide) rfl (fun ls hl => ?_)
      refine lv_aload_n hx hb dX12_take_73 rfl (lv_at hl 1 rfl) ?_
      refine lv_iload_n hx hb dX12_take_74 rfl (lv_at hl 0 rfl) ?_
      refine hq_bipush C dX12_take_75 (by decide) ?_
      refine hq_icmp_eq (tgt := 86) C rx9 (by decide : rg 61) dX12_take_77 (by decide) (fun h => ?_) (fun h => ?_)
      · have hw := hw.1 h
        refine cb_X12_take_86 x9 rx9 C hw hs (lv_sub hl [1, 0] rfl) 
      · have hw := hw.2 h
        refine lv_iload_n hx hb dX12_take_80 rfl (lv_at hl 0 rfl) ?_
        refine hq_bipush C dX12_take_81 (by decide) ?_
        refine hq_icmp_ne (tgt := 90) C rx9 (by decide : rg 59) dX12_take_83 (by decide) (fun h => ?_) (fun h => ?_)
        · have hw := hw.1 h
          refine hq_iconst C dX12_take_90 ?_
          refine cb_X12_take_91 x9 rx9 0 (by decide : rg 0) C hw hs (lv_sub hl [1, 0] rfl) 
        · have hw := hw.2 h
          refine cb_X12_take_86 x9 rx9 C hw hs (lv_sub hl [1, 0] rfl) 
    · have hw := hw.2 h
      refine lv_aload_n hx hb dX12_take_57 rfl (lv_at hl 0 rfl) ?_
      refine hq_iconst C dX12_take_58 ?_
      refine hq_putI (o := 0) C hs fX12_take_141 tkM_0 (by decide) rfl (by decide : rg (-1)) dX12_take_59 (fun M10 eM10 H locs hs => ?_)
      have hw := hw M10 eM10
      exact hq_vret C hs hw dX12_take_62
theorem iX12_word_12 : ∀ w ∈ u_ws RX12 TX12 57, w ∈ wsX12_word := fun w h => List.mem_cons_of_mem _ (List.mem_append_right _ h)
set_option maxRecDepth 20000 in
theorem fX12_word_29 : hq_fl vwCl wsX12_word RX12 29 12 8 true (.array .int) := ⟨RX12, TX12, 57, tyX12, rfl, by decide, iX12_word_12, by decide +kernel, rfl, tyX12_ok 8 (by decide), tyX12_ok, nmX12⟩
set_option maxRecDepth 20000 in
theorem fX12_word_132 : hq_fl vwCl wsX12_word RX12 132 12 10 false .int := ⟨RX12, TX12, 57, tyX12, rfl, by decide, iX12_word_12, by decide +kernel, rfl, tyX12_ok 10 (by decide), tyX12_ok, nmX12⟩
set_option maxRecDepth 20000 in
theorem fX12_word_138 : hq_fl vwCl wsX12_word RX12 138 12 11 false .int := ⟨RX12, TX12, 57, tyX12, rfl, by decide, iX12_word_12, by decide +kernel, rfl, tyX12_ok 11 (by decide), tyX12_ok, nmX12⟩
set_option maxRecDepth 20000 in
theorem fX12_word_141 : hq_fl vwCl wsX12_word RX12 141 12 12 false .int := ⟨RX12, TX12, 57, tyX12, rfl, by decide, iX12_word_12, by decide +kernel, rfl, tyX12_ok 12 (by decide), tyX12_ok, nmX12⟩
set_option maxRecDepth 20000 in
theorem kX12_word_151 : Cond.constantLong RX12 151 256 ∈ wsX12_word := by decide +kernel
set_option maxHeartbeats 4000000 in
set_option maxRecDepth 100000 in
theorem cl_X12_word_7 {p : Program} {l : Launch} {e : Env} {s : State} {m : MethodId} {args : Array Value} {below : List Frame} {meth : Method} {c : Code} {D : va_G} {cA : Nat → ClassId} {B : Nat} {Z : State → Prop}  {k_35 : Int → Prop} {k : Int → Prop} {M : hq_M} (C : hq_C vwCl p m c cX12_word 4 s args wsX12_word RX12 meth (some .long) D cA (hq_in B YM.length) Z)
    (hk_35 : ∀ (y1 : Int) (ry1 : rl y1) (H : Heap) (locs : List Loc) (ls : Array Slot), k_35 y1 → hq_S vwCl SLx D cA YM B s.heap M H locs → lv_has ls 4 [(0, .ref (B + 0)), (1, .long (w6 y1))] → W p l e ({ frames := 0, cells := 0, slots := 0, locals := 0 } : Room) s m args below meth c H locs 0 0 (MQ below (hq_Q vwCl SLx D cA YM B (hq_ql (fun z M' => M' = M ∧ k z))) args s 0 0 (hq_in B YM.length)) (F0 m 35 ls [])) : ∀ (n : Nat) (v1 : Int) (rv1 : rl v1) (v3 : Int) (rv3 : rg v3) (H : Heap) (locs : List Loc) (ls : Array Slot), l_X12_word_7 k_35 k M n v1 v3 → hq_S vwCl SLx D cA YM B s.heap M H locs → lv_has ls 4 [(0, .ref (B + 0)), (1, .long (w6 v1)), (3, .int (w3 v3))] → W p l e ({ frames := 0, cells := 0, slots := 0, locals := 0 } : Room) s m args below meth c H locs 0 0 (MQ below (hq_Q vwCl SLx D cA YM B (hq_ql (fun z M' => M' = M ∧ k z))) args s 0 0 (hq_in B YM.length)) (F0 m 7 ls []) := by
  have hx := C.1.1
  have hb := C.1.2.1
  intro n
  induction n with
  | zero => intro v1 rv1 v3 rv3 H locs ls hw hs hl; exact hw.elim
  | succ n ih =>
    intro v1 rv1 v3 rv3 H locs ls hw hs hl
    unfold l_X12_word_7 at hw
    refine lv_iload_n hx hb dX12_word_7 rfl (lv_at hl 2 rfl) ?_
    refine lv_aload_n hx hb dX12_word_8 rfl (lv_at hl 0 rfl) ?_
    refine hq_getI (o := 0) C hs fX12_word_132 tkM_0 (by decide) rfl dX12_word_9 (fun g1 => ?_)
    refine hq_icmp_ge (tgt := 35) C rv3 g1 dX12_word_12 (by decide) (fun h => ?_) (fun h => ?_)
    · have hw := hw.1 h
      exact hk_35 v1 rv1 _ _ _ hw hs (lv_sub hl [0, 1] rfl)
    · have hw := hw.2 h
      refine hq_ldc2 (z := 256) C kX12_word_151 (by decide) dX12_word_15 ?_
      refine lv_lload_n hx hb dX12_word_18 rfl (lv_at hl 1 rfl) ?_
      refine hq_lmulW C dX12_word_19 ?_
      refine lv_aload_n hx hb dX12_word_20 rfl (lv_at hl 0 rfl) ?_
      refine hq_getA (o := 0) C hs fX12_word_29 tkM_0 (by decide) rfl dX12_word_21 ?_
      refine lv_iload_n hx hb dX12_word_24 rfl (lv_at hl 2 rfl) ?_
      obtain ⟨g2, hw⟩ := hw
      refine hq_iald (o := 5) C hs tkM_5 rv3 g2 dX12_word_25 (fun g3 => ?_)
      refine hq_i2l (y := 0) C g3 dX12_word_26 ?_
      refine hq_laddW C dX12_word_27 ?_
      refine hq_nmL (fun x4 ex4 => ?_)
      have hw := hw x4 ex4
      have rx4 : rl x4 := by rw [ex4]; exact (w6_rl _)
      refine lv_lstore_n (lv' := [(1, .long (w6 x4)), (0, .ref (B + 0)), (3, .int (w3 v3))]) hx hb dX12_word_28 rfl hl (by decide) rfl (fun ls hl => ?_)
      obtain ⟨g6, hw⟩ := hw
      refine hq_iinc (k := 2) C dX12_word_29 hl rfl (by decide) (fun x5 ex5 ls hl => ?_)
      have hw := hw x5 ex5
      have rx5 : rg x5 := by rw [ex5]; exact g6
      have hl : lv_has ls 4 [(3, .int (w3 x5)), (1, .long (w6 x4)), (0, .ref (B + 0))] := hl
      refine hq_goto (tgt := 7) C dX12_word_32 (by decide) ?_
      exact ih x4 rx4 x5 rx5 _ _ _ hw hs (lv_sub hl [2, 1, 0] rfl)
set_option maxHeartbeats 4000000 in
set_option maxRecDepth 100000 in
theorem c_X12_word (l : Launch) {D : va_G} {cA : Nat → ClassId} {B : Nat} {Z : State → Prop} (hZ : hq_Zo Z (hq_in B YM.length))  (M : hq_M) (k : Int → Prop) (hw : w_X12_word  M k) : hq_T vwCl SLx l yX12_word wsX12_word ({ frames := 0, cells := 0, slots := 0, locals := 0 } : Room) D cA YM B Z [.ref (B + 0)] M (hq_ql (fun z M' => M' = M ∧ k z)) := by
  refine hq_meth (cc := cX12_word) (maxL := 4) (ret := (some .long)) (own := RX12) hZ rfl (by decide +kernel) rfl (Nat.le_of_ble_eq_true rfl) ?_
  intro p e s m below meth c ls C hs hl
  have hx := C.1.1
  have hb := C.1.2.1
  unfold w_X12_word at hw
  have hl : lv_has ls 4 [(0, .ref (B + 0))] := hl
  refine hq_lconst (z := 0) C dX12_word_0 rfl ?_
  refine lv_lstore_n (lv' := [(1, .long (w6 0)), (0, .ref (B + 0))]) hx hb dX12_word_1 rfl hl (by decide) rfl (fun ls hl => ?_)
  refine lv_aload_n hx hb dX12_word_2 rfl (lv_at hl 1 rfl) ?_
  refine hq_getI (o := 0) C hs fX12_word_138 tkM_0 (by decide) rfl dX12_word_3 (fun g1 => ?_)
  refine hq_nm (fun x2 ex2 => ?_)
  have hw := hw x2 ex2
  have rx2 : rg x2 := by rw [ex2]; exact g1
  refine lv_istore_n (lv' := [(3, .int (w3 x2)), (1, .long (w6 0)), (0, .ref (B + 0))]) hx hb dX12_word_6 rfl hl (by decide) rfl (fun ls hl => ?_)
  obtain ⟨n9, hw⟩ := hw
  refine cl_X12_word_7  C ?_ n9 0 (by decide : rl 0) x2 rx2 _ _ _ hw hs (lv_sub hl [2, 1, 0] rfl)
  · intro x3 rx3 H locs ls hw hs hl
    refine lv_aload_n hx hb dX12_word_35 rfl (lv_at hl 0 rfl) ?_
    refine hq_getI (o := 0) C hs fX12_word_141 tkM_0 (by decide) rfl dX12_word_36 (fun g4 => ?_)
    refine hq_bipush C dX12_word_39 (by decide) ?_
    refine hq_icmp_ne (tgt := 62) C g4 (by decide : rg (-2)) dX12_word_41 (by decide) (fun h => ?_) (fun h => ?_)
    · have hw := hw.1 h
      refine hq_lconst (z := 0) C dX12_word_62 rfl ?_
      exact hq_lret C hs (by decide : rl 0) ⟨rfl, hw⟩ dX12_word_63
    · have hw := hw.2 h
      refine lv_aload_n hx hb dX12_word_44 rfl (lv_at hl 0 rfl) ?_
      refine hq_getI (o := 0) C hs fX12_word_132 tkM_0 (by decide) rfl dX12_word_45 (fun g5 => ?_)
      refine lv_aload_n hx hb dX12_word_48 rfl (lv_at hl 0 rfl) ?_
      refine hq_getI (o := 0) C hs fX12_word_138 tkM_0 (by decide) rfl dX12_word_49 (fun g6 => ?_)
      obtain ⟨g7, hw⟩ := hw
      refine hq_isub C dX12_word_52 ?_
      refine hq_bipush C dX12_word_53 (by decide) ?_
      refine hq_icmp_ge (tgt := 62) C g7 (by decide : rg 8) dX12_word_55 (by decide) (fun h => ?_) (fun h => ?_)
      · have hw := hw.1 h
        refine hq_lconst (z := 0) C dX12_word_62 rfl ?_
        exact hq_lret C hs (by decide : rl 0) ⟨rfl, hw⟩ dX12_word_63
      · have hw := hw.2 h
        refine lv_lload_n hx hb dX12_word_58 rfl (lv_at hl 1 rfl) ?_
        refine hq_goto (tgt := 63) C dX12_word_59 (by decide) ?_
        exact hq_lret C hs rx3 ⟨rfl, hw⟩ dX12_word_63
theorem iX12_told_12 : ∀ w ∈ u_ws RX12 TX12 57, w ∈ wsX12_told := fun w h => List.mem_cons_of_mem _ (List.mem_append_right _ h)
set_option maxRecDepth 20000 in
theorem fX12_told_29 : hq_fl vwCl wsX12_told RX12 29 12 8 true (.array .int) := ⟨RX12, TX12, 57, tyX12, rfl, by decide, iX12_told_12, by decide +kernel, rfl, tyX12_ok 8 (by decide), tyX12_ok, nmX12⟩
set_option maxRecDepth 20000 in
theorem fX12_told_132 : hq_fl vwCl wsX12_told RX12 132 12 10 false .int := ⟨RX12, TX12, 57, tyX12, rfl, by decide, iX12_told_12, by decide +kernel, rfl, tyX12_ok 10 (by decide), tyX12_ok, nmX12⟩
set_option maxRecDepth 20000 in
theorem fX12_told_138 : hq_fl vwCl wsX12_told RX12 138 12 11 false .int := ⟨RX12, TX12, 57, tyX12, rfl, by decide, iX12_told_12, by decide +kernel, rfl, tyX12_ok 11 (by decide), tyX12_ok, nmX12⟩
set_option maxRecDepth 20000 in
theorem fX12_told_141 : hq_fl vwCl wsX12_told RX12 141 12 12 false .int := ⟨RX12, TX12, 57, tyX12, rfl, by decide, iX12_told_12, by decide +kernel, rfl, tyX12_ok 12 (by decide), tyX12_ok, nmX12⟩
set_option maxHeartbeats 4000000 in
set_option maxRecDepth 100000 in
theorem cb_X12_told_104 {p : Program} {l : Launch} {e : Env} {s : State} {m : MethodId} {args : Array Value} {below : List Frame} {meth : Method} {c : Code} {D : va_G} {cA : Nat → ClassId} {B : Nat} {Z : State → Prop} (v2 : Int) (rv2 : rg v2) (t0 : Int) (rt0 : rg t0) {k_61 : Int → Int → Prop} {k : Int → Prop} {M : hq_M} {H : Heap} {locs : List Loc} {ls : Array Slot} (C : hq_C vwCl p m c cX12_told 3 s args wsX12_told RX12 meth (some .int) D cA (hq_in B YM.length) Z)
    (hw : b_X12_told_104 v2 t0 k_61 k M) (hs : hq_S vwCl SLx D cA YM B s.heap M H locs) (hl : lv_has ls 3 [(0, .ref (B + 0)), (2, .int (w3 v2))])
    (hk_61 : ∀ (y1 : Int) (ry1 : rg y1) (y2 : Int) (ry2 : rg y2) (H : Heap) (locs : List Loc) (ls : Array Slot), k_61 y1 y2 → hq_S vwCl SLx D cA YM B s.heap M H locs → lv_has ls 3 [(0, .ref (B + 0)), (1, .int (w3 y1)), (2, .int (w3 y2))] → W p l e ({ frames := 2, cells := 0, slots := 0, locals := 45 } : Room) s m args below meth c H locs 0 0 (MQ below (hq_Q vwCl SLx D cA YM B (hq_qi (fun z M' => M' = M ∧ k z))) args s 0 0 (hq_in B YM.length)) (F0 m 61 ls [])) : W p l e ({ frames := 2, cells := 0, slots := 0, locals := 45 } : Room) s m args below meth c H locs 0 0 (MQ below (hq_Q vwCl SLx D cA YM B (hq_qi (fun z M' => M' = M ∧ k z))) args s 0 0 (hq_in B YM.length)) (F0 m 104 ls [.int (w3 t0)]) := by
  have hx := C.1.1
  have hb := C.1.2.1
  unfold b_X12_told_104 at hw
  refine lv_istore_n (lv' := [(1, .int (w3 t0)), (0, .ref (B + 0)), (2, .int (w3 v2))]) hx hb dX12_told_104 rfl hl (by decide) rfl (fun ls hl => ?_)
  obtain ⟨g2, hw⟩ := hw
  refine hq_iinc (k := 2) C dX12_told_105 hl rfl (by decide) (fun x1 ex1 ls hl => ?_)
  have hw := hw x1 ex1
  have rx1 : rg x1 := by rw [ex1]; exact g2
  have hl : lv_has ls 3 [(2, .int (w3 x1)), (1, .int (w3 t0)), (0, .ref (B + 0))] := hl
  refine hq_goto (tgt := 61) C dX12_told_108 (by decide) ?_
  exact hk_61 t0 rt0 x1 rx1 _ _ _ hw hs (lv_sub hl [2, 1, 0] rfl)
set_option maxHeartbeats 4000000 in
set_option maxRecDepth 100000 in
theorem cl_X12_told_61 {p : Program} {l : Launch} {e : Env} {s : State} {m : MethodId} {args : Array Value} {below : List Frame} {meth : Method} {c : Code} {D : va_G} {cA : Nat → ClassId} {B : Nat} {Z : State → Prop}   {k : Int → Prop} {M : hq_M} (C : hq_C vwCl p m c cX12_told 3 s args wsX12_told RX12 meth (some .int) D cA (hq_in B YM.length) Z)
     : ∀ (n : Nat) (v1 : Int) (rv1 : rg v1) (v2 : Int) (rv2 : rg v2) (H : Heap) (locs : List Loc) (ls : Array Slot), l_X12_told_61 k M n v1 v2 → hq_S vwCl SLx D cA YM B s.heap M H locs → lv_has ls 3 [(0, .ref (B + 0)), (1, .int (w3 v1)), (2, .int (w3 v2))] → W p l e ({ frames := 2, cells := 0, slots := 0, locals := 45 } : Room) s m args below meth c H locs 0 0 (MQ below (hq_Q vwCl SLx D cA YM B (hq_qi (fun z M' => M' = M ∧ k z))) args s 0 0 (hq_in B YM.length)) (F0 m 61 ls []) := by
  have hx := C.1.1
  have hb := C.1.2.1
  intro n
  induction n with
  | zero => intro v1 rv1 v2 rv2 H locs ls hw hs hl; exact hw.elim
  | succ n ih =>
    intro v1 rv1 v2 rv2 H locs ls hw hs hl
    unfold l_X12_told_61 at hw
    refine lv_iload_n hx hb dX12_told_61 rfl (lv_at hl 2 rfl) ?_
    refine lv_aload_n hx hb dX12_told_62 rfl (lv_at hl 0 rfl) ?_
    refine hq_getI (o := 0) C hs fX12_told_132 tkM_0 (by decide) rfl dX12_told_63 (fun g1 => ?_)
    refine hq_icmp_ge (tgt := 111) C rv2 g1 dX12_told_66 (by decide) (fun h => ?_) (fun h => ?_)
    · have hw := hw.1 h
      refine lv_iload_n hx hb dX12_told_111 rfl (lv_at hl 1 rfl) ?_
      exact hq_iret C hs rv1 ⟨rfl, hw⟩ dX12_told_112
    · have hw := hw.2 h
      refine lv_iload_n hx hb dX12_told_69 rfl (lv_at hl 1 rfl) ?_
      refine hq_if_lt (tgt := 111) C rv1 dX12_told_70 (by decide) (fun h => ?_) (fun h => ?_)
      · have hw := hw.1 h
        refine lv_iload_n hx hb dX12_told_111 rfl (lv_at hl 1 rfl) ?_
        exact hq_iret C hs rv1 ⟨rfl, hw⟩ dX12_told_112
      · have hw := hw.2 h
        refine lv_aload_n hx hb dX12_told_73 rfl (lv_at hl 0 rfl) ?_
        refine hq_getA (o := 0) C hs fX12_told_29 tkM_0 (by decide) rfl dX12_told_74 ?_
        refine lv_iload_n hx hb dX12_told_77 rfl (lv_at hl 2 rfl) ?_
        obtain ⟨g2, hw⟩ := hw
        refine hq_iald (o := 5) C hs tkM_5 rv2 g2 dX12_told_78 (fun g3 => ?_)
        refine hq_cS (n := 1) C hs (c_X12_isFigure l C.2.2.2.2.1 (M 5 v2.toNat) g3 _ _ hw) gX12_told_X12_isFigure rfl ⟨rfl, rfl⟩ (by decide +kernel) ⟨Nat.le_of_ble_eq_true rfl, Nat.le_of_ble_eq_true rfl⟩ rfl hl.1 rfl (Nat.le_of_ble_eq_true rfl) dX12_told_79 (hq_kz (fun x4 M9 H locs rx4 hw hs => ?_))
        obtain ⟨e9, hw⟩ := hw; rw [e9] at hs
        refine hq_if_eq (tgt := 102) C (rb_rg rx4) dX12_told_82 (by decide) (fun h => ?_) (fun h => ?_)
        · have hw := hw.1 h
          refine hq_bipush C dX12_told_102 (by decide) ?_
          refine cb_X12_told_104 v2 rv2 (-9) (by decide : rg (-9)) C hw hs (lv_sub hl [0, 2] rfl) ?_
          · intro y1 ry1 y2 ry2 H locs ls hw hs hl
            exact ih y1 ry1 y2 ry2 _ _ _ hw hs (lv_sub hl [0, 1, 2] rfl)
        · have hw := hw.2 h
          refine hq_bipush C dX12_told_85 (by decide) ?_
          refine lv_iload_n hx hb dX12_told_87 rfl (lv_at hl 1 rfl) ?_
          obtain ⟨g5, hw⟩ := hw
          refine hq_imul C dX12_told_88 ?_
          refine lv_aload_n hx hb dX12_told_89 rfl (lv_at hl 0 rfl) ?_
          refine hq_getA (o := 0) C hs fX12_told_29 tkM_0 (by decide) rfl dX12_told_90 ?_
          refine lv_iload_n hx hb dX12_told_93 rfl (lv_at hl 2 rfl) ?_
          obtain ⟨g6, hw⟩ := hw
          refine hq_iald (o := 5) C hs tkM_5 rv2 g6 dX12_told_94 (fun g7 => ?_)
          obtain ⟨g8, hw⟩ := hw
          refine hq_iadd C dX12_told_95 ?_
          refine hq_bipush C dX12_told_96 (by decide) ?_
          obtain ⟨g9, hw⟩ := hw
          refine hq_isub C dX12_told_98 ?_
          refine hq_goto (tgt := 104) C dX12_told_99 (by decide) ?_
          refine cb_X12_told_104 v2 rv2 (((10 * v1) + (M 5 v2.toNat)) - 48) g9 C hw hs (lv_sub hl [0, 2] rfl) ?_
          · intro y1 ry1 y2 ry2 H locs ls hw hs hl
            exact ih y1 ry1 y2 ry2 _ _ _ hw hs (lv_sub hl [0, 1, 2] rfl)
set_option maxHeartbeats 4000000 in
set_option maxRecDepth 100000 in
theorem cb_X12_told_55 {p : Program} {l : Launch} {e : Env} {s : State} {m : MethodId} {args : Array Value} {below : List Frame} {meth : Method} {c : Code} {D : va_G} {cA : Nat → ClassId} {B : Nat} {Z : State → Prop} (t0 : Int) (rt0 : rg t0)  {k : Int → Prop} {M : hq_M} {H : Heap} {locs : List Loc} {ls : Array Slot} (C : hq_C vwCl p m c cX12_told 3 s args wsX12_told RX12 meth (some .int) D cA (hq_in B YM.length) Z)
    (hw : b_X12_told_55 t0 k M) (hs : hq_S vwCl SLx D cA YM B s.heap M H locs) (hl : lv_has ls 3 [(0, .ref (B + 0))])
     : W p l e ({ frames := 2, cells := 0, slots := 0, locals := 45 } : Room) s m args below meth c H locs 0 0 (MQ below (hq_Q vwCl SLx D cA YM B (hq_qi (fun z M' => M' = M ∧ k z))) args s 0 0 (hq_in B YM.length)) (F0 m 55 ls [.int (w3 t0)]) := by
  have hx := C.1.1
  have hb := C.1.2.1
  unfold b_X12_told_55 at hw
  refine lv_istore_n (lv' := [(1, .int (w3 t0)), (0, .ref (B + 0))]) hx hb dX12_told_55 rfl hl (by decide) rfl (fun ls hl => ?_)
  refine lv_aload_n hx hb dX12_told_56 rfl (lv_at hl 1 rfl) ?_
  refine hq_getI (o := 0) C hs fX12_told_138 tkM_0 (by decide) rfl dX12_told_57 (fun g1 => ?_)
  refine hq_nm (fun x2 ex2 => ?_)
  have hw := hw x2 ex2
  have rx2 : rg x2 := by rw [ex2]; exact g1
  refine lv_istore_n (lv' := [(2, .int (w3 x2)), (1, .int (w3 t0)), (0, .ref (B + 0))]) hx hb dX12_told_60 rfl hl (by decide) rfl (fun ls hl => ?_)
  obtain ⟨n9, hw⟩ := hw
  refine cl_X12_told_61  C  n9 t0 rt0 x2 rx2 _ _ _ hw hs (lv_sub hl [2, 1, 0] rfl)
set_option maxHeartbeats 4000000 in
set_option maxRecDepth 100000 in
theorem cb_X12_told_53 {p : Program} {l : Launch} {e : Env} {s : State} {m : MethodId} {args : Array Value} {below : List Frame} {meth : Method} {c : Code} {D : va_G} {cA : Nat → ClassId} {B : Nat} {Z : State → Prop}   {k : Int → Prop} {M : hq_M} {H : Heap} {locs : List Loc} {ls : Array Slot} (C : hq_C vwCl p m c cX12_told 3 s args wsX12_told RX12 meth (some .int) D cA (hq_in B YM.length) Z)
    (hw : b_X12_told_53 k M) (hs : hq_S vwCl SLx D cA YM B s.heap M H locs) (hl : lv_has ls 3 [(0, .ref (B + 0))])
     : W p l e ({ frames := 2, cells := 0, slots := 0, locals := 45 } : Room) s m args below meth c H locs 0 0 (MQ below (hq_Q vwCl SLx D cA YM B (hq_qi (fun z M' => M' = M ∧ k z))) args s 0 0 (hq_in B YM.length)) (F0 m 53 ls []) := by
  have hx := C.1.1
  have hb := C.1.2.1
  unfold b_X12_told_53 at hw
  refine hq_bipush C dX12_told_53 (by decide) ?_
  refine cb_X12_told_55 (-9) (by decide : rg (-9)) C hw hs (lv_sub hl [0] rfl) 
set_option maxHeartbeats 4000000 in
set_option maxRecDepth 100000 in
theorem cb_X12_told_49 {p : Program} {l : Launch} {e : Env} {s : State} {m : MethodId} {args : Array Value} {below : List Frame} {meth : Method} {c : Code} {D : va_G} {cA : Nat → ClassId} {B : Nat} {Z : State → Prop}   {k : Int → Prop} {M : hq_M} {H : Heap} {locs : List Loc} {ls : Array Slot} (C : hq_C vwCl p m c cX12_told 3 s args wsX12_told RX12 meth (some .int) D cA (hq_in B YM.length) Z)
    (hw : b_X12_told_49 k M) (hs : hq_S vwCl SLx D cA YM B s.heap M H locs) (hl : lv_has ls 3 [(0, .ref (B + 0))])
     : W p l e ({ frames := 2, cells := 0, slots := 0, locals := 45 } : Room) s m args below meth c H locs 0 0 (MQ below (hq_Q vwCl SLx D cA YM B (hq_qi (fun z M' => M' = M ∧ k z))) args s 0 0 (hq_in B YM.length)) (F0 m 49 ls []) := by
  have hx := C.1.1
  have hb := C.1.2.1
  unfold b_X12_told_49 at hw
  refine hq_iconst C dX12_told_49 ?_
  refine hq_goto (tgt := 55) C dX12_told_50 (by decide) ?_
  refine cb_X12_told_55 0 (by decide : rg 0) C hw hs (lv_sub hl [0] rfl) 
set_option maxHeartbeats 4000000 in
set_option maxRecDepth 100000 in
theorem c_X12_told (l : Launch) {D : va_G} {cA : Nat → ClassId} {B : Nat} {Z : State → Prop} (hZ : hq_Zo Z (hq_in B YM.length))  (M : hq_M) (k : Int → Prop) (hw : w_X12_told  M k) : hq_T vwCl SLx l yX12_told wsX12_told ({ frames := 2, cells := 0, slots := 0, locals := 45 } : Room) D cA YM B Z [.ref (B + 0)] M (hq_qi (fun z M' => M' = M ∧ k z)) := by
  refine hq_meth (cc := cX12_told) (maxL := 3) (ret := (some .int)) (own := RX12) hZ rfl (by decide +kernel) rfl (Nat.le_of_ble_eq_true rfl) ?_
  intro p e s m below meth c ls C hs hl
  have hx := C.1.1
  have hb := C.1.2.1
  unfold w_X12_told at hw
  have hl : lv_has ls 3 [(0, .ref (B + 0))] := hl
  refine lv_aload_n hx hb dX12_told_0 rfl (lv_at hl 0 rfl) ?_
  refine hq_getI (o := 0) C hs fX12_told_141 tkM_0 (by decide) rfl dX12_told_1 (fun g1 => ?_)
  refine hq_bipush C dX12_told_4 (by decide) ?_
  refine hq_icmp_ne (tgt := 53) C g1 (by decide : rg (-2)) dX12_told_6 (by decide) (fun h => ?_) (fun h => ?_)
  · have hw := hw.1 h
    refine cb_X12_told_53  C hw hs (lv_sub hl [0] rfl) 
  · have hw := hw.2 h
    refine lv_aload_n hx hb dX12_told_9 rfl (lv_at hl 0 rfl) ?_
    refine hq_getI (o := 0) C hs fX12_told_132 tkM_0 (by decide) rfl dX12_told_10 (fun g2 => ?_)
    refine lv_aload_n hx hb dX12_told_13 rfl (lv_at hl 0 rfl) ?_
    refine hq_getI (o := 0) C hs fX12_told_138 tkM_0 (by decide) rfl dX12_told_14 (fun g3 => ?_)
    obtain ⟨g4, hw⟩ := hw
    refine hq_isub C dX12_told_17 ?_
    refine hq_iconst C dX12_told_18 ?_
    refine hq_icmp_ge (tgt := 53) C g4 (by decide : rg 4) dX12_told_19 (by decide) (fun h => ?_) (fun h => ?_)
    · have hw := hw.1 h
      refine cb_X12_told_53  C hw hs (lv_sub hl [0] rfl) 
    · have hw := hw.2 h
      refine lv_aload_n hx hb dX12_told_22 rfl (lv_at hl 0 rfl) ?_
      refine hq_getA (o := 0) C hs fX12_told_29 tkM_0 (by decide) rfl dX12_told_23 ?_
      refine lv_aload_n hx hb dX12_told_26 rfl (lv_at hl 0 rfl) ?_
      refine hq_getI (o := 0) C hs fX12_told_138 tkM_0 (by decide) rfl dX12_told_27 (fun g5 => ?_)
      obtain ⟨g6, hw⟩ := hw
      refine hq_iald (o := 5) C hs tkM_5 g5 g6 dX12_told_30 (fun g7 => ?_)
      refine hq_bipush C dX12_told_31 (by decide) ?_
      refine hq_icmp_ne (tgt := 49) C g7 (by decide : rg 48) dX12_told_33 (by decide) (fun h => ?_) (fun h => ?_)
      · have hw := hw.1 h
        refine cb_X12_told_49  C hw hs (lv_sub hl [0] rfl) 
      · have hw := hw.2 h
        refine lv_aload_n hx hb dX12_told_36 rfl (lv_at hl 0 rfl) ?_
        refine hq_getI (o := 0) C hs fX12_told_132 tkM_0 (by decide) rfl dX12_told_37 (fun g8 => ?_)
        refine lv_aload_n hx hb dX12_told_40 rfl (lv_at hl 0 rfl) ?_
        refine hq_getI (o := 0) C hs fX12_told_138 tkM_0 (by decide) rfl dX12_told_41 (fun g9 => ?_)
        obtain ⟨g10, hw⟩ := hw
        refine hq_isub C dX12_told_44 ?_
        refine hq_iconst C dX12_told_45 ?_
        refine hq_icmp_ne (tgt := 53) C g10 (by decide : rg 1) dX12_told_46 (by decide) (fun h => ?_) (fun h => ?_)
        · have hw := hw.1 h
          refine cb_X12_told_53  C hw hs (lv_sub hl [0] rfl) 
        · have hw := hw.2 h
          refine cb_X12_told_49  C hw hs (lv_sub hl [0] rfl) 
theorem iX12_readsSign_12 : ∀ w ∈ u_ws RX12 TX12 57, w ∈ wsX12_readsSign := fun w h => List.mem_cons_of_mem _ (List.mem_append_right _ h)
set_option maxRecDepth 20000 in
theorem fX12_readsSign_141 : hq_fl vwCl wsX12_readsSign RX12 141 12 12 false .int := ⟨RX12, TX12, 57, tyX12, rfl, by decide, iX12_readsSign_12, by decide +kernel, rfl, tyX12_ok 12 (by decide), tyX12_ok, nmX12⟩
set_option maxHeartbeats 4000000 in
set_option maxRecDepth 100000 in
theorem cb_X12_readsSign_13 {p : Program} {l : Launch} {e : Env} {s : State} {m : MethodId} {args : Array Value} {below : List Frame} {meth : Method} {c : Code} {D : va_G} {cA : Nat → ClassId} {B : Nat} {Z : State → Prop} (t0 : Int) (rt0 : rb t0)  {k : Int → hq_M → Prop} {M : hq_M} {H : Heap} {locs : List Loc} {ls : Array Slot} (C : hq_C vwCl p m c cX12_readsSign 3 s args wsX12_readsSign RX12 meth (some .boolean) D cA (hq_in B YM.length) Z)
    (hw : b_X12_readsSign_13 t0 k M) (hs : hq_S vwCl SLx D cA YM B s.heap M H locs) (hl : lv_has ls 3 [(0, .ref (B + 0))])
     : W p l e ({ frames := 3, cells := 0, slots := 0, locals := 66 } : Room) s m args below meth c H locs 0 0 (MQ below (hq_Q vwCl SLx D cA YM B (hq_qz k)) args s 0 0 (hq_in B YM.length)) (F0 m 13 ls [.int (w3 t0)]) := by
  have hx := C.1.1
  have hb := C.1.2.1
  unfold b_X12_readsSign_13 at hw
  refine lv_istore_n (lv' := [(2, .int (w3 t0)), (0, .ref (B + 0))]) hx hb dX12_readsSign_13 rfl hl (by decide) rfl (fun ls hl => ?_)
  refine lv_iload_n hx hb dX12_readsSign_14 rfl (lv_at hl 0 rfl) ?_
  refine hq_if_eq (tgt := 22) C (rb_rg rt0) dX12_readsSign_15 (by decide) (fun h => ?_) (fun h => ?_)
  · have hw := hw.1 h
    refine lv_iload_n hx hb dX12_readsSign_22 rfl (lv_at hl 0 rfl) ?_
    exact hq_zret C hs rt0 hw dX12_readsSign_23
  · have hw := hw.2 h
    refine lv_aload_n hx hb dX12_readsSign_18 rfl (lv_at hl 1 rfl) ?_
    refine hq_cV (n := 0) (ci := 12) (o := 0) (qc := (TX12, 57)) C hs (c_X12_take l C.2.2.2.2.1 _ _ hw) gX12_readsSign_X12_take rfl ⟨rfl, rfl⟩ (by decide +kernel) ⟨Nat.le_of_ble_eq_true rfl, Nat.le_of_ble_eq_true rfl⟩ tkM_0 (by decide) rfl rfl hl.1 rfl (Nat.le_of_ble_eq_true rfl) dX12_readsSign_19 (hq_kv (fun M1 H locs hw hs => ?_))
    refine lv_iload_n hx hb dX12_readsSign_22 rfl (lv_at hl 0 rfl) ?_
    exact hq_zret C hs rt0 hw dX12_readsSign_23
set_option maxHeartbeats 4000000 in
set_option maxRecDepth 100000 in
theorem c_X12_readsSign (l : Launch) {D : va_G} {cA : Nat → ClassId} {B : Nat} {Z : State → Prop} (hZ : hq_Zo Z (hq_in B YM.length)) (v1 : Int) (rv1 : rg v1) (M : hq_M) (k : Int → hq_M → Prop) (hw : w_X12_readsSign v1 M k) : hq_T vwCl SLx l yX12_readsSign wsX12_readsSign ({ frames := 3, cells := 0, slots := 0, locals := 66 } : Room) D cA YM B Z [.ref (B + 0), .int (w3 v1)] M (hq_qz k) := by
  refine hq_meth (cc := cX12_readsSign) (maxL := 3) (ret := (some .boolean)) (own := RX12) hZ rfl (by decide +kernel) rfl (Nat.le_of_ble_eq_true rfl) ?_
  intro p e s m below meth c ls C hs hl
  have hx := C.1.1
  have hb := C.1.2.1
  unfold w_X12_readsSign at hw
  have hl : lv_has ls 3 [(0, .ref (B + 0)), (1, .int (w3 v1))] := hl
  refine lv_aload_n hx hb dX12_readsSign_0 rfl (lv_at hl 0 rfl) ?_
  refine hq_getI (o := 0) C hs fX12_readsSign_141 tkM_0 (by decide) rfl dX12_readsSign_1 (fun g1 => ?_)
  refine lv_iload_n hx hb dX12_readsSign_4 rfl (lv_at hl 1 rfl) ?_
  refine hq_icmp_ne (tgt := 12) C g1 rv1 dX12_readsSign_5 (by decide) (fun h => ?_) (fun h => ?_)
  · have hw := hw.1 h
    refine hq_iconst C dX12_readsSign_12 ?_
    refine cb_X12_readsSign_13 0 (by decide) C hw hs (lv_sub hl [0] rfl) 
  · have hw := hw.2 h
    refine hq_iconst C dX12_readsSign_8 ?_
    refine hq_goto (tgt := 13) C dX12_readsSign_9 (by decide) ?_
    refine cb_X12_readsSign_13 1 (by decide) C hw hs (lv_sub hl [0] rfl) 
theorem iX12_readsMost_12 : ∀ w ∈ u_ws RX12 TX12 57, w ∈ wsX12_readsMost := fun w h => List.mem_cons_of_mem _ (List.mem_append_right _ h)
set_option maxRecDepth 20000 in
theorem fX12_readsMost_156 : hq_fl vwCl wsX12_readsMost RX12 156 12 16 false .int := ⟨RX12, TX12, 57, tyX12, rfl, by decide, iX12_readsMost_12, by decide +kernel, rfl, tyX12_ok 16 (by decide), tyX12_ok, nmX12⟩
set_option maxRecDepth 20000 in
theorem kX12_readsMost_163 : Cond.constantLong RX12 163 200 ∈ wsX12_readsMost := by decide +kernel
set_option maxHeartbeats 4000000 in
set_option maxRecDepth 100000 in
theorem cb_X12_readsMost_14 {p : Program} {l : Launch} {e : Env} {s : State} {m : MethodId} {args : Array Value} {below : List Frame} {meth : Method} {c : Code} {D : va_G} {cA : Nat → ClassId} {B : Nat} {Z : State → Prop} (t0 : Int) (rt0 : rb t0)  {k : Int → hq_M → Prop} {M : hq_M} {H : Heap} {locs : List Loc} {ls : Array Slot} (C : hq_C vwCl p m c cX12_readsMost 2 s args wsX12_readsMost RX12 meth (some .boolean) D cA (hq_in B YM.length) Z)
    (hw : b_X12_readsMost_14 t0 k M) (hs : hq_S vwCl SLx D cA YM B s.heap M H locs) (hl : lv_has ls 2 [(0, .ref (B + 0))])
     : W p l e ({ frames := 3, cells := 0, slots := 0, locals := 67 } : Room) s m args below meth c H locs 0 0 (MQ below (hq_Q vwCl SLx D cA YM B (hq_qz k)) args s 0 0 (hq_in B YM.length)) (F0 m 14 ls [.int (w3 t0)]) := by
  have hx := C.1.1
  have hb := C.1.2.1
  unfold b_X12_readsMost_14 at hw
  refine lv_istore_n (lv' := [(1, .int (w3 t0)), (0, .ref (B + 0))]) hx hb dX12_readsMost_14 rfl hl (by decide) rfl (fun ls hl => ?_)
  refine lv_iload_n hx hb dX12_readsMost_15 rfl (lv_at hl 0 rfl) ?_
  refine hq_if_eq (tgt := 44) C (rb_rg rt0) dX12_readsMost_16 (by decide) (fun h => ?_) (fun h => ?_)
  · have hw := hw.1 h
    refine lv_iload_n hx hb dX12_readsMost_44 rfl (lv_at hl 0 rfl) ?_
    exact hq_zret C hs rt0 hw dX12_readsMost_45
  · have hw := hw.2 h
    refine lv_aload_n hx hb dX12_readsMost_19 rfl (lv_at hl 1 rfl) ?_
    refine hq_cV (n := 0) (ci := 12) (o := 0) (qc := (TX12, 57)) C hs (c_X12_take l C.2.2.2.2.1 _ _ hw) gX12_readsMost_X12_take rfl ⟨rfl, rfl⟩ (by decide +kernel) ⟨Nat.le_of_ble_eq_true rfl, Nat.le_of_ble_eq_true rfl⟩ tkM_0 (by decide) rfl rfl hl.1 rfl (Nat.le_of_ble_eq_true rfl) dX12_readsMost_20 (hq_kv (fun M1 H locs hw hs => ?_))
    refine lv_aload_n hx hb dX12_readsMost_23 rfl (lv_at hl 1 rfl) ?_
    refine hq_cV (n := 0) (ci := 12) (o := 0) (qc := (TX12, 57)) C hs (c_X12_told l C.2.2.2.2.1 _ _ hw) gX12_readsMost_X12_told rfl ⟨rfl, rfl⟩ (by decide +kernel) ⟨Nat.le_of_ble_eq_true rfl, Nat.le_of_ble_eq_true rfl⟩ tkM_0 (by decide) rfl rfl hl.1 rfl (Nat.le_of_ble_eq_true rfl) dX12_readsMost_24 (hq_ki (fun x2 M9 H locs rx2 hw hs => ?_))
    obtain ⟨e9, hw⟩ := hw; rw [e9] at hs
    refine hq_i2l (y := 0) C rx2 dX12_readsMost_27 ?_
    refine hq_lconst (z := 0) C dX12_readsMost_28 rfl ?_
    refine hq_ldc2 (z := 200) C kX12_readsMost_163 (by decide) dX12_readsMost_29 ?_
    refine hq_cS (n := 3) C hs (c_X12_in l C.2.2.2.2.1 x2 (rg_rl rx2) 0 (by decide : rl 0) 200 (by decide : rl 200) _ _ hw) gX12_readsMost_X12_in rfl ⟨rfl, rfl⟩ (by decide +kernel) ⟨Nat.le_of_ble_eq_true rfl, Nat.le_of_ble_eq_true rfl⟩ rfl hl.1 rfl (Nat.le_of_ble_eq_true rfl) dX12_readsMost_32 (hq_kz (fun x3 M9 H locs rx3 hw hs => ?_))
    obtain ⟨e9, hw⟩ := hw; rw [e9] at hs
    refine lv_istore_n (lv' := [(1, .int (w3 x3)), (0, .ref (B + 0))]) hx hb dX12_readsMost_35 rfl hl (by decide) rfl (fun ls hl => ?_)
    refine lv_aload_n hx hb dX12_readsMost_36 rfl (lv_at hl 1 rfl) ?_
    refine lv_aload_n hx hb dX12_readsMost_37 rfl (lv_at hl 1 rfl) ?_
    refine hq_cV (n := 0) (ci := 12) (o := 0) (qc := (TX12, 57)) C hs (c_X12_told l C.2.2.2.2.1 _ _ hw) gX12_readsMost_X12_told rfl ⟨rfl, rfl⟩ (by decide +kernel) ⟨Nat.le_of_ble_eq_true rfl, Nat.le_of_ble_eq_true rfl⟩ tkM_0 (by decide) rfl rfl hl.1 rfl (Nat.le_of_ble_eq_true rfl) dX12_readsMost_38 (hq_ki (fun x4 M9 H locs rx4 hw hs => ?_))
    obtain ⟨e9, hw⟩ := hw; rw [e9] at hs
    refine hq_putI (o := 0) C hs fX12_readsMost_156 tkM_0 (by decide) rfl rx4 dX12_readsMost_41 (fun M5 eM5 H locs hs => ?_)
    have hw := hw M5 eM5
    refine lv_iload_n hx hb dX12_readsMost_44 rfl (lv_at hl 0 rfl) ?_
    exact hq_zret C hs rx3 hw dX12_readsMost_45
set_option maxHeartbeats 4000000 in
set_option maxRecDepth 100000 in
theorem c_X12_readsMost (l : Launch) {D : va_G} {cA : Nat → ClassId} {B : Nat} {Z : State → Prop} (hZ : hq_Zo Z (hq_in B YM.length))  (M : hq_M) (k : Int → hq_M → Prop) (hw : w_X12_readsMost  M k) : hq_T vwCl SLx l yX12_readsMost wsX12_readsMost ({ frames := 3, cells := 0, slots := 0, locals := 67 } : Room) D cA YM B Z [.ref (B + 0)] M (hq_qz k) := by
  refine hq_meth (cc := cX12_readsMost) (maxL := 2) (ret := (some .boolean)) (own := RX12) hZ rfl (by decide +kernel) rfl (Nat.le_of_ble_eq_true rfl) ?_
  intro p e s m below meth c ls C hs hl
  have hx := C.1.1
  have hb := C.1.2.1
  unfold w_X12_readsMost at hw
  have hl : lv_has ls 2 [(0, .ref (B + 0))] := hl
  refine lv_aload_n hx hb dX12_readsMost_0 rfl (lv_at hl 0 rfl) ?_
  refine hq_getI (o := 0) C hs fX12_readsMost_156 tkM_0 (by decide) rfl dX12_readsMost_1 (fun g1 => ?_)
  refine hq_bipush C dX12_readsMost_4 (by decide) ?_
  refine hq_icmp_ne (tgt := 13) C g1 (by decide : rg (-9)) dX12_readsMost_6 (by decide) (fun h => ?_) (fun h => ?_)
  · have hw := hw.1 h
    refine hq_iconst C dX12_readsMost_13 ?_
    refine cb_X12_readsMost_14 0 (by decide) C hw hs (lv_sub hl [0] rfl) 
  · have hw := hw.2 h
    refine hq_iconst C dX12_readsMost_9 ?_
    refine hq_goto (tgt := 14) C dX12_readsMost_10 (by decide) ?_
    refine cb_X12_readsMost_14 1 (by decide) C hw hs (lv_sub hl [0] rfl) 
theorem iX12_readsBound_12 : ∀ w ∈ u_ws RX12 TX12 57, w ∈ wsX12_readsBound := fun w h => List.mem_cons_of_mem _ (List.mem_append_right _ h)
set_option maxRecDepth 20000 in
theorem fX12_readsBound_165 : hq_fl vwCl wsX12_readsBound RX12 165 12 17 false .int := ⟨RX12, TX12, 57, tyX12, rfl, by decide, iX12_readsBound_12, by decide +kernel, rfl, tyX12_ok 17 (by decide), tyX12_ok, nmX12⟩
set_option maxRecDepth 20000 in
theorem kX12_readsBound_168 : Cond.constantLong RX12 168 9 ∈ wsX12_readsBound := by decide +kernel
set_option maxHeartbeats 4000000 in
set_option maxRecDepth 100000 in
theorem cb_X12_readsBound_14 {p : Program} {l : Launch} {e : Env} {s : State} {m : MethodId} {args : Array Value} {below : List Frame} {meth : Method} {c : Code} {D : va_G} {cA : Nat → ClassId} {B : Nat} {Z : State → Prop} (t0 : Int) (rt0 : rb t0)  {k : Int → hq_M → Prop} {M : hq_M} {H : Heap} {locs : List Loc} {ls : Array Slot} (C : hq_C vwCl p m c cX12_readsBound 2 s args wsX12_readsBound RX12 meth (some .boolean) D cA (hq_in B YM.length) Z)
    (hw : b_X12_readsBound_14 t0 k M) (hs : hq_S vwCl SLx D cA YM B s.heap M H locs) (hl : lv_has ls 2 [(0, .ref (B + 0))])
     : W p l e ({ frames := 3, cells := 0, slots := 0, locals := 67 } : Room) s m args below meth c H locs 0 0 (MQ below (hq_Q vwCl SLx D cA YM B (hq_qz k)) args s 0 0 (hq_in B YM.length)) (F0 m 14 ls [.int (w3 t0)]) := by
  have hx := C.1.1
  have hb := C.1.2.1
  unfold b_X12_readsBound_14 at hw
  refine lv_istore_n (lv' := [(1, .int (w3 t0)), (0, .ref (B + 0))]) hx hb dX12_readsBound_14 rfl hl (by decide) rfl (fun ls hl => ?_)
  refine lv_iload_n hx hb dX12_readsBound_15 rfl (lv_at hl 0 rfl) ?_
  refine hq_if_eq (tgt := 44) C (rb_rg rt0) dX12_readsBound_16 (by decide) (fun h => ?_) (fun h => ?_)
  · have hw := hw.1 h
    refine lv_iload_n hx hb dX12_readsBound_44 rfl (lv_at hl 0 rfl) ?_
    exact hq_zret C hs rt0 hw dX12_readsBound_45
  · have hw := hw.2 h
    refine lv_aload_n hx hb dX12_readsBound_19 rfl (lv_at hl 1 rfl) ?_
    refine hq_cV (n := 0) (ci := 12) (o := 0) (qc := (TX12, 57)) C hs (c_X12_take l C.2.2.2.2.1 _ _ hw) gX12_readsBound_X12_take rfl ⟨rfl, rfl⟩ (by decide +kernel) ⟨Nat.le_of_ble_eq_true rfl, Nat.le_of_ble_eq_true rfl⟩ tkM_0 (by decide) rfl rfl hl.1 rfl (Nat.le_of_ble_eq_true rfl) dX12_readsBound_20 (hq_kv (fun M1 H locs hw hs => ?_))
    refine lv_aload_n hx hb dX12_readsBound_23 rfl (lv_at hl 1 rfl) ?_
    refine hq_cV (n := 0) (ci := 12) (o := 0) (qc := (TX12, 57)) C hs (c_X12_told l C.2.2.2.2.1 _ _ hw) gX12_readsBound_X12_told rfl ⟨rfl, rfl⟩ (by decide +kernel) ⟨Nat.le_of_ble_eq_true rfl, Nat.le_of_ble_eq_true rfl⟩ tkM_0 (by decide) rfl rfl hl.1 rfl (Nat.le_of_ble_eq_true rfl) dX12_readsBound_24 (hq_ki (fun x2 M9 H locs rx2 hw hs => ?_))
    obtain ⟨e9, hw⟩ := hw; rw [e9] at hs
    refine hq_i2l (y := 0) C rx2 dX12_readsBound_27 ?_
    refine hq_lconst (z := 0) C dX12_readsBound_28 rfl ?_
    refine hq_ldc2 (z := 9) C kX12_readsBound_168 (by decide) dX12_readsBound_29 ?_
    refine hq_cS (n := 3) C hs (c_X12_in l C.2.2.2.2.1 x2 (rg_rl rx2) 0 (by decide : rl 0) 9 (by decide : rl 9) _ _ hw) gX12_readsBound_X12_in rfl ⟨rfl, rfl⟩ (by decide +kernel) ⟨Nat.le_of_ble_eq_true rfl, Nat.le_of_ble_eq_true rfl⟩ rfl hl.1 rfl (Nat.le_of_ble_eq_true rfl) dX12_readsBound_32 (hq_kz (fun x3 M9 H locs rx3 hw hs => ?_))
    obtain ⟨e9, hw⟩ := hw; rw [e9] at hs
    refine lv_istore_n (lv' := [(1, .int (w3 x3)), (0, .ref (B + 0))]) hx hb dX12_readsBound_35 rfl hl (by decide) rfl (fun ls hl => ?_)
    refine lv_aload_n hx hb dX12_readsBound_36 rfl (lv_at hl 1 rfl) ?_
    refine lv_aload_n hx hb dX12_readsBound_37 rfl (lv_at hl 1 rfl) ?_
    refine hq_cV (n := 0) (ci := 12) (o := 0) (qc := (TX12, 57)) C hs (c_X12_told l C.2.2.2.2.1 _ _ hw) gX12_readsBound_X12_told rfl ⟨rfl, rfl⟩ (by decide +kernel) ⟨Nat.le_of_ble_eq_true rfl, Nat.le_of_ble_eq_true rfl⟩ tkM_0 (by decide) rfl rfl hl.1 rfl (Nat.le_of_ble_eq_true rfl) dX12_readsBound_38 (hq_ki (fun x4 M9 H locs rx4 hw hs => ?_))
    obtain ⟨e9, hw⟩ := hw; rw [e9] at hs
    refine hq_putI (o := 0) C hs fX12_readsBound_165 tkM_0 (by decide) rfl rx4 dX12_readsBound_41 (fun M5 eM5 H locs hs => ?_)
    have hw := hw M5 eM5
    refine lv_iload_n hx hb dX12_readsBound_44 rfl (lv_at hl 0 rfl) ?_
    exact hq_zret C hs rx3 hw dX12_readsBound_45
set_option maxHeartbeats 4000000 in
set_option maxRecDepth 100000 in
theorem c_X12_readsBound (l : Launch) {D : va_G} {cA : Nat → ClassId} {B : Nat} {Z : State → Prop} (hZ : hq_Zo Z (hq_in B YM.length))  (M : hq_M) (k : Int → hq_M → Prop) (hw : w_X12_readsBound  M k) : hq_T vwCl SLx l yX12_readsBound wsX12_readsBound ({ frames := 3, cells := 0, slots := 0, locals := 67 } : Room) D cA YM B Z [.ref (B + 0)] M (hq_qz k) := by
  refine hq_meth (cc := cX12_readsBound) (maxL := 2) (ret := (some .boolean)) (own := RX12) hZ rfl (by decide +kernel) rfl (Nat.le_of_ble_eq_true rfl) ?_
  intro p e s m below meth c ls C hs hl
  have hx := C.1.1
  have hb := C.1.2.1
  unfold w_X12_readsBound at hw
  have hl : lv_has ls 2 [(0, .ref (B + 0))] := hl
  refine lv_aload_n hx hb dX12_readsBound_0 rfl (lv_at hl 0 rfl) ?_
  refine hq_getI (o := 0) C hs fX12_readsBound_165 tkM_0 (by decide) rfl dX12_readsBound_1 (fun g1 => ?_)
  refine hq_bipush C dX12_readsBound_4 (by decide) ?_
  refine hq_icmp_ne (tgt := 13) C g1 (by decide : rg (-9)) dX12_readsBound_6 (by decide) (fun h => ?_) (fun h => ?_)
  · have hw := hw.1 h
    refine hq_iconst C dX12_readsBound_13 ?_
    refine cb_X12_readsBound_14 0 (by decide) C hw hs (lv_sub hl [0] rfl) 
  · have hw := hw.2 h
    refine hq_iconst C dX12_readsBound_9 ?_
    refine hq_goto (tgt := 14) C dX12_readsBound_10 (by decide) ?_
    refine cb_X12_readsBound_14 1 (by decide) C hw hs (lv_sub hl [0] rfl) 
theorem iX12_isName_12 : ∀ w ∈ u_ws RX12 TX12 57, w ∈ wsX12_isName := fun w h => List.mem_cons_of_mem _ (List.mem_append_right _ h)
set_option maxRecDepth 20000 in
theorem fX12_isName_29 : hq_fl vwCl wsX12_isName RX12 29 12 8 true (.array .int) := ⟨RX12, TX12, 57, tyX12, rfl, by decide, iX12_isName_12, by decide +kernel, rfl, tyX12_ok 8 (by decide), tyX12_ok, nmX12⟩
set_option maxRecDepth 20000 in
theorem fX12_isName_132 : hq_fl vwCl wsX12_isName RX12 132 12 10 false .int := ⟨RX12, TX12, 57, tyX12, rfl, by decide, iX12_isName_12, by decide +kernel, rfl, tyX12_ok 10 (by decide), tyX12_ok, nmX12⟩
set_option maxRecDepth 20000 in
theorem fX12_isName_138 : hq_fl vwCl wsX12_isName RX12 138 12 11 false .int := ⟨RX12, TX12, 57, tyX12, rfl, by decide, iX12_isName_12, by decide +kernel, rfl, tyX12_ok 11 (by decide), tyX12_ok, nmX12⟩
set_option maxRecDepth 20000 in
theorem fX12_isName_141 : hq_fl vwCl wsX12_isName RX12 141 12 12 false .int := ⟨RX12, TX12, 57, tyX12, rfl, by decide, iX12_isName_12, by decide +kernel, rfl, tyX12_ok 12 (by decide), tyX12_ok, nmX12⟩
set_option maxHeartbeats 4000000 in
set_option maxRecDepth 100000 in
theorem cl_X12_isName_34 {p : Program} {l : Launch} {e : Env} {s : State} {m : MethodId} {args : Array Value} {below : List Frame} {meth : Method} {c : Code} {D : va_G} {cA : Nat → ClassId} {B : Nat} {Z : State → Prop}   {k : Int → Prop} {M : hq_M} (C : hq_C vwCl p m c cX12_isName 3 s args wsX12_isName RX12 meth (some .boolean) D cA (hq_in B YM.length) Z)
     : ∀ (n : Nat) (v1 : Int) (rv1 : rb v1) (v2 : Int) (rv2 : rg v2) (H : Heap) (locs : List Loc) (ls : Array Slot), l_X12_isName_34 k M n v1 v2 → hq_S vwCl SLx D cA YM B s.heap M H locs → lv_has ls 3 [(0, .ref (B + 0)), (1, .int (w3 v1)), (2, .int (w3 v2))] → W p l e ({ frames := 2, cells := 0, slots := 0, locals := 45 } : Room) s m args below meth c H locs 0 0 (MQ below (hq_Q vwCl SLx D cA YM B (hq_qz (fun z M' => M' = M ∧ k z))) args s 0 0 (hq_in B YM.length)) (F0 m 34 ls []) := by
  have hx := C.1.1
  have hb := C.1.2.1
  intro n
  induction n with
  | zero => intro v1 rv1 v2 rv2 H locs ls hw hs hl; exact hw.elim
  | succ n ih =>
    intro v1 rv1 v2 rv2 H locs ls hw hs hl
    unfold l_X12_isName_34 at hw
    refine lv_iload_n hx hb dX12_isName_34 rfl (lv_at hl 2 rfl) ?_
    refine lv_aload_n hx hb dX12_isName_35 rfl (lv_at hl 0 rfl) ?_
    refine hq_getI (o := 0) C hs fX12_isName_132 tkM_0 (by decide) rfl dX12_isName_36 (fun g1 => ?_)
    refine hq_icmp_ge (tgt := 62) C rv2 g1 dX12_isName_39 (by decide) (fun h => ?_) (fun h => ?_)
    · have hw := hw.1 h
      refine lv_iload_n hx hb dX12_isName_62 rfl (lv_at hl 1 rfl) ?_
      exact hq_zret C hs rv1 ⟨rfl, hw⟩ dX12_isName_63
    · have hw := hw.2 h
      refine lv_iload_n hx hb dX12_isName_42 rfl (lv_at hl 1 rfl) ?_
      refine hq_if_eq (tgt := 62) C (rb_rg rv1) dX12_isName_43 (by decide) (fun h => ?_) (fun h => ?_)
      · have hw := hw.1 h
        refine lv_iload_n hx hb dX12_isName_62 rfl (lv_at hl 1 rfl) ?_
        exact hq_zret C hs rv1 ⟨rfl, hw⟩ dX12_isName_63
      · have hw := hw.2 h
        refine lv_aload_n hx hb dX12_isName_46 rfl (lv_at hl 0 rfl) ?_
        refine hq_getA (o := 0) C hs fX12_isName_29 tkM_0 (by decide) rfl dX12_isName_47 ?_
        refine lv_iload_n hx hb dX12_isName_50 rfl (lv_at hl 2 rfl) ?_
        obtain ⟨g2, hw⟩ := hw
        refine hq_iald (o := 5) C hs tkM_5 rv2 g2 dX12_isName_51 (fun g3 => ?_)
        refine hq_cS (n := 1) C hs (c_X12_isSmall l C.2.2.2.2.1 (M 5 v2.toNat) g3 _ _ hw) gX12_isName_X12_isSmall rfl ⟨rfl, rfl⟩ (by decide +kernel) ⟨Nat.le_of_ble_eq_true rfl, Nat.le_of_ble_eq_true rfl⟩ rfl hl.1 rfl (Nat.le_of_ble_eq_true rfl) dX12_isName_52 (hq_kz (fun x4 M9 H locs rx4 hw hs => ?_))
        obtain ⟨e9, hw⟩ := hw; rw [e9] at hs
        refine lv_istore_n (lv' := [(1, .int (w3 x4)), (0, .ref (B + 0)), (2, .int (w3 v2))]) hx hb dX12_isName_55 rfl hl (by decide) rfl (fun ls hl => ?_)
        obtain ⟨g6, hw⟩ := hw
        refine hq_iinc (k := 2) C dX12_isName_56 hl rfl (by decide) (fun x5 ex5 ls hl => ?_)
        have hw := hw x5 ex5
        have rx5 : rg x5 := by rw [ex5]; exact g6
        have hl : lv_has ls 3 [(2, .int (w3 x5)), (1, .int (w3 x4)), (0, .ref (B + 0))] := hl
        refine hq_goto (tgt := 34) C dX12_isName_59 (by decide) ?_
        exact ih x4 rx4 x5 rx5 _ _ _ hw hs (lv_sub hl [2, 1, 0] rfl)
set_option maxHeartbeats 4000000 in
set_option maxRecDepth 100000 in
theorem cb_X12_isName_28 {p : Program} {l : Launch} {e : Env} {s : State} {m : MethodId} {args : Array Value} {below : List Frame} {meth : Method} {c : Code} {D : va_G} {cA : Nat → ClassId} {B : Nat} {Z : State → Prop} (t0 : Int) (rt0 : rb t0)  {k : Int → Prop} {M : hq_M} {H : Heap} {locs : List Loc} {ls : Array Slot} (C : hq_C vwCl p m c cX12_isName 3 s args wsX12_isName RX12 meth (some .boolean) D cA (hq_in B YM.length) Z)
    (hw : b_X12_isName_28 t0 k M) (hs : hq_S vwCl SLx D cA YM B s.heap M H locs) (hl : lv_has ls 3 [(0, .ref (B + 0))])
     : W p l e ({ frames := 2, cells := 0, slots := 0, locals := 45 } : Room) s m args below meth c H locs 0 0 (MQ below (hq_Q vwCl SLx D cA YM B (hq_qz (fun z M' => M' = M ∧ k z))) args s 0 0 (hq_in B YM.length)) (F0 m 28 ls [.int (w3 t0)]) := by
  have hx := C.1.1
  have hb := C.1.2.1
  unfold b_X12_isName_28 at hw
  refine lv_istore_n (lv' := [(1, .int (w3 t0)), (0, .ref (B + 0))]) hx hb dX12_isName_28 rfl hl (by decide) rfl (fun ls hl => ?_)
  refine lv_aload_n hx hb dX12_isName_29 rfl (lv_at hl 1 rfl) ?_
  refine hq_getI (o := 0) C hs fX12_isName_138 tkM_0 (by decide) rfl dX12_isName_30 (fun g1 => ?_)
  refine hq_nm (fun x2 ex2 => ?_)
  have hw := hw x2 ex2
  have rx2 : rg x2 := by rw [ex2]; exact g1
  refine lv_istore_n (lv' := [(2, .int (w3 x2)), (1, .int (w3 t0)), (0, .ref (B + 0))]) hx hb dX12_isName_33 rfl hl (by decide) rfl (fun ls hl => ?_)
  obtain ⟨n9, hw⟩ := hw
  refine cl_X12_isName_34  C  n9 t0 rt0 x2 rx2 _ _ _ hw hs (lv_sub hl [2, 1, 0] rfl)
set_option maxHeartbeats 4000000 in
set_option maxRecDepth 100000 in
theorem cb_X12_isName_27 {p : Program} {l : Launch} {e : Env} {s : State} {m : MethodId} {args : Array Value} {below : List Frame} {meth : Method} {c : Code} {D : va_G} {cA : Nat → ClassId} {B : Nat} {Z : State → Prop}   {k : Int → Prop} {M : hq_M} {H : Heap} {locs : List Loc} {ls : Array Slot} (C : hq_C vwCl p m c cX12_isName 3 s args wsX12_isName RX12 meth (some .boolean) D cA (hq_in B YM.length) Z)
    (hw : b_X12_isName_27 k M) (hs : hq_S vwCl SLx D cA YM B s.heap M H locs) (hl : lv_has ls 3 [(0, .ref (B + 0))])
     : W p l e ({ frames := 2, cells := 0, slots := 0, locals := 45 } : Room) s m args below meth c H locs 0 0 (MQ below (hq_Q vwCl SLx D cA YM B (hq_qz (fun z M' => M' = M ∧ k z))) args s 0 0 (hq_in B YM.length)) (F0 m 27 ls []) := by
  have hx := C.1.1
  have hb := C.1.2.1
  unfold b_X12_isName_27 at hw
  refine hq_iconst C dX12_isName_27 ?_
  refine cb_X12_isName_28 0 (by decide) C hw hs (lv_sub hl [0] rfl) 
set_option maxHeartbeats 4000000 in
set_option maxRecDepth 100000 in
theorem c_X12_isName (l : Launch) {D : va_G} {cA : Nat → ClassId} {B : Nat} {Z : State → Prop} (hZ : hq_Zo Z (hq_in B YM.length))  (M : hq_M) (k : Int → Prop) (hw : w_X12_isName  M k) : hq_T vwCl SLx l yX12_isName wsX12_isName ({ frames := 2, cells := 0, slots := 0, locals := 45 } : Room) D cA YM B Z [.ref (B + 0)] M (hq_qz (fun z M' => M' = M ∧ k z)) := by
  refine hq_meth (cc := cX12_isName) (maxL := 3) (ret := (some .boolean)) (own := RX12) hZ rfl (by decide +kernel) rfl (Nat.le_of_ble_eq_true rfl) ?_
  intro p e s m below meth c ls C hs hl
  have hx := C.1.1
  have hb := C.1.2.1
  unfold w_X12_isName at hw
  have hl : lv_has ls 3 [(0, .ref (B + 0))] := hl
  refine lv_aload_n hx hb dX12_isName_0 rfl (lv_at hl 0 rfl) ?_
  refine hq_getI (o := 0) C hs fX12_isName_141 tkM_0 (by decide) rfl dX12_isName_1 (fun g1 => ?_)
  refine hq_bipush C dX12_isName_4 (by decide) ?_
  refine hq_icmp_ne (tgt := 27) C g1 (by decide : rg (-2)) dX12_isName_6 (by decide) (fun h => ?_) (fun h => ?_)
  · have hw := hw.1 h
    refine cb_X12_isName_27  C hw hs (lv_sub hl [0] rfl) 
  · have hw := hw.2 h
    refine lv_aload_n hx hb dX12_isName_9 rfl (lv_at hl 0 rfl) ?_
    refine hq_getI (o := 0) C hs fX12_isName_132 tkM_0 (by decide) rfl dX12_isName_10 (fun g2 => ?_)
    refine lv_aload_n hx hb dX12_isName_13 rfl (lv_at hl 0 rfl) ?_
    refine hq_getI (o := 0) C hs fX12_isName_138 tkM_0 (by decide) rfl dX12_isName_14 (fun g3 => ?_)
    obtain ⟨g4, hw⟩ := hw
    refine hq_isub C dX12_isName_17 ?_
    refine hq_bipush C dX12_isName_18 (by decide) ?_
    refine hq_icmp_gt (tgt := 27) C g4 (by decide : rg 6) dX12_isName_20 (by decide) (fun h => ?_) (fun h => ?_)
    · have hw := hw.1 h
      refine cb_X12_isName_27  C hw hs (lv_sub hl [0] rfl) 
    · have hw := hw.2 h
      refine hq_iconst C dX12_isName_23 ?_
      refine hq_goto (tgt := 28) C dX12_isName_24 (by decide) ?_
      refine cb_X12_isName_28 1 (by decide) C hw hs (lv_sub hl [0] rfl) 
theorem iX12_readsPair_12 : ∀ w ∈ u_ws RX12 TX12 57, w ∈ wsX12_readsPair := fun w h => List.mem_cons_of_mem _ (List.mem_append_right _ h)
set_option maxRecDepth 20000 in
theorem fX12_readsPair_16 : hq_fl vwCl wsX12_readsPair RX12 16 12 4 true (.array .int) := ⟨RX12, TX12, 57, tyX12, rfl, by decide, iX12_readsPair_12, by decide +kernel, rfl, tyX12_ok 4 (by decide), tyX12_ok, nmX12⟩
set_option maxRecDepth 20000 in
theorem fX12_readsPair_20 : hq_fl vwCl wsX12_readsPair RX12 20 12 5 true (.array .int) := ⟨RX12, TX12, 57, tyX12, rfl, by decide, iX12_readsPair_12, by decide +kernel, rfl, tyX12_ok 5 (by decide), tyX12_ok, nmX12⟩
set_option maxRecDepth 20000 in
theorem fX12_readsPair_23 : hq_fl vwCl wsX12_readsPair RX12 23 12 6 true (.array .int) := ⟨RX12, TX12, 57, tyX12, rfl, by decide, iX12_readsPair_12, by decide +kernel, rfl, tyX12_ok 6 (by decide), tyX12_ok, nmX12⟩
set_option maxRecDepth 20000 in
theorem fX12_readsPair_26 : hq_fl vwCl wsX12_readsPair RX12 26 12 7 true (.array .int) := ⟨RX12, TX12, 57, tyX12, rfl, by decide, iX12_readsPair_12, by decide +kernel, rfl, tyX12_ok 7 (by decide), tyX12_ok, nmX12⟩
set_option maxRecDepth 20000 in
theorem fX12_readsPair_29 : hq_fl vwCl wsX12_readsPair RX12 29 12 8 true (.array .int) := ⟨RX12, TX12, 57, tyX12, rfl, by decide, iX12_readsPair_12, by decide +kernel, rfl, tyX12_ok 8 (by decide), tyX12_ok, nmX12⟩
set_option maxRecDepth 20000 in
theorem fX12_readsPair_132 : hq_fl vwCl wsX12_readsPair RX12 132 12 10 false .int := ⟨RX12, TX12, 57, tyX12, rfl, by decide, iX12_readsPair_12, by decide +kernel, rfl, tyX12_ok 10 (by decide), tyX12_ok, nmX12⟩
set_option maxRecDepth 20000 in
theorem fX12_readsPair_138 : hq_fl vwCl wsX12_readsPair RX12 138 12 11 false .int := ⟨RX12, TX12, 57, tyX12, rfl, by decide, iX12_readsPair_12, by decide +kernel, rfl, tyX12_ok 11 (by decide), tyX12_ok, nmX12⟩
set_option maxRecDepth 20000 in
theorem fX12_readsPair_141 : hq_fl vwCl wsX12_readsPair RX12 141 12 12 false .int := ⟨RX12, TX12, 57, tyX12, rfl, by decide, iX12_readsPair_12, by decide +kernel, rfl, tyX12_ok 12 (by decide), tyX12_ok, nmX12⟩
set_option maxHeartbeats 4000000 in
set_option maxRecDepth 100000 in
theorem cl_X12_readsPair_30 {p : Program} {l : Launch} {e : Env} {s : State} {m : MethodId} {args : Array Value} {below : List Frame} {meth : Method} {c : Code} {D : va_G} {cA : Nat → ClassId} {B : Nat} {Z : State → Prop} (v1 : Int) (rv1 : rg v1) {k_68 : hq_M → Prop} {k : Int → hq_M → Prop} (C : hq_C vwCl p m c cX12_readsPair 3 s args wsX12_readsPair RX12 meth (some .boolean) D cA (hq_in B YM.length) Z)
    (hk_68 : ∀ (M1 : hq_M) (H : Heap) (locs : List Loc) (ls : Array Slot), k_68 M1 → hq_S vwCl SLx D cA YM B s.heap M1 H locs → lv_has ls 3 [(0, .ref (B + 0)), (1, .int (w3 v1))] → W p l e ({ frames := 4, cells := 0, slots := 0, locals := 88 } : Room) s m args below meth c H locs 0 0 (MQ below (hq_Q vwCl SLx D cA YM B (hq_qz k)) args s 0 0 (hq_in B YM.length)) (F0 m 68 ls [])) : ∀ (n : Nat) (v2 : Int) (rv2 : rg v2) (M : hq_M) (H : Heap) (locs : List Loc) (ls : Array Slot), l_X12_readsPair_30 v1 k_68 k n v2 M → hq_S vwCl SLx D cA YM B s.heap M H locs → lv_has ls 3 [(0, .ref (B + 0)), (1, .int (w3 v1)), (2, .int (w3 v2))] → W p l e ({ frames := 4, cells := 0, slots := 0, locals := 88 } : Room) s m args below meth c H locs 0 0 (MQ below (hq_Q vwCl SLx D cA YM B (hq_qz k)) args s 0 0 (hq_in B YM.length)) (F0 m 30 ls []) := by
  have hx := C.1.1
  have hb := C.1.2.1
  intro n
  induction n with
  | zero => intro v2 rv2 M H locs ls hw hs hl; exact hw.elim
  | succ n ih =>
    intro v2 rv2 M H locs ls hw hs hl
    unfold l_X12_readsPair_30 at hw
    refine lv_iload_n hx hb dX12_readsPair_30 rfl (lv_at hl 2 rfl) ?_
    refine lv_aload_n hx hb dX12_readsPair_31 rfl (lv_at hl 0 rfl) ?_
    refine hq_getA (o := 0) C hs fX12_readsPair_16 tkM_0 (by decide) rfl dX12_readsPair_32 ?_
    refine lv_iload_n hx hb dX12_readsPair_35 rfl (lv_at hl 1 rfl) ?_
    obtain ⟨g1, hw⟩ := hw
    refine hq_iald (o := 1) C hs tkM_1 rv1 g1 dX12_readsPair_36 (fun g2 => ?_)
    refine hq_icmp_ge (tgt := 68) C rv2 g2 dX12_readsPair_37 (by decide) (fun h => ?_) (fun h => ?_)
    · have hw := hw.1 h
      exact hk_68 _ _ _ _ hw hs (lv_sub hl [0, 1] rfl)
    · have hw := hw.2 h
      refine lv_aload_n hx hb dX12_readsPair_40 rfl (lv_at hl 0 rfl) ?_
      refine hq_getA (o := 0) C hs fX12_readsPair_23 tkM_0 (by decide) rfl dX12_readsPair_41 ?_
      refine hq_bipush C dX12_readsPair_44 (by decide) ?_
      refine lv_iload_n hx hb dX12_readsPair_46 rfl (lv_at hl 1 rfl) ?_
      obtain ⟨g3, hw⟩ := hw
      refine hq_imul C dX12_readsPair_47 ?_
      refine lv_iload_n hx hb dX12_readsPair_48 rfl (lv_at hl 2 rfl) ?_
      obtain ⟨g4, hw⟩ := hw
      refine hq_iadd C dX12_readsPair_49 ?_
      refine lv_aload_n hx hb dX12_readsPair_50 rfl (lv_at hl 0 rfl) ?_
      refine hq_getA (o := 0) C hs fX12_readsPair_29 tkM_0 (by decide) rfl dX12_readsPair_51 ?_
      refine lv_aload_n hx hb dX12_readsPair_54 rfl (lv_at hl 0 rfl) ?_
      refine hq_getI (o := 0) C hs fX12_readsPair_138 tkM_0 (by decide) rfl dX12_readsPair_55 (fun g5 => ?_)
      refine lv_iload_n hx hb dX12_readsPair_58 rfl (lv_at hl 2 rfl) ?_
      obtain ⟨g6, hw⟩ := hw
      refine hq_iadd C dX12_readsPair_59 ?_
      obtain ⟨g7, hw⟩ := hw
      refine hq_iald (o := 5) C hs tkM_5 g6 g7 dX12_readsPair_60 (fun g8 => ?_)
      obtain ⟨g9, hw⟩ := hw
      refine hq_iast (o := 3) C hs tkM_3 g4 g9 g8 dX12_readsPair_61 (fun M10 eM10 H locs hs => ?_)
      have hw := hw M10 eM10
      obtain ⟨g12, hw⟩ := hw
      refine hq_iinc (k := 2) C dX12_readsPair_62 hl rfl (by decide) (fun x11 ex11 ls hl => ?_)
      have hw := hw x11 ex11
      have rx11 : rg x11 := by rw [ex11]; exact g12
      have hl : lv_has ls 3 [(2, .int (w3 x11)), (0, .ref (B + 0)), (1, .int (w3 v1))] := hl
      refine hq_goto (tgt := 30) C dX12_readsPair_65 (by decide) ?_
      exact ih x11 rx11 _ _ _ _ hw hs (lv_sub hl [1, 2, 0] rfl)
set_option maxHeartbeats 4000000 in
set_option maxRecDepth 100000 in
theorem cl_X12_readsPair_132 {p : Program} {l : Launch} {e : Env} {s : State} {m : MethodId} {args : Array Value} {below : List Frame} {meth : Method} {c : Code} {D : va_G} {cA : Nat → ClassId} {B : Nat} {Z : State → Prop} (v1 : Int) (rv1 : rg v1) {k_170 : hq_M → Prop} {k : Int → hq_M → Prop} (C : hq_C vwCl p m c cX12_readsPair 3 s args wsX12_readsPair RX12 meth (some .boolean) D cA (hq_in B YM.length) Z)
    (hk_170 : ∀ (M1 : hq_M) (H : Heap) (locs : List Loc) (ls : Array Slot), k_170 M1 → hq_S vwCl SLx D cA YM B s.heap M1 H locs → lv_has ls 3 [(0, .ref (B + 0))] → W p l e ({ frames := 4, cells := 0, slots := 0, locals := 88 } : Room) s m args below meth c H locs 0 0 (MQ below (hq_Q vwCl SLx D cA YM B (hq_qz k)) args s 0 0 (hq_in B YM.length)) (F0 m 170 ls [])) : ∀ (n : Nat) (v2 : Int) (rv2 : rg v2) (M : hq_M) (H : Heap) (locs : List Loc) (ls : Array Slot), l_X12_readsPair_132 v1 k_170 k n v2 M → hq_S vwCl SLx D cA YM B s.heap M H locs → lv_has ls 3 [(0, .ref (B + 0)), (1, .int (w3 v1)), (2, .int (w3 v2))] → W p l e ({ frames := 4, cells := 0, slots := 0, locals := 88 } : Room) s m args below meth c H locs 0 0 (MQ below (hq_Q vwCl SLx D cA YM B (hq_qz k)) args s 0 0 (hq_in B YM.length)) (F0 m 132 ls []) := by
  have hx := C.1.1
  have hb := C.1.2.1
  intro n
  induction n with
  | zero => intro v2 rv2 M H locs ls hw hs hl; exact hw.elim
  | succ n ih =>
    intro v2 rv2 M H locs ls hw hs hl
    unfold l_X12_readsPair_132 at hw
    refine lv_iload_n hx hb dX12_readsPair_132 rfl (lv_at hl 2 rfl) ?_
    refine lv_aload_n hx hb dX12_readsPair_133 rfl (lv_at hl 0 rfl) ?_
    refine hq_getA (o := 0) C hs fX12_readsPair_20 tkM_0 (by decide) rfl dX12_readsPair_134 ?_
    refine lv_iload_n hx hb dX12_readsPair_137 rfl (lv_at hl 1 rfl) ?_
    obtain ⟨g1, hw⟩ := hw
    refine hq_iald (o := 2) C hs tkM_2 rv1 g1 dX12_readsPair_138 (fun g2 => ?_)
    refine hq_icmp_ge (tgt := 170) C rv2 g2 dX12_readsPair_139 (by decide) (fun h => ?_) (fun h => ?_)
    · have hw := hw.1 h
      exact hk_170 _ _ _ _ hw hs (lv_sub hl [0] rfl)
    · have hw := hw.2 h
      refine lv_aload_n hx hb dX12_readsPair_142 rfl (lv_at hl 0 rfl) ?_
      refine hq_getA (o := 0) C hs fX12_readsPair_26 tkM_0 (by decide) rfl dX12_readsPair_143 ?_
      refine hq_bipush C dX12_readsPair_146 (by decide) ?_
      refine lv_iload_n hx hb dX12_readsPair_148 rfl (lv_at hl 1 rfl) ?_
      obtain ⟨g3, hw⟩ := hw
      refine hq_imul C dX12_readsPair_149 ?_
      refine lv_iload_n hx hb dX12_readsPair_150 rfl (lv_at hl 2 rfl) ?_
      obtain ⟨g4, hw⟩ := hw
      refine hq_iadd C dX12_readsPair_151 ?_
      refine lv_aload_n hx hb dX12_readsPair_152 rfl (lv_at hl 0 rfl) ?_
      refine hq_getA (o := 0) C hs fX12_readsPair_29 tkM_0 (by decide) rfl dX12_readsPair_153 ?_
      refine lv_aload_n hx hb dX12_readsPair_156 rfl (lv_at hl 0 rfl) ?_
      refine hq_getI (o := 0) C hs fX12_readsPair_138 tkM_0 (by decide) rfl dX12_readsPair_157 (fun g5 => ?_)
      refine lv_iload_n hx hb dX12_readsPair_160 rfl (lv_at hl 2 rfl) ?_
      obtain ⟨g6, hw⟩ := hw
      refine hq_iadd C dX12_readsPair_161 ?_
      obtain ⟨g7, hw⟩ := hw
      refine hq_iald (o := 5) C hs tkM_5 g6 g7 dX12_readsPair_162 (fun g8 => ?_)
      obtain ⟨g9, hw⟩ := hw
      refine hq_iast (o := 4) C hs tkM_4 g4 g9 g8 dX12_readsPair_163 (fun M10 eM10 H locs hs => ?_)
      have hw := hw M10 eM10
      obtain ⟨g12, hw⟩ := hw
      refine hq_iinc (k := 2) C dX12_readsPair_164 hl rfl (by decide) (fun x11 ex11 ls hl => ?_)
      have hw := hw x11 ex11
      have rx11 : rg x11 := by rw [ex11]; exact g12
      have hl : lv_has ls 3 [(2, .int (w3 x11)), (0, .ref (B + 0)), (1, .int (w3 v1))] := hl
      refine hq_goto (tgt := 132) C dX12_readsPair_167 (by decide) ?_
      exact ih x11 rx11 _ _ _ _ hw hs (lv_sub hl [1, 2, 0] rfl)
set_option maxHeartbeats 4000000 in
set_option maxRecDepth 100000 in
theorem c_X12_readsPair (l : Launch) {D : va_G} {cA : Nat → ClassId} {B : Nat} {Z : State → Prop} (hZ : hq_Zo Z (hq_in B YM.length)) (v1 : Int) (rv1 : rg v1) (M : hq_M) (k : Int → hq_M → Prop) (hw : w_X12_readsPair v1 M k) : hq_T vwCl SLx l yX12_readsPair wsX12_readsPair ({ frames := 4, cells := 0, slots := 0, locals := 88 } : Room) D cA YM B Z [.ref (B + 0), .int (w3 v1)] M (hq_qz k) := by
  refine hq_meth (cc := cX12_readsPair) (maxL := 3) (ret := (some .boolean)) (own := RX12) hZ rfl (by decide +kernel) rfl (Nat.le_of_ble_eq_true rfl) ?_
  intro p e s m below meth c ls C hs hl
  have hx := C.1.1
  have hb := C.1.2.1
  unfold w_X12_readsPair at hw
  have hl : lv_has ls 3 [(0, .ref (B + 0)), (1, .int (w3 v1))] := hl
  refine lv_aload_n hx hb dX12_readsPair_0 rfl (lv_at hl 0 rfl) ?_
  refine hq_cV (n := 0) (ci := 12) (o := 0) (qc := (TX12, 57)) C hs (c_X12_take l C.2.2.2.2.1 _ _ hw) gX12_readsPair_X12_take rfl ⟨rfl, rfl⟩ (by decide +kernel) ⟨Nat.le_of_ble_eq_true rfl, Nat.le_of_ble_eq_true rfl⟩ tkM_0 (by decide) rfl rfl hl.1 rfl (Nat.le_of_ble_eq_true rfl) dX12_readsPair_1 (hq_kv (fun M1 H locs hw hs => ?_))
  refine lv_aload_n hx hb dX12_readsPair_4 rfl (lv_at hl 0 rfl) ?_
  refine hq_cV (n := 0) (ci := 12) (o := 0) (qc := (TX12, 57)) C hs (c_X12_isName l C.2.2.2.2.1 _ _ hw) gX12_readsPair_X12_isName rfl ⟨rfl, rfl⟩ (by decide +kernel) ⟨Nat.le_of_ble_eq_true rfl, Nat.le_of_ble_eq_true rfl⟩ tkM_0 (by decide) rfl rfl hl.1 rfl (Nat.le_of_ble_eq_true rfl) dX12_readsPair_5 (hq_kz (fun x2 M9 H locs rx2 hw hs => ?_))
  obtain ⟨e9, hw⟩ := hw; rw [e9] at hs
  refine hq_if_ne (tgt := 13) C (rb_rg rx2) dX12_readsPair_8 (by decide) (fun h => ?_) (fun h => ?_)
  · have hw := hw.1 h
    refine lv_aload_n hx hb dX12_readsPair_13 rfl (lv_at hl 0 rfl) ?_
    refine hq_getA (o := 0) C hs fX12_readsPair_16 tkM_0 (by decide) rfl dX12_readsPair_14 ?_
    refine lv_iload_n hx hb dX12_readsPair_17 rfl (lv_at hl 1 rfl) ?_
    refine lv_aload_n hx hb dX12_readsPair_18 rfl (lv_at hl 0 rfl) ?_
    refine hq_getI (o := 0) C hs fX12_readsPair_132 tkM_0 (by decide) rfl dX12_readsPair_19 (fun g3 => ?_)
    refine lv_aload_n hx hb dX12_readsPair_22 rfl (lv_at hl 0 rfl) ?_
    refine hq_getI (o := 0) C hs fX12_readsPair_138 tkM_0 (by decide) rfl dX12_readsPair_23 (fun g4 => ?_)
    obtain ⟨g5, hw⟩ := hw
    refine hq_isub C dX12_readsPair_26 ?_
    obtain ⟨g6, hw⟩ := hw
    refine hq_iast (o := 1) C hs tkM_1 rv1 g6 g5 dX12_readsPair_27 (fun M7 eM7 H locs hs => ?_)
    have hw := hw M7 eM7
    refine hq_iconst C dX12_readsPair_28 ?_
    refine lv_istore_n (lv' := [(2, .int (w3 0)), (0, .ref (B + 0)), (1, .int (w3 v1))]) hx hb dX12_readsPair_29 rfl hl (by decide) rfl (fun ls hl => ?_)
    obtain ⟨n9, hw⟩ := hw
    refine cl_X12_readsPair_30 v1 rv1 C ?_ n9 0 (by decide : rg 0) _ _ _ _ hw hs (lv_sub hl [1, 2, 0] rfl)
    · intro M8 H locs ls hw hs hl
      refine lv_aload_n hx hb dX12_readsPair_68 rfl (lv_at hl 0 rfl) ?_
      refine hq_cV (n := 0) (ci := 12) (o := 0) (qc := (TX12, 57)) C hs (c_X12_take l C.2.2.2.2.1 _ _ hw) gX12_readsPair_X12_take rfl ⟨rfl, rfl⟩ (by decide +kernel) ⟨Nat.le_of_ble_eq_true rfl, Nat.le_of_ble_eq_true rfl⟩ tkM_0 (by decide) rfl rfl hl.1 rfl (Nat.le_of_ble_eq_true rfl) dX12_readsPair_69 (hq_kv (fun M9 H locs hw hs => ?_))
      refine lv_aload_n hx hb dX12_readsPair_72 rfl (lv_at hl 0 rfl) ?_
      refine hq_bipush C dX12_readsPair_73 (by decide) ?_
      refine hq_cV (n := 1) (ci := 12) (o := 0) (qc := (TX12, 57)) C hs (c_X12_readsSign l C.2.2.2.2.1 61 (by decide : rg 61) _ _ hw) gX12_readsPair_X12_readsSign rfl ⟨rfl, rfl⟩ (by decide +kernel) ⟨Nat.le_of_ble_eq_true rfl, Nat.le_of_ble_eq_true rfl⟩ tkM_0 (by decide) rfl rfl hl.1 rfl (Nat.le_of_ble_eq_true rfl) dX12_readsPair_75 (hq_kz (fun x11 M10 H locs rx11 hw hs => ?_))
      refine hq_if_ne (tgt := 83) C (rb_rg rx11) dX12_readsPair_78 (by decide) (fun h => ?_) (fun h => ?_)
      · have hw := hw.1 h
        refine lv_aload_n hx hb dX12_readsPair_83 rfl (lv_at hl 0 rfl) ?_
        refine hq_getA (o := 0) C hs fX12_readsPair_20 tkM_0 (by decide) rfl dX12_readsPair_84 ?_
        refine lv_iload_n hx hb dX12_readsPair_87 rfl (lv_at hl 1 rfl) ?_
        refine hq_iconst C dX12_readsPair_88 ?_
        obtain ⟨g12, hw⟩ := hw
        refine hq_iast (o := 2) C hs tkM_2 rv1 g12 (by decide : rg 0) dX12_readsPair_89 (fun M13 eM13 H locs hs => ?_)
        have hw := hw M13 eM13
        refine lv_aload_n hx hb dX12_readsPair_90 rfl (lv_at hl 0 rfl) ?_
        refine hq_getI (o := 0) C hs fX12_readsPair_141 tkM_0 (by decide) rfl dX12_readsPair_91 (fun g14 => ?_)
        refine hq_bipush C dX12_readsPair_94 (by decide) ?_
        refine hq_icmp_ne (tgt := 174) C g14 (by decide : rg (-2)) dX12_readsPair_96 (by decide) (fun h => ?_) (fun h => ?_)
        · have hw := hw.1 h
          refine hq_iconst C dX12_readsPair_174 ?_
          exact hq_zret C hs (by decide) hw dX12_readsPair_175
        · have hw := hw.2 h
          refine lv_aload_n hx hb dX12_readsPair_99 rfl (lv_at hl 0 rfl) ?_
          refine hq_getI (o := 0) C hs fX12_readsPair_132 tkM_0 (by decide) rfl dX12_readsPair_100 (fun g15 => ?_)
          refine lv_aload_n hx hb dX12_readsPair_103 rfl (lv_at hl 0 rfl) ?_
          refine hq_getI (o := 0) C hs fX12_readsPair_138 tkM_0 (by decide) rfl dX12_readsPair_104 (fun g16 => ?_)
          obtain ⟨g17, hw⟩ := hw
          refine hq_isub C dX12_readsPair_107 ?_
          refine hq_bipush C dX12_readsPair_108 (by decide) ?_
          refine hq_icmp_le (tgt := 115) C g17 (by decide : rg 6) dX12_readsPair_110 (by decide) (fun h => ?_) (fun h => ?_)
          · have hw := hw.1 h
            refine lv_aload_n hx hb dX12_readsPair_115 rfl (lv_at hl 0 rfl) ?_
            refine hq_getA (o := 0) C hs fX12_readsPair_20 tkM_0 (by decide) rfl dX12_readsPair_116 ?_
            refine lv_iload_n hx hb dX12_readsPair_119 rfl (lv_at hl 1 rfl) ?_
            refine lv_aload_n hx hb dX12_readsPair_120 rfl (lv_at hl 0 rfl) ?_
            refine hq_getI (o := 0) C hs fX12_readsPair_132 tkM_0 (by decide) rfl dX12_readsPair_121 (fun g18 => ?_)
            refine lv_aload_n hx hb dX12_readsPair_124 rfl (lv_at hl 0 rfl) ?_
            refine hq_getI (o := 0) C hs fX12_readsPair_138 tkM_0 (by decide) rfl dX12_readsPair_125 (fun g19 => ?_)
            obtain ⟨g20, hw⟩ := hw
            refine hq_isub C dX12_readsPair_128 ?_
            obtain ⟨g21, hw⟩ := hw
            refine hq_iast (o := 2) C hs tkM_2 rv1 g21 g20 dX12_readsPair_129 (fun M22 eM22 H locs hs => ?_)
            have hw := hw M22 eM22
            refine hq_iconst C dX12_readsPair_130 ?_
            refine lv_istore_n (lv' := [(2, .int (w3 0)), (0, .ref (B + 0)), (1, .int (w3 v1))]) hx hb dX12_readsPair_131 rfl hl (by decide) rfl (fun ls hl => ?_)
            obtain ⟨n9, hw⟩ := hw
            refine cl_X12_readsPair_132 v1 rv1 C ?_ n9 0 (by decide : rg 0) _ _ _ _ hw hs (lv_sub hl [1, 2, 0] rfl)
            · intro M23 H locs ls hw hs hl
              refine lv_aload_n hx hb dX12_readsPair_170 rfl (lv_at hl 0 rfl) ?_
              refine hq_cV (n := 0) (ci := 12) (o := 0) (qc := (TX12, 57)) C hs (c_X12_take l C.2.2.2.2.1 _ _ hw) gX12_readsPair_X12_take rfl ⟨rfl, rfl⟩ (by decide +kernel) ⟨Nat.le_of_ble_eq_true rfl, Nat.le_of_ble_eq_true rfl⟩ tkM_0 (by decide) rfl rfl hl.1 rfl (Nat.le_of_ble_eq_true rfl) dX12_readsPair_171 (hq_kv (fun M24 H locs hw hs => ?_))
              refine hq_iconst C dX12_readsPair_174 ?_
              exact hq_zret C hs (by decide) hw dX12_readsPair_175
          · have hw := hw.2 h
            refine hq_iconst C dX12_readsPair_113 ?_
            exact hq_zret C hs (by decide) hw dX12_readsPair_114
      · have hw := hw.2 h
        refine hq_iconst C dX12_readsPair_81 ?_
        exact hq_zret C hs (by decide) hw dX12_readsPair_82
  · have hw := hw.2 h
    refine hq_iconst C dX12_readsPair_11 ?_
    exact hq_zret C hs (by decide) hw dX12_readsPair_12
theorem iX12_readsStill_12 : ∀ w ∈ u_ws RX12 TX12 57, w ∈ wsX12_readsStill := fun w h => List.mem_cons_of_mem _ (List.mem_append_right _ h)
set_option maxRecDepth 20000 in
theorem fX12_readsStill_177 : hq_fl vwCl wsX12_readsStill RX12 177 12 15 false .int := ⟨RX12, TX12, 57, tyX12, rfl, by decide, iX12_readsStill_12, by decide +kernel, rfl, tyX12_ok 15 (by decide), tyX12_ok, nmX12⟩
set_option maxHeartbeats 4000000 in
set_option maxRecDepth 100000 in
theorem cb_X12_readsStill_43 {p : Program} {l : Launch} {e : Env} {s : State} {m : MethodId} {args : Array Value} {below : List Frame} {meth : Method} {c : Code} {D : va_G} {cA : Nat → ClassId} {B : Nat} {Z : State → Prop} (v1 : Int) (rv1 : rb v1) (t1 : Int) (rt1 : rg t1) (t2 : Int) (rt2 : rb t2)  {k : Int → hq_M → Prop} {M : hq_M} {H : Heap} {locs : List Loc} {ls : Array Slot} (C : hq_C vwCl p m c cX12_readsStill 2 s args wsX12_readsStill RX12 meth (some .boolean) D cA (hq_in B YM.length) Z)
    (hw : b_X12_readsStill_43 v1 t1 t2 k M) (hs : hq_S vwCl SLx D cA YM B s.heap M H locs) (hl : lv_has ls 2 [(1, .int (w3 v1))])
     : W p l e ({ frames := 5, cells := 0, slots := 0, locals := 110 } : Room) s m args below meth c H locs 0 0 (MQ below (hq_Q vwCl SLx D cA YM B (hq_qz k)) args s 0 0 (hq_in B YM.length)) (F0 m 43 ls [.int (w3 t2), .int (w3 t1), .ref (B + 0)]) := by
  have hx := C.1.1
  have hb := C.1.2.1
  unfold b_X12_readsStill_43 at hw
  obtain ⟨g1, hw⟩ := hw
  refine hq_iadd C dX12_readsStill_43 ?_
  refine hq_putI (o := 0) C hs fX12_readsStill_177 tkM_0 (by decide) rfl g1 dX12_readsStill_44 (fun M2 eM2 H locs hs => ?_)
  have hw := hw M2 eM2
  refine lv_iload_n hx hb dX12_readsStill_47 rfl (lv_at hl 0 rfl) ?_
  exact hq_zret C hs rv1 hw dX12_readsStill_48
set_option maxHeartbeats 4000000 in
set_option maxRecDepth 100000 in
theorem cb_X12_readsStill_28 {p : Program} {l : Launch} {e : Env} {s : State} {m : MethodId} {args : Array Value} {below : List Frame} {meth : Method} {c : Code} {D : va_G} {cA : Nat → ClassId} {B : Nat} {Z : State → Prop} (t0 : Int) (rt0 : rb t0)  {k : Int → hq_M → Prop} {M : hq_M} {H : Heap} {locs : List Loc} {ls : Array Slot} (C : hq_C vwCl p m c cX12_readsStill 2 s args wsX12_readsStill RX12 meth (some .boolean) D cA (hq_in B YM.length) Z)
    (hw : b_X12_readsStill_28 t0 k M) (hs : hq_S vwCl SLx D cA YM B s.heap M H locs) (hl : lv_has ls 2 [(0, .ref (B + 0))])
     : W p l e ({ frames := 5, cells := 0, slots := 0, locals := 110 } : Room) s m args below meth c H locs 0 0 (MQ below (hq_Q vwCl SLx D cA YM B (hq_qz k)) args s 0 0 (hq_in B YM.length)) (F0 m 28 ls [.int (w3 t0)]) := by
  have hx := C.1.1
  have hb := C.1.2.1
  unfold b_X12_readsStill_28 at hw
  refine lv_istore_n (lv' := [(1, .int (w3 t0)), (0, .ref (B + 0))]) hx hb dX12_readsStill_28 rfl hl (by decide) rfl (fun ls hl => ?_)
  refine lv_aload_n hx hb dX12_readsStill_29 rfl (lv_at hl 1 rfl) ?_
  refine lv_dup hx hb dX12_readsStill_30 rfl ?_
  refine hq_getI (o := 0) C hs fX12_readsStill_177 tkM_0 (by decide) rfl dX12_readsStill_31 (fun g1 => ?_)
  refine lv_iload_n hx hb dX12_readsStill_34 rfl (lv_at hl 0 rfl) ?_
  refine hq_if_eq (tgt := 42) C (rb_rg rt0) dX12_readsStill_35 (by decide) (fun h => ?_) (fun h => ?_)
  · have hw := hw.1 h
    refine hq_iconst C dX12_readsStill_42 ?_
    refine cb_X12_readsStill_43 t0 rt0 (M 0 15) g1 0 (by decide) C hw hs (lv_sub hl [0] rfl) 
  · have hw := hw.2 h
    refine hq_iconst C dX12_readsStill_38 ?_
    refine hq_goto (tgt := 43) C dX12_readsStill_39 (by decide) ?_
    refine cb_X12_readsStill_43 t0 rt0 (M 0 15) g1 1 (by decide) C hw hs (lv_sub hl [0] rfl) 
set_option maxHeartbeats 4000000 in
set_option maxRecDepth 100000 in
theorem cb_X12_readsStill_27 {p : Program} {l : Launch} {e : Env} {s : State} {m : MethodId} {args : Array Value} {below : List Frame} {meth : Method} {c : Code} {D : va_G} {cA : Nat → ClassId} {B : Nat} {Z : State → Prop}   {k : Int → hq_M → Prop} {M : hq_M} {H : Heap} {locs : List Loc} {ls : Array Slot} (C : hq_C vwCl p m c cX12_readsStill 2 s args wsX12_readsStill RX12 meth (some .boolean) D cA (hq_in B YM.length) Z)
    (hw : b_X12_readsStill_27 k M) (hs : hq_S vwCl SLx D cA YM B s.heap M H locs) (hl : lv_has ls 2 [(0, .ref (B + 0))])
     : W p l e ({ frames := 5, cells := 0, slots := 0, locals := 110 } : Room) s m args below meth c H locs 0 0 (MQ below (hq_Q vwCl SLx D cA YM B (hq_qz k)) args s 0 0 (hq_in B YM.length)) (F0 m 27 ls []) := by
  have hx := C.1.1
  have hb := C.1.2.1
  unfold b_X12_readsStill_27 at hw
  refine hq_iconst C dX12_readsStill_27 ?_
  refine cb_X12_readsStill_28 0 (by decide) C hw hs (lv_sub hl [0] rfl) 
set_option maxHeartbeats 4000000 in
set_option maxRecDepth 100000 in
theorem c_X12_readsStill (l : Launch) {D : va_G} {cA : Nat → ClassId} {B : Nat} {Z : State → Prop} (hZ : hq_Zo Z (hq_in B YM.length))  (M : hq_M) (k : Int → hq_M → Prop) (hw : w_X12_readsStill  M k) : hq_T vwCl SLx l yX12_readsStill wsX12_readsStill ({ frames := 5, cells := 0, slots := 0, locals := 110 } : Room) D cA YM B Z [.ref (B + 0)] M (hq_qz k) := by
  refine hq_meth (cc := cX12_readsStill) (maxL := 2) (ret := (some .boolean)) (own := RX12) hZ rfl (by decide +kernel) rfl (Nat.le_of_ble_eq_true rfl) ?_
  intro p e s m below meth c ls C hs hl
  have hx := C.1.1
  have hb := C.1.2.1
  unfold w_X12_readsStill at hw
  have hl : lv_has ls 2 [(0, .ref (B + 0))] := hl
  refine lv_aload_n hx hb dX12_readsStill_0 rfl (lv_at hl 0 rfl) ?_
  refine hq_getI (o := 0) C hs fX12_readsStill_177 tkM_0 (by decide) rfl dX12_readsStill_1 (fun g1 => ?_)
  refine hq_bipush C dX12_readsStill_4 (by decide) ?_
  refine hq_icmp_ge (tgt := 27) C g1 (by decide : rg 8) dX12_readsStill_6 (by decide) (fun h => ?_) (fun h => ?_)
  · have hw := hw.1 h
    refine cb_X12_readsStill_27  C hw hs (lv_sub hl [0] rfl) 
  · have hw := hw.2 h
    refine lv_aload_n hx hb dX12_readsStill_9 rfl (lv_at hl 0 rfl) ?_
    refine hq_bipush C dX12_readsStill_10 (by decide) ?_
    refine lv_aload_n hx hb dX12_readsStill_12 rfl (lv_at hl 0 rfl) ?_
    refine hq_getI (o := 0) C hs fX12_readsStill_177 tkM_0 (by decide) rfl dX12_readsStill_13 (fun g2 => ?_)
    obtain ⟨g3, hw⟩ := hw
    refine hq_iadd C dX12_readsStill_16 ?_
    refine hq_cV (n := 1) (ci := 12) (o := 0) (qc := (TX12, 57)) C hs (c_X12_readsPair l C.2.2.2.2.1 (24 + (M 0 15)) g3 _ _ hw) gX12_readsStill_X12_readsPair rfl ⟨rfl, rfl⟩ (by decide +kernel) ⟨Nat.le_of_ble_eq_true rfl, Nat.le_of_ble_eq_true rfl⟩ tkM_0 (by decide) rfl rfl hl.1 rfl (Nat.le_of_ble_eq_true rfl) dX12_readsStill_17 (hq_kz (fun x5 M4 H locs rx5 hw hs => ?_))
    refine hq_if_eq (tgt := 27) C (rb_rg rx5) dX12_readsStill_20 (by decide) (fun h => ?_) (fun h => ?_)
    · have hw := hw.1 h
      refine cb_X12_readsStill_27  C hw hs (lv_sub hl [0] rfl) 
    · have hw := hw.2 h
      refine hq_iconst C dX12_readsStill_23 ?_
      refine hq_goto (tgt := 28) C dX12_readsStill_24 (by decide) ?_
      refine cb_X12_readsStill_28 1 (by decide) C hw hs (lv_sub hl [0] rfl) 
theorem iX12_areOfOneName_12 : ∀ w ∈ u_ws RX12 TX12 57, w ∈ wsX12_areOfOneName := fun w h => List.mem_cons_of_mem _ (List.mem_append_right _ h)
set_option maxRecDepth 20000 in
theorem fX12_areOfOneName_16 : hq_fl vwCl wsX12_areOfOneName RX12 16 12 4 true (.array .int) := ⟨RX12, TX12, 57, tyX12, rfl, by decide, iX12_areOfOneName_12, by decide +kernel, rfl, tyX12_ok 4 (by decide), tyX12_ok, nmX12⟩
set_option maxRecDepth 20000 in
theorem fX12_areOfOneName_23 : hq_fl vwCl wsX12_areOfOneName RX12 23 12 6 true (.array .int) := ⟨RX12, TX12, 57, tyX12, rfl, by decide, iX12_areOfOneName_12, by decide +kernel, rfl, tyX12_ok 6 (by decide), tyX12_ok, nmX12⟩
set_option maxHeartbeats 4000000 in
set_option maxRecDepth 100000 in
theorem cb_X12_areOfOneName_71 {p : Program} {l : Launch} {e : Env} {s : State} {m : MethodId} {args : Array Value} {below : List Frame} {meth : Method} {c : Code} {D : va_G} {cA : Nat → ClassId} {B : Nat} {Z : State → Prop} (v1 : Int) (rv1 : rg v1) (v2 : Int) (rv2 : rg v2) (v4 : Int) (rv4 : rg v4) (t0 : Int) (rt0 : rb t0) {k_24 : Int → Int → Prop} {k : Int → Prop} {M : hq_M} {H : Heap} {locs : List Loc} {ls : Array Slot} (C : hq_C vwCl p m c cX12_areOfOneName 5 s args wsX12_areOfOneName RX12 meth (some .boolean) D cA (hq_in B YM.length) Z)
    (hw : b_X12_areOfOneName_71 v1 v2 v4 t0 k_24 k M) (hs : hq_S vwCl SLx D cA YM B s.heap M H locs) (hl : lv_has ls 5 [(0, .ref (B + 0)), (1, .int (w3 v1)), (2, .int (w3 v2)), (4, .int (w3 v4))])
    (hk_24 : ∀ (y3 : Int) (ry3 : rb y3) (y4 : Int) (ry4 : rg y4) (H : Heap) (locs : List Loc) (ls : Array Slot), k_24 y3 y4 → hq_S vwCl SLx D cA YM B s.heap M H locs → lv_has ls 5 [(0, .ref (B + 0)), (1, .int (w3 v1)), (2, .int (w3 v2)), (3, .int (w3 y3)), (4, .int (w3 y4))] → W p l e ({ frames := 0, cells := 0, slots := 0, locals := 0 } : Room) s m args below meth c H locs 0 0 (MQ below (hq_Q vwCl SLx D cA YM B (hq_qz (fun z M' => M' = M ∧ k z))) args s 0 0 (hq_in B YM.length)) (F0 m 24 ls [])) : W p l e ({ frames := 0, cells := 0, slots := 0, locals := 0 } : Room) s m args below meth c H locs 0 0 (MQ below (hq_Q vwCl SLx D cA YM B (hq_qz (fun z M' => M' = M ∧ k z))) args s 0 0 (hq_in B YM.length)) (F0 m 71 ls [.int (w3 t0)]) := by
  have hx := C.1.1
  have hb := C.1.2.1
  unfold b_X12_areOfOneName_71 at hw
  refine lv_istore_n (lv' := [(3, .int (w3 t0)), (0, .ref (B + 0)), (1, .int (w3 v1)), (2, .int (w3 v2)), (4, .int (w3 v4))]) hx hb dX12_areOfOneName_71 rfl hl (by decide) rfl (fun ls hl => ?_)
  obtain ⟨g2, hw⟩ := hw
  refine hq_iinc (k := 4) C dX12_areOfOneName_72 hl rfl (by decide) (fun x1 ex1 ls hl => ?_)
  have hw := hw x1 ex1
  have rx1 : rg x1 := by rw [ex1]; exact g2
  have hl : lv_has ls 5 [(4, .int (w3 x1)), (3, .int (w3 t0)), (0, .ref (B + 0)), (1, .int (w3 v1)), (2, .int (w3 v2))] := hl
  refine hq_goto (tgt := 24) C dX12_areOfOneName_75 (by decide) ?_
  exact hk_24 t0 rt0 x1 rx1 _ _ _ hw hs (lv_sub hl [2, 3, 4, 1, 0] rfl)
set_option maxHeartbeats 4000000 in
set_option maxRecDepth 100000 in
theorem cl_X12_areOfOneName_24 {p : Program} {l : Launch} {e : Env} {s : State} {m : MethodId} {args : Array Value} {below : List Frame} {meth : Method} {c : Code} {D : va_G} {cA : Nat → ClassId} {B : Nat} {Z : State → Prop} (v1 : Int) (rv1 : rg v1) (v2 : Int) (rv2 : rg v2)  {k : Int → Prop} {M : hq_M} (C : hq_C vwCl p m c cX12_areOfOneName 5 s args wsX12_areOfOneName RX12 meth (some .boolean) D cA (hq_in B YM.length) Z)
     : ∀ (n : Nat) (v3 : Int) (rv3 : rb v3) (v4 : Int) (rv4 : rg v4) (H : Heap) (locs : List Loc) (ls : Array Slot), l_X12_areOfOneName_24 v1 v2 k M n v3 v4 → hq_S vwCl SLx D cA YM B s.heap M H locs → lv_has ls 5 [(0, .ref (B + 0)), (1, .int (w3 v1)), (2, .int (w3 v2)), (3, .int (w3 v3)), (4, .int (w3 v4))] → W p l e ({ frames := 0, cells := 0, slots := 0, locals := 0 } : Room) s m args below meth c H locs 0 0 (MQ below (hq_Q vwCl SLx D cA YM B (hq_qz (fun z M' => M' = M ∧ k z))) args s 0 0 (hq_in B YM.length)) (F0 m 24 ls []) := by
  have hx := C.1.1
  have hb := C.1.2.1
  intro n
  induction n with
  | zero => intro v3 rv3 v4 rv4 H locs ls hw hs hl; exact hw.elim
  | succ n ih =>
    intro v3 rv3 v4 rv4 H locs ls hw hs hl
    unfold l_X12_areOfOneName_24 at hw
    refine lv_iload hx hb dX12_areOfOneName_24 (lv_at hl 4 rfl) ?_
    refine lv_aload_n hx hb dX12_areOfOneName_26 rfl (lv_at hl 0 rfl) ?_
    refine hq_getA (o := 0) C hs fX12_areOfOneName_16 tkM_0 (by decide) rfl dX12_areOfOneName_27 ?_
    refine lv_iload_n hx hb dX12_areOfOneName_30 rfl (lv_at hl 1 rfl) ?_
    obtain ⟨g1, hw⟩ := hw
    refine hq_iald (o := 1) C hs tkM_1 rv1 g1 dX12_areOfOneName_31 (fun g2 => ?_)
    refine hq_icmp_ge (tgt := 78) C rv4 g2 dX12_areOfOneName_32 (by decide) (fun h => ?_) (fun h => ?_)
    · have hw := hw.1 h
      refine lv_iload_n hx hb dX12_areOfOneName_78 rfl (lv_at hl 3 rfl) ?_
      exact hq_zret C hs rv3 ⟨rfl, hw⟩ dX12_areOfOneName_79
    · have hw := hw.2 h
      refine lv_iload_n hx hb dX12_areOfOneName_35 rfl (lv_at hl 3 rfl) ?_
      refine hq_if_eq (tgt := 78) C (rb_rg rv3) dX12_areOfOneName_36 (by decide) (fun h => ?_) (fun h => ?_)
      · have hw := hw.1 h
        refine lv_iload_n hx hb dX12_areOfOneName_78 rfl (lv_at hl 3 rfl) ?_
        exact hq_zret C hs rv3 ⟨rfl, hw⟩ dX12_areOfOneName_79
      · have hw := hw.2 h
        refine lv_aload_n hx hb dX12_areOfOneName_39 rfl (lv_at hl 0 rfl) ?_
        refine hq_getA (o := 0) C hs fX12_areOfOneName_23 tkM_0 (by decide) rfl dX12_areOfOneName_40 ?_
        refine hq_bipush C dX12_areOfOneName_43 (by decide) ?_
        refine lv_iload_n hx hb dX12_areOfOneName_45 rfl (lv_at hl 1 rfl) ?_
        obtain ⟨g3, hw⟩ := hw
        refine hq_imul C dX12_areOfOneName_46 ?_
        refine lv_iload hx hb dX12_areOfOneName_47 (lv_at hl 4 rfl) ?_
        obtain ⟨g4, hw⟩ := hw
        refine hq_iadd C dX12_areOfOneName_49 ?_
        obtain ⟨g5, hw⟩ := hw
        refine hq_iald (o := 3) C hs tkM_3 g4 g5 dX12_areOfOneName_50 (fun g6 => ?_)
        refine lv_aload_n hx hb dX12_areOfOneName_51 rfl (lv_at hl 0 rfl) ?_
        refine hq_getA (o := 0) C hs fX12_areOfOneName_23 tkM_0 (by decide) rfl dX12_areOfOneName_52 ?_
        refine hq_bipush C dX12_areOfOneName_55 (by decide) ?_
        refine lv_iload_n hx hb dX12_areOfOneName_57 rfl (lv_at hl 2 rfl) ?_
        obtain ⟨g7, hw⟩ := hw
        refine hq_imul C dX12_areOfOneName_58 ?_
        refine lv_iload hx hb dX12_areOfOneName_59 (lv_at hl 4 rfl) ?_
        obtain ⟨g8, hw⟩ := hw
        refine hq_iadd C dX12_areOfOneName_61 ?_
        obtain ⟨g9, hw⟩ := hw
        refine hq_iald (o := 3) C hs tkM_3 g8 g9 dX12_areOfOneName_62 (fun g10 => ?_)
        refine hq_icmp_ne (tgt := 70) C g6 g10 dX12_areOfOneName_63 (by decide) (fun h => ?_) (fun h => ?_)
        · have hw := hw.1 h
          refine hq_iconst C dX12_areOfOneName_70 ?_
          refine cb_X12_areOfOneName_71 v1 rv1 v2 rv2 v4 rv4 0 (by decide) C hw hs (lv_sub hl [0, 1, 2, 4] rfl) ?_
          · intro y3 ry3 y4 ry4 H locs ls hw hs hl
            exact ih y3 ry3 y4 ry4 _ _ _ hw hs (lv_sub hl [0, 1, 2, 3, 4] rfl)
        · have hw := hw.2 h
          refine hq_iconst C dX12_areOfOneName_66 ?_
          refine hq_goto (tgt := 71) C dX12_areOfOneName_67 (by decide) ?_
          refine cb_X12_areOfOneName_71 v1 rv1 v2 rv2 v4 rv4 1 (by decide) C hw hs (lv_sub hl [0, 1, 2, 4] rfl) ?_
          · intro y3 ry3 y4 ry4 H locs ls hw hs hl
            exact ih y3 ry3 y4 ry4 _ _ _ hw hs (lv_sub hl [0, 1, 2, 3, 4] rfl)
set_option maxHeartbeats 4000000 in
set_option maxRecDepth 100000 in
theorem cb_X12_areOfOneName_20 {p : Program} {l : Launch} {e : Env} {s : State} {m : MethodId} {args : Array Value} {below : List Frame} {meth : Method} {c : Code} {D : va_G} {cA : Nat → ClassId} {B : Nat} {Z : State → Prop} (v1 : Int) (rv1 : rg v1) (v2 : Int) (rv2 : rg v2) (t0 : Int) (rt0 : rb t0)  {k : Int → Prop} {M : hq_M} {H : Heap} {locs : List Loc} {ls : Array Slot} (C : hq_C vwCl p m c cX12_areOfOneName 5 s args wsX12_areOfOneName RX12 meth (some .boolean) D cA (hq_in B YM.length) Z)
    (hw : b_X12_areOfOneName_20 v1 v2 t0 k M) (hs : hq_S vwCl SLx D cA YM B s.heap M H locs) (hl : lv_has ls 5 [(0, .ref (B + 0)), (1, .int (w3 v1)), (2, .int (w3 v2))])
     : W p l e ({ frames := 0, cells := 0, slots := 0, locals := 0 } : Room) s m args below meth c H locs 0 0 (MQ below (hq_Q vwCl SLx D cA YM B (hq_qz (fun z M' => M' = M ∧ k z))) args s 0 0 (hq_in B YM.length)) (F0 m 20 ls [.int (w3 t0)]) := by
  have hx := C.1.1
  have hb := C.1.2.1
  unfold b_X12_areOfOneName_20 at hw
  refine lv_istore_n (lv' := [(3, .int (w3 t0)), (0, .ref (B + 0)), (1, .int (w3 v1)), (2, .int (w3 v2))]) hx hb dX12_areOfOneName_20 rfl hl (by decide) rfl (fun ls hl => ?_)
  refine hq_iconst C dX12_areOfOneName_21 ?_
  refine lv_istore (lv' := [(4, .int (w3 0)), (3, .int (w3 t0)), (0, .ref (B + 0)), (1, .int (w3 v1)), (2, .int (w3 v2))]) hx hb dX12_areOfOneName_22 hl (by decide) rfl (fun ls hl => ?_)
  obtain ⟨n9, hw⟩ := hw
  refine cl_X12_areOfOneName_24 v1 rv1 v2 rv2 C  n9 t0 rt0 0 (by decide : rg 0) _ _ _ hw hs (lv_sub hl [2, 3, 4, 1, 0] rfl)
set_option maxHeartbeats 4000000 in
set_option maxRecDepth 100000 in
theorem c_X12_areOfOneName (l : Launch) {D : va_G} {cA : Nat → ClassId} {B : Nat} {Z : State → Prop} (hZ : hq_Zo Z (hq_in B YM.length)) (v1 : Int) (rv1 : rg v1) (v2 : Int) (rv2 : rg v2) (M : hq_M) (k : Int → Prop) (hw : w_X12_areOfOneName v1 v2 M k) : hq_T vwCl SLx l yX12_areOfOneName wsX12_areOfOneName ({ frames := 0, cells := 0, slots := 0, locals := 0 } : Room) D cA YM B Z [.ref (B + 0), .int (w3 v1), .int (w3 v2)] M (hq_qz (fun z M' => M' = M ∧ k z)) := by
  refine hq_meth (cc := cX12_areOfOneName) (maxL := 5) (ret := (some .boolean)) (own := RX12) hZ rfl (by decide +kernel) rfl (Nat.le_of_ble_eq_true rfl) ?_
  intro p e s m below meth c ls C hs hl
  have hx := C.1.1
  have hb := C.1.2.1
  unfold w_X12_areOfOneName at hw
  have hl : lv_has ls 5 [(0, .ref (B + 0)), (1, .int (w3 v1)), (2, .int (w3 v2))] := hl
  refine lv_aload_n hx hb dX12_areOfOneName_0 rfl (lv_at hl 0 rfl) ?_
  refine hq_getA (o := 0) C hs fX12_areOfOneName_16 tkM_0 (by decide) rfl dX12_areOfOneName_1 ?_
  refine lv_iload_n hx hb dX12_areOfOneName_4 rfl (lv_at hl 1 rfl) ?_
  obtain ⟨g1, hw⟩ := hw
  refine hq_iald (o := 1) C hs tkM_1 rv1 g1 dX12_areOfOneName_5 (fun g2 => ?_)
  refine lv_aload_n hx hb dX12_areOfOneName_6 rfl (lv_at hl 0 rfl) ?_
  refine hq_getA (o := 0) C hs fX12_areOfOneName_16 tkM_0 (by decide) rfl dX12_areOfOneName_7 ?_
  refine lv_iload_n hx hb dX12_areOfOneName_10 rfl (lv_at hl 2 rfl) ?_
  obtain ⟨g3, hw⟩ := hw
  refine hq_iald (o := 1) C hs tkM_1 rv2 g3 dX12_areOfOneName_11 (fun g4 => ?_)
  refine hq_icmp_ne (tgt := 19) C g2 g4 dX12_areOfOneName_12 (by decide) (fun h => ?_) (fun h => ?_)
  · have hw := hw.1 h
    refine hq_iconst C dX12_areOfOneName_19 ?_
    refine cb_X12_areOfOneName_20 v1 rv1 v2 rv2 0 (by decide) C hw hs (lv_sub hl [0, 1, 2] rfl) 
  · have hw := hw.2 h
    refine hq_iconst C dX12_areOfOneName_15 ?_
    refine hq_goto (tgt := 20) C dX12_areOfOneName_16 (by decide) ?_
    refine cb_X12_areOfOneName_20 v1 rv1 v2 rv2 1 (by decide) C hw hs (lv_sub hl [0, 1, 2] rfl) 
theorem iX12_areAlike_12 : ∀ w ∈ u_ws RX12 TX12 57, w ∈ wsX12_areAlike := fun w h => List.mem_cons_of_mem _ (List.mem_append_right _ h)
set_option maxRecDepth 20000 in
theorem fX12_areAlike_20 : hq_fl vwCl wsX12_areAlike RX12 20 12 5 true (.array .int) := ⟨RX12, TX12, 57, tyX12, rfl, by decide, iX12_areAlike_12, by decide +kernel, rfl, tyX12_ok 5 (by decide), tyX12_ok, nmX12⟩
set_option maxRecDepth 20000 in
theorem fX12_areAlike_26 : hq_fl vwCl wsX12_areAlike RX12 26 12 7 true (.array .int) := ⟨RX12, TX12, 57, tyX12, rfl, by decide, iX12_areAlike_12, by decide +kernel, rfl, tyX12_ok 7 (by decide), tyX12_ok, nmX12⟩
set_option maxHeartbeats 4000000 in
set_option maxRecDepth 100000 in
theorem cb_X12_areAlike_80 {p : Program} {l : Launch} {e : Env} {s : State} {m : MethodId} {args : Array Value} {below : List Frame} {meth : Method} {c : Code} {D : va_G} {cA : Nat → ClassId} {B : Nat} {Z : State → Prop} (v1 : Int) (rv1 : rg v1) (v2 : Int) (rv2 : rg v2) (v4 : Int) (rv4 : rg v4) (t0 : Int) (rt0 : rb t0) {k_33 : Int → Int → Prop} {k : Int → Prop} {M : hq_M} {H : Heap} {locs : List Loc} {ls : Array Slot} (C : hq_C vwCl p m c cX12_areAlike 5 s args wsX12_areAlike RX12 meth (some .boolean) D cA (hq_in B YM.length) Z)
    (hw : b_X12_areAlike_80 v1 v2 v4 t0 k_33 k M) (hs : hq_S vwCl SLx D cA YM B s.heap M H locs) (hl : lv_has ls 5 [(0, .ref (B + 0)), (1, .int (w3 v1)), (2, .int (w3 v2)), (4, .int (w3 v4))])
    (hk_33 : ∀ (y3 : Int) (ry3 : rb y3) (y4 : Int) (ry4 : rg y4) (H : Heap) (locs : List Loc) (ls : Array Slot), k_33 y3 y4 → hq_S vwCl SLx D cA YM B s.heap M H locs → lv_has ls 5 [(0, .ref (B + 0)), (1, .int (w3 v1)), (2, .int (w3 v2)), (3, .int (w3 y3)), (4, .int (w3 y4))] → W p l e ({ frames := 1, cells := 0, slots := 0, locals := 24 } : Room) s m args below meth c H locs 0 0 (MQ below (hq_Q vwCl SLx D cA YM B (hq_qz (fun z M' => M' = M ∧ k z))) args s 0 0 (hq_in B YM.length)) (F0 m 33 ls [])) : W p l e ({ frames := 1, cells := 0, slots := 0, locals := 24 } : Room) s m args below meth c H locs 0 0 (MQ below (hq_Q vwCl SLx D cA YM B (hq_qz (fun z M' => M' = M ∧ k z))) args s 0 0 (hq_in B YM.length)) (F0 m 80 ls [.int (w3 t0)]) := by
  have hx := C.1.1
  have hb := C.1.2.1
  unfold b_X12_areAlike_80 at hw
  refine lv_istore_n (lv' := [(3, .int (w3 t0)), (0, .ref (B + 0)), (1, .int (w3 v1)), (2, .int (w3 v2)), (4, .int (w3 v4))]) hx hb dX12_areAlike_80 rfl hl (by decide) rfl (fun ls hl => ?_)
  obtain ⟨g2, hw⟩ := hw
  refine hq_iinc (k := 4) C dX12_areAlike_81 hl rfl (by decide) (fun x1 ex1 ls hl => ?_)
  have hw := hw x1 ex1
  have rx1 : rg x1 := by rw [ex1]; exact g2
  have hl : lv_has ls 5 [(4, .int (w3 x1)), (3, .int (w3 t0)), (0, .ref (B + 0)), (1, .int (w3 v1)), (2, .int (w3 v2))] := hl
  refine hq_goto (tgt := 33) C dX12_areAlike_84 (by decide) ?_
  exact hk_33 t0 rt0 x1 rx1 _ _ _ hw hs (lv_sub hl [2, 3, 4, 1, 0] rfl)
set_option maxHeartbeats 4000000 in
set_option maxRecDepth 100000 in
theorem cl_X12_areAlike_33 {p : Program} {l : Launch} {e : Env} {s : State} {m : MethodId} {args : Array Value} {below : List Frame} {meth : Method} {c : Code} {D : va_G} {cA : Nat → ClassId} {B : Nat} {Z : State → Prop} (v1 : Int) (rv1 : rg v1) (v2 : Int) (rv2 : rg v2)  {k : Int → Prop} {M : hq_M} (C : hq_C vwCl p m c cX12_areAlike 5 s args wsX12_areAlike RX12 meth (some .boolean) D cA (hq_in B YM.length) Z)
     : ∀ (n : Nat) (v3 : Int) (rv3 : rb v3) (v4 : Int) (rv4 : rg v4) (H : Heap) (locs : List Loc) (ls : Array Slot), l_X12_areAlike_33 v1 v2 k M n v3 v4 → hq_S vwCl SLx D cA YM B s.heap M H locs → lv_has ls 5 [(0, .ref (B + 0)), (1, .int (w3 v1)), (2, .int (w3 v2)), (3, .int (w3 v3)), (4, .int (w3 v4))] → W p l e ({ frames := 1, cells := 0, slots := 0, locals := 24 } : Room) s m args below meth c H locs 0 0 (MQ below (hq_Q vwCl SLx D cA YM B (hq_qz (fun z M' => M' = M ∧ k z))) args s 0 0 (hq_in B YM.length)) (F0 m 33 ls []) := by
  have hx := C.1.1
  have hb := C.1.2.1
  intro n
  induction n with
  | zero => intro v3 rv3 v4 rv4 H locs ls hw hs hl; exact hw.elim
  | succ n ih =>
    intro v3 rv3 v4 rv4 H locs ls hw hs hl
    unfold l_X12_areAlike_33 at hw
    refine lv_iload hx hb dX12_areAlike_33 (lv_at hl 4 rfl) ?_
    refine lv_aload_n hx hb dX12_areAlike_35 rfl (lv_at hl 0 rfl) ?_
    refine hq_getA (o := 0) C hs fX12_areAlike_20 tkM_0 (by decide) rfl dX12_areAlike_36 ?_
    refine lv_iload_n hx hb dX12_areAlike_39 rfl (lv_at hl 1 rfl) ?_
    obtain ⟨g1, hw⟩ := hw
    refine hq_iald (o := 2) C hs tkM_2 rv1 g1 dX12_areAlike_40 (fun g2 => ?_)
    refine hq_icmp_ge (tgt := 87) C rv4 g2 dX12_areAlike_41 (by decide) (fun h => ?_) (fun h => ?_)
    · have hw := hw.1 h
      refine lv_iload_n hx hb dX12_areAlike_87 rfl (lv_at hl 3 rfl) ?_
      exact hq_zret C hs rv3 ⟨rfl, hw⟩ dX12_areAlike_88
    · have hw := hw.2 h
      refine lv_iload_n hx hb dX12_areAlike_44 rfl (lv_at hl 3 rfl) ?_
      refine hq_if_eq (tgt := 87) C (rb_rg rv3) dX12_areAlike_45 (by decide) (fun h => ?_) (fun h => ?_)
      · have hw := hw.1 h
        refine lv_iload_n hx hb dX12_areAlike_87 rfl (lv_at hl 3 rfl) ?_
        exact hq_zret C hs rv3 ⟨rfl, hw⟩ dX12_areAlike_88
      · have hw := hw.2 h
        refine lv_aload_n hx hb dX12_areAlike_48 rfl (lv_at hl 0 rfl) ?_
        refine hq_getA (o := 0) C hs fX12_areAlike_26 tkM_0 (by decide) rfl dX12_areAlike_49 ?_
        refine hq_bipush C dX12_areAlike_52 (by decide) ?_
        refine lv_iload_n hx hb dX12_areAlike_54 rfl (lv_at hl 1 rfl) ?_
        obtain ⟨g3, hw⟩ := hw
        refine hq_imul C dX12_areAlike_55 ?_
        refine lv_iload hx hb dX12_areAlike_56 (lv_at hl 4 rfl) ?_
        obtain ⟨g4, hw⟩ := hw
        refine hq_iadd C dX12_areAlike_58 ?_
        obtain ⟨g5, hw⟩ := hw
        refine hq_iald (o := 4) C hs tkM_4 g4 g5 dX12_areAlike_59 (fun g6 => ?_)
        refine lv_aload_n hx hb dX12_areAlike_60 rfl (lv_at hl 0 rfl) ?_
        refine hq_getA (o := 0) C hs fX12_areAlike_26 tkM_0 (by decide) rfl dX12_areAlike_61 ?_
        refine hq_bipush C dX12_areAlike_64 (by decide) ?_
        refine lv_iload_n hx hb dX12_areAlike_66 rfl (lv_at hl 2 rfl) ?_
        obtain ⟨g7, hw⟩ := hw
        refine hq_imul C dX12_areAlike_67 ?_
        refine lv_iload hx hb dX12_areAlike_68 (lv_at hl 4 rfl) ?_
        obtain ⟨g8, hw⟩ := hw
        refine hq_iadd C dX12_areAlike_70 ?_
        obtain ⟨g9, hw⟩ := hw
        refine hq_iald (o := 4) C hs tkM_4 g8 g9 dX12_areAlike_71 (fun g10 => ?_)
        refine hq_icmp_ne (tgt := 79) C g6 g10 dX12_areAlike_72 (by decide) (fun h => ?_) (fun h => ?_)
        · have hw := hw.1 h
          refine hq_iconst C dX12_areAlike_79 ?_
          refine cb_X12_areAlike_80 v1 rv1 v2 rv2 v4 rv4 0 (by decide) C hw hs (lv_sub hl [0, 1, 2, 4] rfl) ?_
          · intro y3 ry3 y4 ry4 H locs ls hw hs hl
            exact ih y3 ry3 y4 ry4 _ _ _ hw hs (lv_sub hl [0, 1, 2, 3, 4] rfl)
        · have hw := hw.2 h
          refine hq_iconst C dX12_areAlike_75 ?_
          refine hq_goto (tgt := 80) C dX12_areAlike_76 (by decide) ?_
          refine cb_X12_areAlike_80 v1 rv1 v2 rv2 v4 rv4 1 (by decide) C hw hs (lv_sub hl [0, 1, 2, 4] rfl) ?_
          · intro y3 ry3 y4 ry4 H locs ls hw hs hl
            exact ih y3 ry3 y4 ry4 _ _ _ hw hs (lv_sub hl [0, 1, 2, 3, 4] rfl)
set_option maxHeartbeats 4000000 in
set_option maxRecDepth 100000 in
theorem cb_X12_areAlike_29 {p : Program} {l : Launch} {e : Env} {s : State} {m : MethodId} {args : Array Value} {below : List Frame} {meth : Method} {c : Code} {D : va_G} {cA : Nat → ClassId} {B : Nat} {Z : State → Prop} (v1 : Int) (rv1 : rg v1) (v2 : Int) (rv2 : rg v2) (t0 : Int) (rt0 : rb t0)  {k : Int → Prop} {M : hq_M} {H : Heap} {locs : List Loc} {ls : Array Slot} (C : hq_C vwCl p m c cX12_areAlike 5 s args wsX12_areAlike RX12 meth (some .boolean) D cA (hq_in B YM.length) Z)
    (hw : b_X12_areAlike_29 v1 v2 t0 k M) (hs : hq_S vwCl SLx D cA YM B s.heap M H locs) (hl : lv_has ls 5 [(0, .ref (B + 0)), (1, .int (w3 v1)), (2, .int (w3 v2))])
     : W p l e ({ frames := 1, cells := 0, slots := 0, locals := 24 } : Room) s m args below meth c H locs 0 0 (MQ below (hq_Q vwCl SLx D cA YM B (hq_qz (fun z M' => M' = M ∧ k z))) args s 0 0 (hq_in B YM.length)) (F0 m 29 ls [.int (w3 t0)]) := by
  have hx := C.1.1
  have hb := C.1.2.1
  unfold b_X12_areAlike_29 at hw
  refine lv_istore_n (lv' := [(3, .int (w3 t0)), (0, .ref (B + 0)), (1, .int (w3 v1)), (2, .int (w3 v2))]) hx hb dX12_areAlike_29 rfl hl (by decide) rfl (fun ls hl => ?_)
  refine hq_iconst C dX12_areAlike_30 ?_
  refine lv_istore (lv' := [(4, .int (w3 0)), (3, .int (w3 t0)), (0, .ref (B + 0)), (1, .int (w3 v1)), (2, .int (w3 v2))]) hx hb dX12_areAlike_31 hl (by decide) rfl (fun ls hl => ?_)
  obtain ⟨n9, hw⟩ := hw
  refine cl_X12_areAlike_33 v1 rv1 v2 rv2 C  n9 t0 rt0 0 (by decide : rg 0) _ _ _ hw hs (lv_sub hl [2, 3, 4, 1, 0] rfl)
set_option maxHeartbeats 4000000 in
set_option maxRecDepth 100000 in
theorem cb_X12_areAlike_28 {p : Program} {l : Launch} {e : Env} {s : State} {m : MethodId} {args : Array Value} {below : List Frame} {meth : Method} {c : Code} {D : va_G} {cA : Nat → ClassId} {B : Nat} {Z : State → Prop} (v1 : Int) (rv1 : rg v1) (v2 : Int) (rv2 : rg v2)  {k : Int → Prop} {M : hq_M} {H : Heap} {locs : List Loc} {ls : Array Slot} (C : hq_C vwCl p m c cX12_areAlike 5 s args wsX12_areAlike RX12 meth (some .boolean) D cA (hq_in B YM.length) Z)
    (hw : b_X12_areAlike_28 v1 v2 k M) (hs : hq_S vwCl SLx D cA YM B s.heap M H locs) (hl : lv_has ls 5 [(0, .ref (B + 0)), (1, .int (w3 v1)), (2, .int (w3 v2))])
     : W p l e ({ frames := 1, cells := 0, slots := 0, locals := 24 } : Room) s m args below meth c H locs 0 0 (MQ below (hq_Q vwCl SLx D cA YM B (hq_qz (fun z M' => M' = M ∧ k z))) args s 0 0 (hq_in B YM.length)) (F0 m 28 ls []) := by
  have hx := C.1.1
  have hb := C.1.2.1
  unfold b_X12_areAlike_28 at hw
  refine hq_iconst C dX12_areAlike_28 ?_
  refine cb_X12_areAlike_29 v1 rv1 v2 rv2 0 (by decide) C hw hs (lv_sub hl [0, 1, 2] rfl) 
set_option maxHeartbeats 4000000 in
set_option maxRecDepth 100000 in
theorem c_X12_areAlike (l : Launch) {D : va_G} {cA : Nat → ClassId} {B : Nat} {Z : State → Prop} (hZ : hq_Zo Z (hq_in B YM.length)) (v1 : Int) (rv1 : rg v1) (v2 : Int) (rv2 : rg v2) (M : hq_M) (k : Int → Prop) (hw : w_X12_areAlike v1 v2 M k) : hq_T vwCl SLx l yX12_areAlike wsX12_areAlike ({ frames := 1, cells := 0, slots := 0, locals := 24 } : Room) D cA YM B Z [.ref (B + 0), .int (w3 v1), .int (w3 v2)] M (hq_qz (fun z M' => M' = M ∧ k z)) := by
  refine hq_meth (cc := cX12_areAlike) (maxL := 5) (ret := (some .boolean)) (own := RX12) hZ rfl (by decide +kernel) rfl (Nat.le_of_ble_eq_true rfl) ?_
  intro p e s m below meth c ls C hs hl
  have hx := C.1.1
  have hb := C.1.2.1
  unfold w_X12_areAlike at hw
  have hl : lv_has ls 5 [(0, .ref (B + 0)), (1, .int (w3 v1)), (2, .int (w3 v2))] := hl
  refine lv_aload_n hx hb dX12_areAlike_0 rfl (lv_at hl 0 rfl) ?_
  refine lv_iload_n hx hb dX12_areAlike_1 rfl (lv_at hl 1 rfl) ?_
  refine lv_iload_n hx hb dX12_areAlike_2 rfl (lv_at hl 2 rfl) ?_
  refine hq_cV (n := 2) (ci := 12) (o := 0) (qc := (TX12, 57)) C hs (c_X12_areOfOneName l C.2.2.2.2.1 v1 rv1 v2 rv2 _ _ hw) gX12_areAlike_X12_areOfOneName rfl ⟨rfl, rfl⟩ (by decide +kernel) ⟨Nat.le_of_ble_eq_true rfl, Nat.le_of_ble_eq_true rfl⟩ tkM_0 (by decide) rfl rfl hl.1 rfl (Nat.le_of_ble_eq_true rfl) dX12_areAlike_3 (hq_kz (fun x1 M9 H locs rx1 hw hs => ?_))
  obtain ⟨e9, hw⟩ := hw; rw [e9] at hs
  refine hq_if_eq (tgt := 28) C (rb_rg rx1) dX12_areAlike_6 (by decide) (fun h => ?_) (fun h => ?_)
  · have hw := hw.1 h
    refine cb_X12_areAlike_28 v1 rv1 v2 rv2 C hw hs (lv_sub hl [0, 1, 2] rfl) 
  · have hw := hw.2 h
    refine lv_aload_n hx hb dX12_areAlike_9 rfl (lv_at hl 0 rfl) ?_
    refine hq_getA (o := 0) C hs fX12_areAlike_20 tkM_0 (by decide) rfl dX12_areAlike_10 ?_
    refine lv_iload_n hx hb dX12_areAlike_13 rfl (lv_at hl 1 rfl) ?_
    obtain ⟨g2, hw⟩ := hw
    refine hq_iald (o := 2) C hs tkM_2 rv1 g2 dX12_areAlike_14 (fun g3 => ?_)
    refine lv_aload_n hx hb dX12_areAlike_15 rfl (lv_at hl 0 rfl) ?_
    refine hq_getA (o := 0) C hs fX12_areAlike_20 tkM_0 (by decide) rfl dX12_areAlike_16 ?_
    refine lv_iload_n hx hb dX12_areAlike_19 rfl (lv_at hl 2 rfl) ?_
    obtain ⟨g4, hw⟩ := hw
    refine hq_iald (o := 2) C hs tkM_2 rv2 g4 dX12_areAlike_20 (fun g5 => ?_)
    refine hq_icmp_ne (tgt := 28) C g3 g5 dX12_areAlike_21 (by decide) (fun h => ?_) (fun h => ?_)
    · have hw := hw.1 h
      refine cb_X12_areAlike_28 v1 rv1 v2 rv2 C hw hs (lv_sub hl [0, 1, 2] rfl) 
    · have hw := hw.2 h
      refine hq_iconst C dX12_areAlike_24 ?_
      refine hq_goto (tgt := 29) C dX12_areAlike_25 (by decide) ?_
      refine cb_X12_areAlike_29 v1 rv1 v2 rv2 1 (by decide) C hw hs (lv_sub hl [0, 1, 2] rfl) 
