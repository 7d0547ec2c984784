theorem iX12_readsField_12 : ∀ w ∈ u_ws RX12 TX12 57, w ∈ wsX12_readsField := fun w h => List.mem_cons_of_mem _ (List.mem_append_right _ h)
set_option maxRecDepth 20000 in
theorem fX12_readsField_141 : hq_fl vwCl wsX12_readsField RX12 141 12 12 false .int := ⟨RX12, TX12, 57, tyX12, rfl, by decide, iX12_readsField_12, by decide +kernel, rfl, tyX12_ok 12 (by decide), tyX12_ok, nmX12⟩
set_option maxRecDepth 20000 in
theorem fX12_readsField_183 : hq_fl vwCl wsX12_readsField RX12 183 12 14 false .int := ⟨RX12, TX12, 57, tyX12, rfl, by decide, iX12_readsField_12, by decide +kernel, rfl, tyX12_ok 14 (by decide), tyX12_ok, nmX12⟩
set_option maxHeartbeats 4000000 in
set_option maxRecDepth 100000 in
theorem cl_X12_readsField_36 {p : Program} {l : Launch} {e : Env} {s : State} {m : MethodId} {args : Array Value} {below : List Frame} {meth : Method} {c : Code} {D : va_G} {cA : Nat → ClassId} {B : Nat} {Z : State → Prop}  {k_70 : hq_M → Prop} {k : Int → hq_M → Prop} (C : hq_C vwCl p m c cX12_readsField 2 s args wsX12_readsField RX12 meth (some .boolean) D cA (hq_in B YM.length) Z)
    (hk_70 : ∀ (M1 : hq_M) (H : Heap) (locs : List Loc) (ls : Array Slot), k_70 M1 → hq_S vwCl SLx D cA YM B s.heap M1 H locs → lv_has ls 2 [(0, .ref (B + 0))] → W p l e ({ frames := 5, cells := 0, slots := 0, locals := 110 } : Room) s m args below meth c H locs 0 0 (MQ below (hq_Q vwCl SLx D cA YM B (hq_qz k)) args s 0 0 (hq_in B YM.length)) (F0 m 70 ls [])) : ∀ (n : Nat) (v1 : Int) (rv1 : rg v1) (M : hq_M) (H : Heap) (locs : List Loc) (ls : Array Slot), l_X12_readsField_36 k_70 k n v1 M → hq_S vwCl SLx D cA YM B s.heap M H locs → lv_has ls 2 [(0, .ref (B + 0)), (1, .int (w3 v1))] → W p l e ({ frames := 5, cells := 0, slots := 0, locals := 110 } : Room) s m args below meth c H locs 0 0 (MQ below (hq_Q vwCl SLx D cA YM B (hq_qz k)) args s 0 0 (hq_in B YM.length)) (F0 m 36 ls []) := by
  have hx := C.1.1
  have hb := C.1.2.1
  intro n
  induction n with
  | zero => intro v1 rv1 M H locs ls hw hs hl; exact hw.elim
  | succ n ih =>
    intro v1 rv1 M H locs ls hw hs hl
    unfold l_X12_readsField_36 at hw
    refine lv_iload_n hx hb dX12_readsField_36 rfl (lv_at hl 1 rfl) ?_
    refine lv_aload_n hx hb dX12_readsField_37 rfl (lv_at hl 0 rfl) ?_
    refine hq_getI (o := 0) C hs fX12_readsField_183 tkM_0 (by decide) rfl dX12_readsField_38 (fun g1 => ?_)
    refine hq_icmp_ge (tgt := 70) C rv1 g1 dX12_readsField_41 (by decide) (fun h => ?_) (fun h => ?_)
    · have hw := hw.1 h
      exact hk_70 _ _ _ _ hw hs (lv_sub hl [0] rfl)
    · have hw := hw.2 h
      refine lv_aload_n hx hb dX12_readsField_44 rfl (lv_at hl 0 rfl) ?_
      refine hq_bipush C dX12_readsField_45 (by decide) ?_
      refine lv_iload_n hx hb dX12_readsField_47 rfl (lv_at hl 1 rfl) ?_
      obtain ⟨g2, hw⟩ := hw
      refine hq_iadd C dX12_readsField_48 ?_
      refine hq_bipush C dX12_readsField_49 (by decide) ?_
      refine lv_aload_n hx hb dX12_readsField_51 rfl (lv_at hl 0 rfl) ?_
      refine hq_getI (o := 0) C hs fX12_readsField_183 tkM_0 (by decide) rfl dX12_readsField_52 (fun g3 => ?_)
      obtain ⟨g4, hw⟩ := hw
      refine hq_iadd C dX12_readsField_55 ?_
      refine hq_cV (n := 2) (ci := 12) (o := 0) (qc := (TX12, 57)) C hs (c_X12_areAlike l C.2.2.2.2.1 (16 + v1) g2 (16 + (M 0 14)) g4 _ _ hw) gX12_readsField_X12_areAlike rfl ⟨rfl, rfl⟩ (by decide +kernel) ⟨Nat.le_of_ble_eq_true rfl, Nat.le_of_ble_eq_true rfl⟩ tkM_0 (by decide) rfl rfl hl.1 rfl (Nat.le_of_ble_eq_true rfl) dX12_readsField_56 (hq_kz (fun x5 M9 H locs rx5 hw hs => ?_))
      obtain ⟨e9, hw⟩ := hw; rw [e9] at hs
      refine hq_if_eq (tgt := 64) C (rb_rg rx5) dX12_readsField_59 (by decide) (fun h => ?_) (fun h => ?_)
      · have hw := hw.1 h
        obtain ⟨g7, hw⟩ := hw
        refine hq_iinc (k := 1) C dX12_readsField_64 hl rfl (by decide) (fun x6 ex6 ls hl => ?_)
        have hw := hw x6 ex6
        have rx6 : rg x6 := by rw [ex6]; exact g7
        have hl : lv_has ls 2 [(1, .int (w3 x6)), (0, .ref (B + 0))] := hl
        refine hq_goto (tgt := 36) C dX12_readsField_67 (by decide) ?_
        exact ih x6 rx6 _ _ _ _ hw hs (lv_sub hl [1, 0] rfl)
      · have hw := hw.2 h
        refine hq_iconst C dX12_readsField_62 ?_
        exact hq_zret C hs (by decide) hw dX12_readsField_63
set_option maxHeartbeats 4000000 in
set_option maxRecDepth 100000 in
theorem c_X12_readsField (l : Launch) {D : va_G} {cA : Nat → ClassId} {B : Nat} {Z : State → Prop} (hZ : hq_Zo Z (hq_in B YM.length))  (M : hq_M) (k : Int → hq_M → Prop) (hw : w_X12_readsField  M k) : hq_T vwCl SLx l yX12_readsField wsX12_readsField ({ frames := 5, cells := 0, slots := 0, locals := 110 } : Room) D cA YM B Z [.ref (B + 0)] M (hq_qz k) := by
  refine hq_meth (cc := cX12_readsField) (maxL := 2) (ret := (some .boolean)) (own := RX12) hZ rfl (by decide +kernel) rfl (Nat.le_of_ble_eq_true rfl) ?_
  intro p e s m below meth c ls C hs hl
  have hx := C.1.1
  have hb := C.1.2.1
  unfold w_X12_readsField at hw
  have hl : lv_has ls 2 [(0, .ref (B + 0))] := hl
  refine lv_aload_n hx hb dX12_readsField_0 rfl (lv_at hl 0 rfl) ?_
  refine hq_getI (o := 0) C hs fX12_readsField_183 tkM_0 (by decide) rfl dX12_readsField_1 (fun g1 => ?_)
  refine hq_bipush C dX12_readsField_4 (by decide) ?_
  refine hq_icmp_eq (tgt := 32) C g1 (by decide : rg 7) dX12_readsField_6 (by decide) (fun h => ?_) (fun h => ?_)
  · have hw := hw.1 h
    refine hq_iconst C dX12_readsField_32 ?_
    exact hq_zret C hs (by decide) hw dX12_readsField_33
  · have hw := hw.2 h
    refine lv_aload_n hx hb dX12_readsField_9 rfl (lv_at hl 0 rfl) ?_
    refine hq_bipush C dX12_readsField_10 (by decide) ?_
    refine lv_aload_n hx hb dX12_readsField_12 rfl (lv_at hl 0 rfl) ?_
    refine hq_getI (o := 0) C hs fX12_readsField_183 tkM_0 (by decide) rfl dX12_readsField_13 (fun g2 => ?_)
    obtain ⟨g3, hw⟩ := hw
    refine hq_iadd C dX12_readsField_16 ?_
    refine hq_cV (n := 1) (ci := 12) (o := 0) (qc := (TX12, 57)) C hs (c_X12_readsPair l C.2.2.2.2.1 (16 + (M 0 14)) g3 _ _ hw) gX12_readsField_X12_readsPair rfl ⟨rfl, rfl⟩ (by decide +kernel) ⟨Nat.le_of_ble_eq_true rfl, Nat.le_of_ble_eq_true rfl⟩ tkM_0 (by decide) rfl rfl hl.1 rfl (Nat.le_of_ble_eq_true rfl) dX12_readsField_17 (hq_kz (fun x5 M4 H locs rx5 hw hs => ?_))
    refine hq_if_eq (tgt := 32) C (rb_rg rx5) dX12_readsField_20 (by decide) (fun h => ?_) (fun h => ?_)
    · have hw := hw.1 h
      refine hq_iconst C dX12_readsField_32 ?_
      exact hq_zret C hs (by decide) hw dX12_readsField_33
    · have hw := hw.2 h
      refine lv_aload_n hx hb dX12_readsField_23 rfl (lv_at hl 0 rfl) ?_
      refine hq_getI (o := 0) C hs fX12_readsField_141 tkM_0 (by decide) rfl dX12_readsField_24 (fun g6 => ?_)
      refine hq_bipush C dX12_readsField_27 (by decide) ?_
      refine hq_icmp_eq (tgt := 34) C g6 (by decide : rg 59) dX12_readsField_29 (by decide) (fun h => ?_) (fun h => ?_)
      · have hw := hw.1 h
        refine hq_iconst C dX12_readsField_34 ?_
        refine lv_istore_n (lv' := [(1, .int (w3 0)), (0, .ref (B + 0))]) hx hb dX12_readsField_35 rfl hl (by decide) rfl (fun ls hl => ?_)
        obtain ⟨n9, hw⟩ := hw
        refine cl_X12_readsField_36  C ?_ n9 0 (by decide : rg 0) _ _ _ _ hw hs (lv_sub hl [1, 0] rfl)
        · intro M7 H locs ls hw hs hl
          refine lv_aload_n hx hb dX12_readsField_70 rfl (lv_at hl 0 rfl) ?_
          refine lv_dup hx hb dX12_readsField_71 rfl ?_
          refine hq_getI (o := 0) C hs fX12_readsField_183 tkM_0 (by decide) rfl dX12_readsField_72 (fun g8 => ?_)
          refine hq_iconst C dX12_readsField_75 ?_
          obtain ⟨g9, hw⟩ := hw
          refine hq_iadd C dX12_readsField_76 ?_
          refine hq_putI (o := 0) C hs fX12_readsField_183 tkM_0 (by decide) rfl g9 dX12_readsField_77 (fun M10 eM10 H locs hs => ?_)
          have hw := hw M10 eM10
          refine hq_iconst C dX12_readsField_80 ?_
          exact hq_zret C hs (by decide) hw dX12_readsField_81
      · have hw := hw.2 h
        refine hq_iconst C dX12_readsField_32 ?_
        exact hq_zret C hs (by decide) hw dX12_readsField_33
set_option maxRecDepth 20000 in
theorem kX12_readsItem_194 : Cond.constantLong RX12 194 499850046565 ∈ wsX12_readsItem := by decide +kernel
set_option maxRecDepth 20000 in
theorem kX12_readsItem_196 : Cond.constantLong RX12 196 27703773382796644 ∈ wsX12_readsItem := by decide +kernel
set_option maxRecDepth 20000 in
theorem kX12_readsItem_204 : Cond.constantLong RX12 204 495874305132 ∈ wsX12_readsItem := by decide +kernel
set_option maxRecDepth 20000 in
theorem kX12_readsItem_209 : Cond.constantLong RX12 209 439854918756 ∈ wsX12_readsItem := by decide +kernel
set_option maxHeartbeats 4000000 in
set_option maxRecDepth 100000 in
theorem cb_X12_readsItem_40 {p : Program} {l : Launch} {e : Env} {s : State} {m : MethodId} {args : Array Value} {below : List Frame} {meth : Method} {c : Code} {D : va_G} {cA : Nat → ClassId} {B : Nat} {Z : State → Prop} (t0 : Int) (rt0 : rb t0)  {k : Int → hq_M → Prop} {M : hq_M} {H : Heap} {locs : List Loc} {ls : Array Slot} (C : hq_C vwCl p m c cX12_readsItem 4 s args wsX12_readsItem RX12 meth (some .boolean) D cA (hq_in B YM.length) Z)
    (hw : b_X12_readsItem_40 t0 k M) (hs : hq_S vwCl SLx D cA YM B s.heap M H locs) (hl : lv_has ls 4 [(0, .ref (B + 0))])
     : W p l e ({ frames := 6, cells := 0, slots := 0, locals := 131 } : Room) s m args below meth c H locs 0 0 (MQ below (hq_Q vwCl SLx D cA YM B (hq_qz k)) args s 0 0 (hq_in B YM.length)) (F0 m 40 ls [.int (w3 t0)]) := by
  have hx := C.1.1
  have hb := C.1.2.1
  unfold b_X12_readsItem_40 at hw
  refine lv_istore_n (lv' := [(3, .int (w3 t0)), (0, .ref (B + 0))]) hx hb dX12_readsItem_40 rfl hl (by decide) rfl (fun ls hl => ?_)
  refine lv_iload_n hx hb dX12_readsItem_41 rfl (lv_at hl 0 rfl) ?_
  refine hq_if_eq (tgt := 49) C (rb_rg rt0) dX12_readsItem_42 (by decide) (fun h => ?_) (fun h => ?_)
  · have hw := hw.1 h
    refine lv_iload_n hx hb dX12_readsItem_49 rfl (lv_at hl 0 rfl) ?_
    exact hq_zret C hs rt0 hw dX12_readsItem_50
  · have hw := hw.2 h
    refine lv_aload_n hx hb dX12_readsItem_45 rfl (lv_at hl 1 rfl) ?_
    refine hq_cV (n := 0) (ci := 12) (o := 0) (qc := (TX12, 57)) C hs (c_X12_take l C.2.2.2.2.1 _ _ hw) gX12_readsItem_X12_take rfl ⟨rfl, rfl⟩ (by decide +kernel) ⟨Nat.le_of_ble_eq_true rfl, Nat.le_of_ble_eq_true rfl⟩ tkM_0 (by decide) rfl rfl hl.1 rfl (Nat.le_of_ble_eq_true rfl) dX12_readsItem_46 (hq_kv (fun M1 H locs hw hs => ?_))
    refine lv_iload_n hx hb dX12_readsItem_49 rfl (lv_at hl 0 rfl) ?_
    exact hq_zret C hs rt0 hw dX12_readsItem_50
set_option maxHeartbeats 4000000 in
set_option maxRecDepth 100000 in
theorem cb_X12_readsItem_21 {p : Program} {l : Launch} {e : Env} {s : State} {m : MethodId} {args : Array Value} {below : List Frame} {meth : Method} {c : Code} {D : va_G} {cA : Nat → ClassId} {B : Nat} {Z : State → Prop} (v1 : Int) (rv1 : rl v1)  {k : Int → hq_M → Prop} {M : hq_M} {H : Heap} {locs : List Loc} {ls : Array Slot} (C : hq_C vwCl p m c cX12_readsItem 4 s args wsX12_readsItem RX12 meth (some .boolean) D cA (hq_in B YM.length) Z)
    (hw : b_X12_readsItem_21 v1 k M) (hs : hq_S vwCl SLx D cA YM B s.heap M H locs) (hl : lv_has ls 4 [(0, .ref (B + 0)), (1, .long (w6 v1))])
     : W p l e ({ frames := 6, cells := 0, slots := 0, locals := 131 } : Room) s m args below meth c H locs 0 0 (MQ below (hq_Q vwCl SLx D cA YM B (hq_qz k)) args s 0 0 (hq_in B YM.length)) (F0 m 21 ls []) := by
  have hx := C.1.1
  have hb := C.1.2.1
  unfold b_X12_readsItem_21 at hw
  refine lv_lload_n hx hb dX12_readsItem_21 rfl (lv_at hl 1 rfl) ?_
  refine hq_ldc2 (z := 499850046565) C kX12_readsItem_194 (by decide) dX12_readsItem_22 ?_
  refine hq_lcmp_ne (tgt := 36) C rv1 (by decide : rl 499850046565) dX12_readsItem_25 dX12_readsItem_26 (by decide) (fun h => ?_) (fun h => ?_)
  · have hw := hw.1 h
    refine lv_aload_n hx hb dX12_readsItem_36 rfl (lv_at hl 0 rfl) ?_
    refine hq_cV (n := 0) (ci := 12) (o := 0) (qc := (TX12, 57)) C hs (c_X12_readsBound l C.2.2.2.2.1 _ _ hw) gX12_readsItem_X12_readsBound rfl ⟨rfl, rfl⟩ (by decide +kernel) ⟨Nat.le_of_ble_eq_true rfl, Nat.le_of_ble_eq_true rfl⟩ tkM_0 (by decide) rfl rfl hl.1 rfl (Nat.le_of_ble_eq_true rfl) dX12_readsItem_37 (hq_kz (fun x2 M1 H locs rx2 hw hs => ?_))
    refine cb_X12_readsItem_40 x2 rx2 C hw hs (lv_sub hl [0] rfl) 
  · have hw := hw.2 h
    refine lv_aload_n hx hb dX12_readsItem_29 rfl (lv_at hl 0 rfl) ?_
    refine hq_cV (n := 0) (ci := 12) (o := 0) (qc := (TX12, 57)) C hs (c_X12_readsMost l C.2.2.2.2.1 _ _ hw) gX12_readsItem_X12_readsMost rfl ⟨rfl, rfl⟩ (by decide +kernel) ⟨Nat.le_of_ble_eq_true rfl, Nat.le_of_ble_eq_true rfl⟩ tkM_0 (by decide) rfl rfl hl.1 rfl (Nat.le_of_ble_eq_true rfl) dX12_readsItem_30 (hq_kz (fun x4 M3 H locs rx4 hw hs => ?_))
    refine hq_goto (tgt := 40) C dX12_readsItem_33 (by decide) ?_
    refine cb_X12_readsItem_40 x4 rx4 C hw hs (lv_sub hl [0] rfl) 
set_option maxHeartbeats 4000000 in
set_option maxRecDepth 100000 in
theorem c_X12_readsItem (l : Launch) {D : va_G} {cA : Nat → ClassId} {B : Nat} {Z : State → Prop} (hZ : hq_Zo Z (hq_in B YM.length))  (M : hq_M) (k : Int → hq_M → Prop) (hw : w_X12_readsItem  M k) : hq_T vwCl SLx l yX12_readsItem wsX12_readsItem ({ frames := 6, cells := 0, slots := 0, locals := 131 } : Room) D cA YM B Z [.ref (B + 0)] M (hq_qz k) := by
  refine hq_meth (cc := cX12_readsItem) (maxL := 4) (ret := (some .boolean)) (own := RX12) hZ rfl (by decide +kernel) rfl (Nat.le_of_ble_eq_true rfl) ?_
  intro p e s m below meth c ls C hs hl
  have hx := C.1.1
  have hb := C.1.2.1
  unfold w_X12_readsItem at hw
  have hl : lv_has ls 4 [(0, .ref (B + 0))] := hl
  refine lv_aload_n hx hb dX12_readsItem_0 rfl (lv_at hl 0 rfl) ?_
  refine hq_cV (n := 0) (ci := 12) (o := 0) (qc := (TX12, 57)) C hs (c_X12_word l C.2.2.2.2.1 _ _ hw) gX12_readsItem_X12_word rfl ⟨rfl, rfl⟩ (by decide +kernel) ⟨Nat.le_of_ble_eq_true rfl, Nat.le_of_ble_eq_true rfl⟩ tkM_0 (by decide) rfl rfl hl.1 rfl (Nat.le_of_ble_eq_true rfl) dX12_readsItem_1 (hq_kl (fun x1 M9 H locs rx1 hw hs => ?_))
  obtain ⟨e9, hw⟩ := hw; rw [e9] at hs
  refine lv_lstore_n (lv' := [(1, .long (w6 x1)), (0, .ref (B + 0))]) hx hb dX12_readsItem_4 rfl hl (by decide) rfl (fun ls hl => ?_)
  refine lv_lload_n hx hb dX12_readsItem_5 rfl (lv_at hl 0 rfl) ?_
  refine hq_ldc2 (z := 499850046565) C kX12_readsItem_194 (by decide) dX12_readsItem_6 ?_
  refine hq_lcmp_eq (tgt := 21) C rx1 (by decide : rl 499850046565) dX12_readsItem_9 dX12_readsItem_10 (by decide) (fun h => ?_) (fun h => ?_)
  · have hw := hw.1 h
    refine cb_X12_readsItem_21 x1 rx1 C hw hs (lv_sub hl [1, 0] rfl) 
  · have hw := hw.2 h
    refine lv_lload_n hx hb dX12_readsItem_13 rfl (lv_at hl 0 rfl) ?_
    refine hq_ldc2 (z := 27703773382796644) C kX12_readsItem_196 (by decide) dX12_readsItem_14 ?_
    refine hq_lcmp_ne (tgt := 51) C rx1 (by decide : rl 27703773382796644) dX12_readsItem_17 dX12_readsItem_18 (by decide) (fun h => ?_) (fun h => ?_)
    · have hw := hw.1 h
      refine lv_lload_n hx hb dX12_readsItem_51 rfl (lv_at hl 0 rfl) ?_
      refine hq_ldc2 (z := 495874305132) C kX12_readsItem_204 (by decide) dX12_readsItem_52 ?_
      refine hq_lcmp_ne (tgt := 66) C rx1 (by decide : rl 495874305132) dX12_readsItem_55 dX12_readsItem_56 (by decide) (fun h => ?_) (fun h => ?_)
      · have hw := hw.1 h
        refine lv_lload_n hx hb dX12_readsItem_66 rfl (lv_at hl 0 rfl) ?_
        refine hq_ldc2 (z := 439854918756) C kX12_readsItem_209 (by decide) dX12_readsItem_67 ?_
        refine hq_lcmp_ne (tgt := 85) C rx1 (by decide : rl 439854918756) dX12_readsItem_70 dX12_readsItem_71 (by decide) (fun h => ?_) (fun h => ?_)
        · have hw := hw.1 h
          refine hq_iconst C dX12_readsItem_85 ?_
          exact hq_zret C hs (by decide) hw dX12_readsItem_86
        · have hw := hw.2 h
          refine lv_aload_n hx hb dX12_readsItem_74 rfl (lv_at hl 1 rfl) ?_
          refine hq_cV (n := 0) (ci := 12) (o := 0) (qc := (TX12, 57)) C hs (c_X12_readsField l C.2.2.2.2.1 _ _ hw) gX12_readsItem_X12_readsField rfl ⟨rfl, rfl⟩ (by decide +kernel) ⟨Nat.le_of_ble_eq_true rfl, Nat.le_of_ble_eq_true rfl⟩ tkM_0 (by decide) rfl rfl hl.1 rfl (Nat.le_of_ble_eq_true rfl) dX12_readsItem_75 (hq_kz (fun x3 M2 H locs rx3 hw hs => ?_))
          refine hq_if_eq (tgt := 85) C (rb_rg rx3) dX12_readsItem_78 (by decide) (fun h => ?_) (fun h => ?_)
          · have hw := hw.1 h
            refine hq_iconst C dX12_readsItem_85 ?_
            exact hq_zret C hs (by decide) hw dX12_readsItem_86
          · have hw := hw.2 h
            refine hq_iconst C dX12_readsItem_81 ?_
            refine hq_goto (tgt := 86) C dX12_readsItem_82 (by decide) ?_
            exact hq_zret C hs (by decide) hw dX12_readsItem_86
      · have hw := hw.2 h
        refine lv_aload_n hx hb dX12_readsItem_59 rfl (lv_at hl 1 rfl) ?_
        refine hq_cV (n := 0) (ci := 12) (o := 0) (qc := (TX12, 57)) C hs (c_X12_readsStill l C.2.2.2.2.1 _ _ hw) gX12_readsItem_X12_readsStill rfl ⟨rfl, rfl⟩ (by decide +kernel) ⟨Nat.le_of_ble_eq_true rfl, Nat.le_of_ble_eq_true rfl⟩ tkM_0 (by decide) rfl rfl hl.1 rfl (Nat.le_of_ble_eq_true rfl) dX12_readsItem_60 (hq_kz (fun x5 M4 H locs rx5 hw hs => ?_))
        refine hq_goto (tgt := 86) C dX12_readsItem_63 (by decide) ?_
        exact hq_zret C hs rx5 hw dX12_readsItem_86
    · have hw := hw.2 h
      refine cb_X12_readsItem_21 x1 rx1 C hw hs (lv_sub hl [1, 0] rfl) 
theorem iX12_reads_12 : ∀ w ∈ u_ws RX12 TX12 57, w ∈ wsX12_reads := fun w h => List.mem_cons_of_mem _ (List.mem_append_right _ h)
set_option maxRecDepth 20000 in
theorem fX12_reads_132 : hq_fl vwCl wsX12_reads RX12 132 12 10 false .int := ⟨RX12, TX12, 57, tyX12, rfl, by decide, iX12_reads_12, by decide +kernel, rfl, tyX12_ok 10 (by decide), tyX12_ok, nmX12⟩
set_option maxRecDepth 20000 in
theorem fX12_reads_141 : hq_fl vwCl wsX12_reads RX12 141 12 12 false .int := ⟨RX12, TX12, 57, tyX12, rfl, by decide, iX12_reads_12, by decide +kernel, rfl, tyX12_ok 12 (by decide), tyX12_ok, nmX12⟩
set_option maxRecDepth 20000 in
theorem fX12_reads_156 : hq_fl vwCl wsX12_reads RX12 156 12 16 false .int := ⟨RX12, TX12, 57, tyX12, rfl, by decide, iX12_reads_12, by decide +kernel, rfl, tyX12_ok 16 (by decide), tyX12_ok, nmX12⟩
set_option maxRecDepth 20000 in
theorem fX12_reads_165 : hq_fl vwCl wsX12_reads RX12 165 12 17 false .int := ⟨RX12, TX12, 57, tyX12, rfl, by decide, iX12_reads_12, by decide +kernel, rfl, tyX12_ok 17 (by decide), tyX12_ok, nmX12⟩
set_option maxRecDepth 20000 in
theorem fX12_reads_177 : hq_fl vwCl wsX12_reads RX12 177 12 15 false .int := ⟨RX12, TX12, 57, tyX12, rfl, by decide, iX12_reads_12, by decide +kernel, rfl, tyX12_ok 15 (by decide), tyX12_ok, nmX12⟩
set_option maxRecDepth 20000 in
theorem fX12_reads_183 : hq_fl vwCl wsX12_reads RX12 183 12 14 false .int := ⟨RX12, TX12, 57, tyX12, rfl, by decide, iX12_reads_12, by decide +kernel, rfl, tyX12_ok 14 (by decide), tyX12_ok, nmX12⟩
set_option maxRecDepth 20000 in
theorem fX12_reads_214 : hq_fl vwCl wsX12_reads RX12 214 12 13 false .int := ⟨RX12, TX12, 57, tyX12, rfl, by decide, iX12_reads_12, by decide +kernel, rfl, tyX12_ok 13 (by decide), tyX12_ok, nmX12⟩
set_option maxHeartbeats 4000000 in
set_option maxRecDepth 100000 in
theorem cl_X12_reads_36 {p : Program} {l : Launch} {e : Env} {s : State} {m : MethodId} {args : Array Value} {below : List Frame} {meth : Method} {c : Code} {D : va_G} {cA : Nat → ClassId} {B : Nat} {Z : State → Prop}   {k : Int → hq_M → Prop} (C : hq_C vwCl p m c cX12_reads 1 s args wsX12_reads RX12 meth (some .boolean) D cA (hq_in B YM.length) Z)
     : ∀ (n : Nat) (M : hq_M) (H : Heap) (locs : List Loc) (ls : Array Slot), l_X12_reads_36 k n M → hq_S vwCl SLx D cA YM B s.heap M H locs → lv_has ls 1 [(0, .ref (B + 0))] → W p l e ({ frames := 7, cells := 0, slots := 0, locals := 154 } : Room) s m args below meth c H locs 0 0 (MQ below (hq_Q vwCl SLx D cA YM B (hq_qz k)) args s 0 0 (hq_in B YM.length)) (F0 m 36 ls []) := by
  have hx := C.1.1
  have hb := C.1.2.1
  intro n
  induction n with
  | zero => intro M H locs ls hw hs hl; exact hw.elim
  | succ n ih =>
    intro M H locs ls hw hs hl
    unfold l_X12_reads_36 at hw
    refine lv_aload_n hx hb dX12_reads_36 rfl (lv_at hl 0 rfl) ?_
    refine hq_getI (o := 0) C hs fX12_reads_141 tkM_0 (by decide) rfl dX12_reads_37 (fun g1 => ?_)
    refine hq_iconst C dX12_reads_40 ?_
    refine hq_icmp_eq (tgt := 75) C g1 (by decide : rg (-1)) dX12_reads_41 (by decide) (fun h => ?_) (fun h => ?_)
    · have hw := hw.1 h
      refine hq_iconst C dX12_reads_75 ?_
      exact hq_zret C hs (by decide) hw dX12_reads_76
    · have hw := hw.2 h
      refine lv_aload_n hx hb dX12_reads_44 rfl (lv_at hl 0 rfl) ?_
      refine hq_cV (n := 0) (ci := 12) (o := 0) (qc := (TX12, 57)) C hs (c_X12_readsItem l C.2.2.2.2.1 _ _ hw) gX12_reads_X12_readsItem rfl ⟨rfl, rfl⟩ (by decide +kernel) ⟨Nat.le_of_ble_eq_true rfl, Nat.le_of_ble_eq_true rfl⟩ tkM_0 (by decide) rfl rfl hl.1 rfl (Nat.le_of_ble_eq_true rfl) dX12_reads_45 (hq_kz (fun x3 M2 H locs rx3 hw hs => ?_))
      refine hq_if_eq (tgt := 60) C (rb_rg rx3) dX12_reads_48 (by decide) (fun h => ?_) (fun h => ?_)
      · have hw := hw.1 h
        refine hq_iconst C dX12_reads_60 ?_
        exact hq_zret C hs (by decide) hw dX12_reads_61
      · have hw := hw.2 h
        refine lv_aload_n hx hb dX12_reads_51 rfl (lv_at hl 0 rfl) ?_
        refine hq_bipush C dX12_reads_52 (by decide) ?_
        refine hq_cV (n := 1) (ci := 12) (o := 0) (qc := (TX12, 57)) C hs (c_X12_readsSign l C.2.2.2.2.1 59 (by decide : rg 59) _ _ hw) gX12_reads_X12_readsSign rfl ⟨rfl, rfl⟩ (by decide +kernel) ⟨Nat.le_of_ble_eq_true rfl, Nat.le_of_ble_eq_true rfl⟩ tkM_0 (by decide) rfl rfl hl.1 rfl (Nat.le_of_ble_eq_true rfl) dX12_reads_54 (hq_kz (fun x5 M4 H locs rx5 hw hs => ?_))
        refine hq_if_ne (tgt := 62) C (rb_rg rx5) dX12_reads_57 (by decide) (fun h => ?_) (fun h => ?_)
        · have hw := hw.1 h
          refine lv_aload_n hx hb dX12_reads_62 rfl (lv_at hl 0 rfl) ?_
          refine lv_dup hx hb dX12_reads_63 rfl ?_
          refine hq_getI (o := 0) C hs fX12_reads_214 tkM_0 (by decide) rfl dX12_reads_64 (fun g6 => ?_)
          refine hq_iconst C dX12_reads_67 ?_
          obtain ⟨g7, hw⟩ := hw
          refine hq_iadd C dX12_reads_68 ?_
          refine hq_putI (o := 0) C hs fX12_reads_214 tkM_0 (by decide) rfl g7 dX12_reads_69 (fun M8 eM8 H locs hs => ?_)
          have hw := hw M8 eM8
          refine hq_goto (tgt := 36) C dX12_reads_72 (by decide) ?_
          exact ih _ _ _ _ hw hs (lv_sub hl [0] rfl)
        · have hw := hw.2 h
          refine hq_iconst C dX12_reads_60 ?_
          exact hq_zret C hs (by decide) hw dX12_reads_61
set_option maxHeartbeats 4000000 in
set_option maxRecDepth 100000 in
theorem c_X12_reads (l : Launch) {D : va_G} {cA : Nat → ClassId} {B : Nat} {Z : State → Prop} (hZ : hq_Zo Z (hq_in B YM.length))  (M : hq_M) (k : Int → hq_M → Prop) (hw : w_X12_reads  M k) : hq_T vwCl SLx l yX12_reads wsX12_reads ({ frames := 7, cells := 0, slots := 0, locals := 154 } : Room) D cA YM B Z [.ref (B + 0)] M (hq_qz k) := by
  refine hq_meth (cc := cX12_reads) (maxL := 1) (ret := (some .boolean)) (own := RX12) hZ rfl (by decide +kernel) rfl (Nat.le_of_ble_eq_true rfl) ?_
  intro p e s m below meth c ls C hs hl
  have hx := C.1.1
  have hb := C.1.2.1
  unfold w_X12_reads at hw
  have hl : lv_has ls 1 [(0, .ref (B + 0))] := hl
  refine lv_aload_n hx hb dX12_reads_0 rfl (lv_at hl 0 rfl) ?_
  refine hq_iconst C dX12_reads_1 ?_
  refine hq_putI (o := 0) C hs fX12_reads_132 tkM_0 (by decide) rfl (by decide : rg 0) dX12_reads_2 (fun M1 eM1 H locs hs => ?_)
  have hw := hw M1 eM1
  refine lv_aload_n hx hb dX12_reads_5 rfl (lv_at hl 0 rfl) ?_
  refine hq_iconst C dX12_reads_6 ?_
  refine hq_putI (o := 0) C hs fX12_reads_214 tkM_0 (by decide) rfl (by decide : rg 0) dX12_reads_7 (fun M2 eM2 H locs hs => ?_)
  have hw := hw M2 eM2
  refine lv_aload_n hx hb dX12_reads_10 rfl (lv_at hl 0 rfl) ?_
  refine hq_iconst C dX12_reads_11 ?_
  refine hq_putI (o := 0) C hs fX12_reads_183 tkM_0 (by decide) rfl (by decide : rg 0) dX12_reads_12 (fun M3 eM3 H locs hs => ?_)
  have hw := hw M3 eM3
  refine lv_aload_n hx hb dX12_reads_15 rfl (lv_at hl 0 rfl) ?_
  refine hq_iconst C dX12_reads_16 ?_
  refine hq_putI (o := 0) C hs fX12_reads_177 tkM_0 (by decide) rfl (by decide : rg 0) dX12_reads_17 (fun M4 eM4 H locs hs => ?_)
  have hw := hw M4 eM4
  refine lv_aload_n hx hb dX12_reads_20 rfl (lv_at hl 0 rfl) ?_
  refine hq_bipush C dX12_reads_21 (by decide) ?_
  refine hq_putI (o := 0) C hs fX12_reads_156 tkM_0 (by decide) rfl (by decide : rg (-9)) dX12_reads_23 (fun M5 eM5 H locs hs => ?_)
  have hw := hw M5 eM5
  refine lv_aload_n hx hb dX12_reads_26 rfl (lv_at hl 0 rfl) ?_
  refine hq_bipush C dX12_reads_27 (by decide) ?_
  refine hq_putI (o := 0) C hs fX12_reads_165 tkM_0 (by decide) rfl (by decide : rg (-9)) dX12_reads_29 (fun M6 eM6 H locs hs => ?_)
  have hw := hw M6 eM6
  refine lv_aload_n hx hb dX12_reads_32 rfl (lv_at hl 0 rfl) ?_
  refine hq_cV (n := 0) (ci := 12) (o := 0) (qc := (TX12, 57)) C hs (c_X12_take l C.2.2.2.2.1 _ _ hw) gX12_reads_X12_take rfl ⟨rfl, rfl⟩ (by decide +kernel) ⟨Nat.le_of_ble_eq_true rfl, Nat.le_of_ble_eq_true rfl⟩ tkM_0 (by decide) rfl rfl hl.1 rfl (Nat.le_of_ble_eq_true rfl) dX12_reads_33 (hq_kv (fun M7 H locs hw hs => ?_))
  obtain ⟨n9, hw⟩ := hw
  refine cl_X12_reads_36  C  n9 _ _ _ _ hw hs (lv_sub hl [0] rfl)
theorem iX12_sizeOf_12 : ∀ w ∈ u_ws RX12 TX12 57, w ∈ wsX12_sizeOf := fun w h => List.mem_cons_of_mem _ (List.mem_append_right _ h)
set_option maxRecDepth 20000 in
theorem fX12_sizeOf_16 : hq_fl vwCl wsX12_sizeOf RX12 16 12 4 true (.array .int) := ⟨RX12, TX12, 57, tyX12, rfl, by decide, iX12_sizeOf_12, by decide +kernel, rfl, tyX12_ok 4 (by decide), tyX12_ok, nmX12⟩
set_option maxRecDepth 20000 in
theorem fX12_sizeOf_20 : hq_fl vwCl wsX12_sizeOf RX12 20 12 5 true (.array .int) := ⟨RX12, TX12, 57, tyX12, rfl, by decide, iX12_sizeOf_12, by decide +kernel, rfl, tyX12_ok 5 (by decide), tyX12_ok, nmX12⟩
set_option maxHeartbeats 4000000 in
set_option maxRecDepth 100000 in
theorem c_X12_sizeOf (l : Launch) {D : va_G} {cA : Nat → ClassId} {B : Nat} {Z : State → Prop} (hZ : hq_Zo Z (hq_in B YM.length)) (v1 : Int) (rv1 : rg v1) (M : hq_M) (k : Int → Prop) (hw : w_X12_sizeOf v1 M k) : hq_T vwCl SLx l yX12_sizeOf wsX12_sizeOf ({ frames := 0, cells := 0, slots := 0, locals := 0 } : Room) D cA YM B Z [.ref (B + 0), .int (w3 v1)] M (hq_qi (fun z M' => M' = M ∧ k z)) := by
  refine hq_meth (cc := cX12_sizeOf) (maxL := 2) (ret := (some .int)) (own := RX12) hZ rfl (by decide +kernel) rfl (Nat.le_of_ble_eq_true rfl) ?_
  intro p e s m below meth c ls C hs hl
  have hx := C.1.1
  have hb := C.1.2.1
  unfold w_X12_sizeOf at hw
  have hl : lv_has ls 2 [(0, .ref (B + 0)), (1, .int (w3 v1))] := hl
  refine lv_aload_n hx hb dX12_sizeOf_0 rfl (lv_at hl 0 rfl) ?_
  refine hq_getA (o := 0) C hs fX12_sizeOf_16 tkM_0 (by decide) rfl dX12_sizeOf_1 ?_
  refine lv_iload_n hx hb dX12_sizeOf_4 rfl (lv_at hl 1 rfl) ?_
  obtain ⟨g1, hw⟩ := hw
  refine hq_iald (o := 1) C hs tkM_1 rv1 g1 dX12_sizeOf_5 (fun g2 => ?_)
  refine lv_aload_n hx hb dX12_sizeOf_6 rfl (lv_at hl 0 rfl) ?_
  refine hq_getA (o := 0) C hs fX12_sizeOf_20 tkM_0 (by decide) rfl dX12_sizeOf_7 ?_
  refine lv_iload_n hx hb dX12_sizeOf_10 rfl (lv_at hl 1 rfl) ?_
  obtain ⟨g3, hw⟩ := hw
  refine hq_iald (o := 2) C hs tkM_2 rv1 g3 dX12_sizeOf_11 (fun g4 => ?_)
  obtain ⟨g5, hw⟩ := hw
  refine hq_iadd C dX12_sizeOf_12 ?_
  refine hq_iconst C dX12_sizeOf_13 ?_
  obtain ⟨g6, hw⟩ := hw
  refine hq_iadd C dX12_sizeOf_14 ?_
  exact hq_iret C hs g6 ⟨rfl, hw⟩ dX12_sizeOf_15
theorem iX12_stillOf_12 : ∀ w ∈ u_ws RX12 TX12 57, w ∈ wsX12_stillOf := fun w h => List.mem_cons_of_mem _ (List.mem_append_right _ h)
set_option maxRecDepth 20000 in
theorem fX12_stillOf_223 : hq_fl vwCl wsX12_stillOf RX12 223 12 1 false .int := ⟨RX12, TX12, 57, tyX12, rfl, by decide, iX12_stillOf_12, by decide +kernel, rfl, tyX12_ok 1 (by decide), tyX12_ok, nmX12⟩
set_option maxHeartbeats 4000000 in
set_option maxRecDepth 100000 in
theorem cb_X12_stillOf_43 {p : Program} {l : Launch} {e : Env} {s : State} {m : MethodId} {args : Array Value} {below : List Frame} {meth : Method} {c : Code} {D : va_G} {cA : Nat → ClassId} {B : Nat} {Z : State → Prop} (v1 : Int) (rv1 : rg v1) (v2 : Int) (rv2 : rb v2) (v3 : Int) (rv3 : rg v3) {k_2 : Int → Prop} {k : Int → Prop} {M : hq_M} {H : Heap} {locs : List Loc} {ls : Array Slot} (C : hq_C vwCl p m c cX12_stillOf 4 s args wsX12_stillOf RX12 meth (some .int) D cA (hq_in B YM.length) Z)
    (hw : b_X12_stillOf_43 v1 v2 v3 k_2 k M) (hs : hq_S vwCl SLx D cA YM B s.heap M H locs) (hl : lv_has ls 4 [(0, .ref (B + 0)), (1, .int (w3 v1)), (2, .int (w3 v2)), (3, .int (w3 v3))])
    (hk_2 : ∀ (y3 : Int) (ry3 : rg y3) (H : Heap) (locs : List Loc) (ls : Array Slot), k_2 y3 → hq_S vwCl SLx D cA YM B s.heap M H locs → lv_has ls 4 [(0, .ref (B + 0)), (1, .int (w3 v1)), (2, .int (w3 v2)), (3, .int (w3 y3))] → W p l e ({ frames := 2, cells := 0, slots := 0, locals := 48 } : Room) s m args below meth c H locs 0 0 (MQ below (hq_Q vwCl SLx D cA YM B (hq_qi (fun z M' => M' = M ∧ k z))) args s 0 0 (hq_in B YM.length)) (F0 m 2 ls [])) : W p l e ({ frames := 2, cells := 0, slots := 0, locals := 48 } : Room) s m args below meth c H locs 0 0 (MQ below (hq_Q vwCl SLx D cA YM B (hq_qi (fun z M' => M' = M ∧ k z))) args s 0 0 (hq_in B YM.length)) (F0 m 43 ls []) := by
  have hx := C.1.1
  have hb := C.1.2.1
  unfold b_X12_stillOf_43 at hw
  obtain ⟨g2, hw⟩ := hw
  refine hq_iinc (k := 3) C dX12_stillOf_43 hl rfl (by decide) (fun x1 ex1 ls hl => ?_)
  have hw := hw x1 ex1
  have rx1 : rg x1 := by rw [ex1]; exact g2
  have hl : lv_has ls 4 [(3, .int (w3 x1)), (0, .ref (B + 0)), (1, .int (w3 v1)), (2, .int (w3 v2))] := hl
  refine hq_goto (tgt := 2) C dX12_stillOf_46 (by decide) ?_
  exact hk_2 x1 rx1 _ _ _ hw hs (lv_sub hl [1, 2, 3, 0] rfl)
set_option maxHeartbeats 4000000 in
set_option maxRecDepth 100000 in
theorem cl_X12_stillOf_2 {p : Program} {l : Launch} {e : Env} {s : State} {m : MethodId} {args : Array Value} {below : List Frame} {meth : Method} {c : Code} {D : va_G} {cA : Nat → ClassId} {B : Nat} {Z : State → Prop} (v1 : Int) (rv1 : rg v1) (v2 : Int) (rv2 : rb v2)  {k : Int → Prop} {M : hq_M} (C : hq_C vwCl p m c cX12_stillOf 4 s args wsX12_stillOf RX12 meth (some .int) D cA (hq_in B YM.length) Z)
     : ∀ (n : Nat) (v3 : Int) (rv3 : rg v3) (H : Heap) (locs : List Loc) (ls : Array Slot), l_X12_stillOf_2 v1 v2 k M n v3 → hq_S vwCl SLx D cA YM B s.heap M H locs → lv_has ls 4 [(0, .ref (B + 0)), (1, .int (w3 v1)), (2, .int (w3 v2)), (3, .int (w3 v3))] → W p l e ({ frames := 2, cells := 0, slots := 0, locals := 48 } : Room) s m args below meth c H locs 0 0 (MQ below (hq_Q vwCl SLx D cA YM B (hq_qi (fun z M' => M' = M ∧ k z))) args s 0 0 (hq_in B YM.length)) (F0 m 2 ls []) := by
  have hx := C.1.1
  have hb := C.1.2.1
  intro n
  induction n with
  | zero => intro v3 rv3 H locs ls hw hs hl; exact hw.elim
  | succ n ih =>
    intro v3 rv3 H locs ls hw hs hl
    unfold l_X12_stillOf_2 at hw
    refine lv_iload_n hx hb dX12_stillOf_2 rfl (lv_at hl 3 rfl) ?_
    refine lv_aload_n hx hb dX12_stillOf_3 rfl (lv_at hl 0 rfl) ?_
    refine hq_getI (o := 0) C hs fX12_stillOf_223 tkM_0 (by decide) rfl dX12_stillOf_4 (fun g1 => ?_)
    refine hq_icmp_ge (tgt := 49) C rv3 g1 dX12_stillOf_7 (by decide) (fun h => ?_) (fun h => ?_)
    · have hw := hw.1 h
      refine hq_bipush C dX12_stillOf_49 (by decide) ?_
      exact hq_iret C hs (by decide : rg (-9)) ⟨rfl, hw⟩ dX12_stillOf_51
    · have hw := hw.2 h
      refine lv_iload_n hx hb dX12_stillOf_10 rfl (lv_at hl 2 rfl) ?_
      refine hq_if_eq (tgt := 29) C (rb_rg rv2) dX12_stillOf_11 (by decide) (fun h => ?_) (fun h => ?_)
      · have hw := hw.1 h
        refine lv_aload_n hx hb dX12_stillOf_29 rfl (lv_at hl 0 rfl) ?_
        refine hq_bipush C dX12_stillOf_30 (by decide) ?_
        refine lv_iload_n hx hb dX12_stillOf_32 rfl (lv_at hl 3 rfl) ?_
        obtain ⟨g2, hw⟩ := hw
        refine hq_iadd C dX12_stillOf_33 ?_
        refine lv_iload_n hx hb dX12_stillOf_34 rfl (lv_at hl 1 rfl) ?_
        refine hq_cV (n := 2) (ci := 12) (o := 0) (qc := (TX12, 57)) C hs (c_X12_areOfOneName l C.2.2.2.2.1 (8 + v3) g2 v1 rv1 _ _ hw) gX12_stillOf_X12_areOfOneName rfl ⟨rfl, rfl⟩ (by decide +kernel) ⟨Nat.le_of_ble_eq_true rfl, Nat.le_of_ble_eq_true rfl⟩ tkM_0 (by decide) rfl rfl hl.1 rfl (Nat.le_of_ble_eq_true rfl) dX12_stillOf_35 (hq_kz (fun x3 M9 H locs rx3 hw hs => ?_))
        obtain ⟨e9, hw⟩ := hw; rw [e9] at hs
        refine hq_if_eq (tgt := 43) C (rb_rg rx3) dX12_stillOf_38 (by decide) (fun h => ?_) (fun h => ?_)
        · have hw := hw.1 h
          refine cb_X12_stillOf_43 v1 rv1 v2 rv2 v3 rv3 C hw hs (lv_sub hl [0, 1, 2, 3] rfl) ?_
          · intro y3 ry3 H locs ls hw hs hl
            exact ih y3 ry3 _ _ _ hw hs (lv_sub hl [0, 1, 2, 3] rfl)
        · have hw := hw.2 h
          refine lv_iload_n hx hb dX12_stillOf_41 rfl (lv_at hl 3 rfl) ?_
          exact hq_iret C hs rv3 ⟨rfl, hw⟩ dX12_stillOf_42
      · have hw := hw.2 h
        refine lv_aload_n hx hb dX12_stillOf_14 rfl (lv_at hl 0 rfl) ?_
        refine hq_bipush C dX12_stillOf_15 (by decide) ?_
        refine lv_iload_n hx hb dX12_stillOf_17 rfl (lv_at hl 3 rfl) ?_
        obtain ⟨g4, hw⟩ := hw
        refine hq_iadd C dX12_stillOf_18 ?_
        refine lv_iload_n hx hb dX12_stillOf_19 rfl (lv_at hl 1 rfl) ?_
        refine hq_cV (n := 2) (ci := 12) (o := 0) (qc := (TX12, 57)) C hs (c_X12_areAlike l C.2.2.2.2.1 (8 + v3) g4 v1 rv1 _ _ hw) gX12_stillOf_X12_areAlike rfl ⟨rfl, rfl⟩ (by decide +kernel) ⟨Nat.le_of_ble_eq_true rfl, Nat.le_of_ble_eq_true rfl⟩ tkM_0 (by decide) rfl rfl hl.1 rfl (Nat.le_of_ble_eq_true rfl) dX12_stillOf_20 (hq_kz (fun x5 M9 H locs rx5 hw hs => ?_))
        obtain ⟨e9, hw⟩ := hw; rw [e9] at hs
        refine hq_if_eq (tgt := 43) C (rb_rg rx5) dX12_stillOf_23 (by decide) (fun h => ?_) (fun h => ?_)
        · have hw := hw.1 h
          refine cb_X12_stillOf_43 v1 rv1 v2 rv2 v3 rv3 C hw hs (lv_sub hl [0, 1, 2, 3] rfl) ?_
          · intro y3 ry3 H locs ls hw hs hl
            exact ih y3 ry3 _ _ _ hw hs (lv_sub hl [0, 1, 2, 3] rfl)
        · have hw := hw.2 h
          refine hq_goto (tgt := 41) C dX12_stillOf_26 (by decide) ?_
          refine lv_iload_n hx hb dX12_stillOf_41 rfl (lv_at hl 3 rfl) ?_
          exact hq_iret C hs rv3 ⟨rfl, hw⟩ dX12_stillOf_42
set_option maxHeartbeats 4000000 in
set_option maxRecDepth 100000 in
theorem c_X12_stillOf (l : Launch) {D : va_G} {cA : Nat → ClassId} {B : Nat} {Z : State → Prop} (hZ : hq_Zo Z (hq_in B YM.length)) (v1 : Int) (rv1 : rg v1) (v2 : Int) (rv2 : rb v2) (M : hq_M) (k : Int → Prop) (hw : w_X12_stillOf v1 v2 M k) : hq_T vwCl SLx l yX12_stillOf wsX12_stillOf ({ frames := 2, cells := 0, slots := 0, locals := 48 } : Room) D cA YM B Z [.ref (B + 0), .int (w3 v1), .int (w3 v2)] M (hq_qi (fun z M' => M' = M ∧ k z)) := by
  refine hq_meth (cc := cX12_stillOf) (maxL := 4) (ret := (some .int)) (own := RX12) hZ rfl (by decide +kernel) rfl (Nat.le_of_ble_eq_true rfl) ?_
  intro p e s m below meth c ls C hs hl
  have hx := C.1.1
  have hb := C.1.2.1
  unfold w_X12_stillOf at hw
  have hl : lv_has ls 4 [(0, .ref (B + 0)), (1, .int (w3 v1)), (2, .int (w3 v2))] := hl
  refine hq_iconst C dX12_stillOf_0 ?_
  refine lv_istore_n (lv' := [(3, .int (w3 0)), (0, .ref (B + 0)), (1, .int (w3 v1)), (2, .int (w3 v2))]) hx hb dX12_stillOf_1 rfl hl (by decide) rfl (fun ls hl => ?_)
  obtain ⟨n9, hw⟩ := hw
  refine cl_X12_stillOf_2 v1 rv1 v2 rv2 C  n9 0 (by decide : rg 0) _ _ _ hw hs (lv_sub hl [1, 2, 3, 0] rfl)
theorem iX12_type_12 : ∀ w ∈ u_ws RX12 TX12 57, w ∈ wsX12_type := fun w h => List.mem_cons_of_mem _ (List.mem_append_right _ h)
set_option maxRecDepth 20000 in
theorem fX12_type_29 : hq_fl vwCl wsX12_type RX12 29 12 8 true (.array .int) := ⟨RX12, TX12, 57, tyX12, rfl, by decide, iX12_type_12, by decide +kernel, rfl, tyX12_ok 8 (by decide), tyX12_ok, nmX12⟩
set_option maxRecDepth 20000 in
theorem fX12_type_135 : hq_fl vwCl wsX12_type RX12 135 12 9 false .int := ⟨RX12, TX12, 57, tyX12, rfl, by decide, iX12_type_12, by decide +kernel, rfl, tyX12_ok 9 (by decide), tyX12_ok, nmX12⟩
set_option maxRecDepth 20000 in
theorem kX12_type_226 : Cond.constantLong RX12 226 255 ∈ wsX12_type := by decide +kernel
set_option maxHeartbeats 4000000 in
set_option maxRecDepth 100000 in
theorem c_X12_type (l : Launch) {D : va_G} {cA : Nat → ClassId} {B : Nat} {Z : State → Prop} (hZ : hq_Zo Z (hq_in B YM.length)) (v1 : Int) (rv1 : rg v1) (M : hq_M) (k : Int → hq_M → Prop) (hw : w_X12_type v1 M k) : hq_T vwCl SLx l yX12_type wsX12_type ({ frames := 1, cells := 0, slots := 0, locals := 25 } : Room) D cA YM B Z [.ref (B + 0), .int (w3 v1)] M (hq_qi k) := by
  refine hq_meth (cc := cX12_type) (maxL := 2) (ret := (some .int)) (own := RX12) hZ rfl (by decide +kernel) rfl (Nat.le_of_ble_eq_true rfl) ?_
  intro p e s m below meth c ls C hs hl
  have hx := C.1.1
  have hb := C.1.2.1
  unfold w_X12_type at hw
  have hl : lv_has ls 2 [(0, .ref (B + 0)), (1, .int (w3 v1))] := hl
  refine lv_iload_n hx hb dX12_type_0 rfl (lv_at hl 1 rfl) ?_
  refine hq_i2l (y := 0) C rv1 dX12_type_1 ?_
  refine hq_lconst (z := 0) C dX12_type_2 rfl ?_
  refine hq_ldc2 (z := 255) C kX12_type_226 (by decide) dX12_type_3 ?_
  refine hq_cS (n := 3) C hs (c_X12_in l C.2.2.2.2.1 v1 (rg_rl rv1) 0 (by decide : rl 0) 255 (by decide : rl 255) _ _ hw) gX12_type_X12_in rfl ⟨rfl, rfl⟩ (by decide +kernel) ⟨Nat.le_of_ble_eq_true rfl, Nat.le_of_ble_eq_true rfl⟩ rfl hl.1 rfl (Nat.le_of_ble_eq_true rfl) dX12_type_6 (hq_kz (fun x1 M9 H locs rx1 hw hs => ?_))
  obtain ⟨e9, hw⟩ := hw; rw [e9] at hs
  refine hq_if_ne (tgt := 14) C (rb_rg rx1) dX12_type_9 (by decide) (fun h => ?_) (fun h => ?_)
  · have hw := hw.1 h
    refine lv_aload_n hx hb dX12_type_14 rfl (lv_at hl 0 rfl) ?_
    refine hq_getI (o := 0) C hs fX12_type_135 tkM_0 (by decide) rfl dX12_type_15 (fun g2 => ?_)
    refine hq_sipush C dX12_type_18 (by decide) ?_
    refine hq_icmp_ne (tgt := 27) C g2 (by decide : rg 200) dX12_type_21 (by decide) (fun h => ?_) (fun h => ?_)
    · have hw := hw.1 h
      refine lv_aload_n hx hb dX12_type_27 rfl (lv_at hl 0 rfl) ?_
      refine hq_getA (o := 0) C hs fX12_type_29 tkM_0 (by decide) rfl dX12_type_28 ?_
      refine lv_aload_n hx hb dX12_type_31 rfl (lv_at hl 0 rfl) ?_
      refine hq_getI (o := 0) C hs fX12_type_135 tkM_0 (by decide) rfl dX12_type_32 (fun g3 => ?_)
      refine lv_iload_n hx hb dX12_type_35 rfl (lv_at hl 1 rfl) ?_
      obtain ⟨g4, hw⟩ := hw
      refine hq_iast (o := 5) C hs tkM_5 g3 g4 rv1 dX12_type_36 (fun M5 eM5 H locs hs => ?_)
      have hw := hw M5 eM5
      refine lv_aload_n hx hb dX12_type_37 rfl (lv_at hl 0 rfl) ?_
      refine lv_dup hx hb dX12_type_38 rfl ?_
      refine hq_getI (o := 0) C hs fX12_type_135 tkM_0 (by decide) rfl dX12_type_39 (fun g6 => ?_)
      refine hq_iconst C dX12_type_42 ?_
      obtain ⟨g7, hw⟩ := hw
      refine hq_iadd C dX12_type_43 ?_
      refine hq_putI (o := 0) C hs fX12_type_135 tkM_0 (by decide) rfl g7 dX12_type_44 (fun M8 eM8 H locs hs => ?_)
      have hw := hw M8 eM8
      refine lv_aload_n hx hb dX12_type_47 rfl (lv_at hl 0 rfl) ?_
      refine hq_getI (o := 0) C hs fX12_type_135 tkM_0 (by decide) rfl dX12_type_48 (fun g9 => ?_)
      exact hq_iret C hs g9 hw dX12_type_51
    · have hw := hw.2 h
      refine hq_bipush C dX12_type_24 (by decide) ?_
      exact hq_iret C hs (by decide : rg (-3)) hw dX12_type_26
  · have hw := hw.2 h
    refine hq_iconst C dX12_type_12 ?_
    exact hq_iret C hs (by decide : rg (-1)) hw dX12_type_13
theorem iX12_clear_12 : ∀ w ∈ u_ws RX12 TX12 57, w ∈ wsX12_clear := fun w h => List.mem_cons_of_mem _ (List.mem_append_right _ h)
set_option maxRecDepth 20000 in
theorem fX12_clear_135 : hq_fl vwCl wsX12_clear RX12 135 12 9 false .int := ⟨RX12, TX12, 57, tyX12, rfl, by decide, iX12_clear_12, by decide +kernel, rfl, tyX12_ok 9 (by decide), tyX12_ok, nmX12⟩
set_option maxHeartbeats 4000000 in
set_option maxRecDepth 100000 in
theorem c_X12_clear (l : Launch) {D : va_G} {cA : Nat → ClassId} {B : Nat} {Z : State → Prop} (hZ : hq_Zo Z (hq_in B YM.length))  (M : hq_M) (k : Int → hq_M → Prop) (hw : w_X12_clear  M k) : hq_T vwCl SLx l yX12_clear wsX12_clear ({ frames := 0, cells := 0, slots := 0, locals := 0 } : Room) D cA YM B Z [.ref (B + 0)] M (hq_qi k) := by
  refine hq_meth (cc := cX12_clear) (maxL := 2) (ret := (some .int)) (own := RX12) hZ rfl (by decide +kernel) rfl (Nat.le_of_ble_eq_true rfl) ?_
  intro p e s m below meth c ls C hs hl
  have hx := C.1.1
  have hb := C.1.2.1
  unfold w_X12_clear at hw
  have hl : lv_has ls 2 [(0, .ref (B + 0))] := hl
  refine lv_aload_n hx hb dX12_clear_0 rfl (lv_at hl 0 rfl) ?_
  refine hq_getI (o := 0) C hs fX12_clear_135 tkM_0 (by decide) rfl dX12_clear_1 (fun g1 => ?_)
  refine hq_nm (fun x2 ex2 => ?_)
  have hw := hw x2 ex2
  have rx2 : rg x2 := by rw [ex2]; exact g1
  refine lv_istore_n (lv' := [(1, .int (w3 x2)), (0, .ref (B + 0))]) hx hb dX12_clear_4 rfl hl (by decide) rfl (fun ls hl => ?_)
  refine lv_aload_n hx hb dX12_clear_5 rfl (lv_at hl 1 rfl) ?_
  refine hq_iconst C dX12_clear_6 ?_
  refine hq_putI (o := 0) C hs fX12_clear_135 tkM_0 (by decide) rfl (by decide : rg 0) dX12_clear_7 (fun M3 eM3 H locs hs => ?_)
  have hw := hw M3 eM3
  refine lv_iload_n hx hb dX12_clear_10 rfl (lv_at hl 0 rfl) ?_
  exact hq_iret C hs rx2 hw dX12_clear_11
theorem iX12_begins_12 : ∀ w ∈ u_ws RX12 TX12 57, w ∈ wsX12_begins := fun w h => List.mem_cons_of_mem _ (List.mem_append_right _ h)
set_option maxRecDepth 20000 in
theorem fX12_begins_32 : hq_fl vwCl wsX12_begins RX12 32 12 18 true (.array .int) := ⟨RX12, TX12, 57, tyX12, rfl, by decide, iX12_begins_12, by decide +kernel, rfl, tyX12_ok 18 (by decide), tyX12_ok, nmX12⟩
set_option maxRecDepth 20000 in
theorem fX12_begins_35 : hq_fl vwCl wsX12_begins RX12 35 12 19 true (.array .int) := ⟨RX12, TX12, 57, tyX12, rfl, by decide, iX12_begins_12, by decide +kernel, rfl, tyX12_ok 19 (by decide), tyX12_ok, nmX12⟩
set_option maxRecDepth 20000 in
theorem fX12_begins_38 : hq_fl vwCl wsX12_begins RX12 38 12 20 true (.array .int) := ⟨RX12, TX12, 57, tyX12, rfl, by decide, iX12_begins_12, by decide +kernel, rfl, tyX12_ok 20 (by decide), tyX12_ok, nmX12⟩
set_option maxRecDepth 20000 in
theorem fX12_begins_41 : hq_fl vwCl wsX12_begins RX12 41 12 21 true (.array .int) := ⟨RX12, TX12, 57, tyX12, rfl, by decide, iX12_begins_12, by decide +kernel, rfl, tyX12_ok 21 (by decide), tyX12_ok, nmX12⟩
set_option maxRecDepth 20000 in
theorem fX12_begins_249 : hq_fl vwCl wsX12_begins RX12 249 12 39 false .int := ⟨RX12, TX12, 57, tyX12, rfl, by decide, iX12_begins_12, by decide +kernel, rfl, tyX12_ok 39 (by decide), tyX12_ok, nmX12⟩
set_option maxRecDepth 20000 in
theorem fX12_begins_252 : hq_fl vwCl wsX12_begins RX12 252 12 25 false .int := ⟨RX12, TX12, 57, tyX12, rfl, by decide, iX12_begins_12, by decide +kernel, rfl, tyX12_ok 25 (by decide), tyX12_ok, nmX12⟩
set_option maxRecDepth 20000 in
theorem fX12_begins_258 : hq_fl vwCl wsX12_begins RX12 258 12 23 false .int := ⟨RX12, TX12, 57, tyX12, rfl, by decide, iX12_begins_12, by decide +kernel, rfl, tyX12_ok 23 (by decide), tyX12_ok, nmX12⟩
set_option maxRecDepth 20000 in
theorem fX12_begins_277 : hq_fl vwCl wsX12_begins RX12 277 12 43 false .int := ⟨RX12, TX12, 57, tyX12, rfl, by decide, iX12_begins_12, by decide +kernel, rfl, tyX12_ok 43 (by decide), tyX12_ok, nmX12⟩
set_option maxRecDepth 20000 in
theorem fX12_begins_280 : hq_fl vwCl wsX12_begins RX12 280 12 47 false .int := ⟨RX12, TX12, 57, tyX12, rfl, by decide, iX12_begins_12, by decide +kernel, rfl, tyX12_ok 47 (by decide), tyX12_ok, nmX12⟩
set_option maxRecDepth 20000 in
theorem fX12_begins_325 : hq_fl vwCl wsX12_begins RX12 325 12 37 false .int := ⟨RX12, TX12, 57, tyX12, rfl, by decide, iX12_begins_12, by decide +kernel, rfl, tyX12_ok 37 (by decide), tyX12_ok, nmX12⟩
set_option maxRecDepth 20000 in
theorem fX12_begins_361 : hq_fl vwCl wsX12_begins RX12 361 12 52 false .int := ⟨RX12, TX12, 57, tyX12, rfl, by decide, iX12_begins_12, by decide +kernel, rfl, tyX12_ok 52 (by decide), tyX12_ok, nmX12⟩
set_option maxRecDepth 20000 in
theorem fX12_begins_364 : hq_fl vwCl wsX12_begins RX12 364 12 56 false .int := ⟨RX12, TX12, 57, tyX12, rfl, by decide, iX12_begins_12, by decide +kernel, rfl, tyX12_ok 56 (by decide), tyX12_ok, nmX12⟩
set_option maxRecDepth 20000 in
theorem fX12_begins_370 : hq_fl vwCl wsX12_begins RX12 370 12 24 false .int := ⟨RX12, TX12, 57, tyX12, rfl, by decide, iX12_begins_12, by decide +kernel, rfl, tyX12_ok 24 (by decide), tyX12_ok, nmX12⟩
set_option maxHeartbeats 4000000 in
set_option maxRecDepth 100000 in
theorem cl_X12_begins_2 {p : Program} {l : Launch} {e : Env} {s : State} {m : MethodId} {args : Array Value} {below : List Frame} {meth : Method} {c : Code} {D : va_G} {cA : Nat → ClassId} {B : Nat} {Z : State → Prop}  {k_41 : hq_M → Prop} {k : hq_M → Prop} (C : hq_C vwCl p m c cX12_begins 2 s args wsX12_begins RX12 meth none D cA (hq_in B YM.length) Z)
    (hk_41 : ∀ (M1 : hq_M) (H : Heap) (locs : List Loc) (ls : Array Slot), k_41 M1 → hq_S vwCl SLx D cA YM B s.heap M1 H locs → lv_has ls 2 [(0, .ref (B + 0))] → W p l e ({ frames := 0, cells := 0, slots := 0, locals := 0 } : Room) s m args below meth c H locs 0 0 (MQ below (hq_Q vwCl SLx D cA YM B (hq_qv k)) args s 0 0 (hq_in B YM.length)) (F0 m 41 ls [])) : ∀ (n : Nat) (v1 : Int) (rv1 : rg v1) (M : hq_M) (H : Heap) (locs : List Loc) (ls : Array Slot), l_X12_begins_2 k_41 k n v1 M → hq_S vwCl SLx D cA YM B s.heap M H locs → lv_has ls 2 [(0, .ref (B + 0)), (1, .int (w3 v1))] → W p l e ({ frames := 0, cells := 0, slots := 0, locals := 0 } : Room) s m args below meth c H locs 0 0 (MQ below (hq_Q vwCl SLx D cA YM B (hq_qv k)) args s 0 0 (hq_in B YM.length)) (F0 m 2 ls []) := by
  have hx := C.1.1
  have hb := C.1.2.1
  intro n
  induction n with
  | zero => intro v1 rv1 M H locs ls hw hs hl; exact hw.elim
  | succ n ih =>
    intro v1 rv1 M H locs ls hw hs hl
    unfold l_X12_begins_2 at hw
    refine lv_iload_n hx hb dX12_begins_2 rfl (lv_at hl 1 rfl) ?_
    refine hq_iconst C dX12_begins_3 ?_
    refine hq_icmp_ge (tgt := 41) C rv1 (by decide : rg 2) dX12_begins_4 (by decide) (fun h => ?_) (fun h => ?_)
    · have hw := hw.1 h
      exact hk_41 _ _ _ _ hw hs (lv_sub hl [0] rfl)
    · have hw := hw.2 h
      refine lv_aload_n hx hb dX12_begins_7 rfl (lv_at hl 0 rfl) ?_
      refine hq_getA (o := 0) C hs fX12_begins_32 tkM_0 (by decide) rfl dX12_begins_8 ?_
      refine lv_iload_n hx hb dX12_begins_11 rfl (lv_at hl 1 rfl) ?_
      refine hq_iconst C dX12_begins_12 ?_
      obtain ⟨g1, hw⟩ := hw
      refine hq_iast (o := 6) C hs tkM_6 rv1 g1 (by decide : rg 0) dX12_begins_13 (fun M2 eM2 H locs hs => ?_)
      have hw := hw M2 eM2
      refine lv_aload_n hx hb dX12_begins_14 rfl (lv_at hl 0 rfl) ?_
      refine hq_getA (o := 0) C hs fX12_begins_35 tkM_0 (by decide) rfl dX12_begins_15 ?_
      refine lv_iload_n hx hb dX12_begins_18 rfl (lv_at hl 1 rfl) ?_
      refine hq_iconst C dX12_begins_19 ?_
      obtain ⟨g3, hw⟩ := hw
      refine hq_iast (o := 7) C hs tkM_7 rv1 g3 (by decide : rg 0) dX12_begins_20 (fun M4 eM4 H locs hs => ?_)
      have hw := hw M4 eM4
      refine lv_aload_n hx hb dX12_begins_21 rfl (lv_at hl 0 rfl) ?_
      refine hq_getA (o := 0) C hs fX12_begins_38 tkM_0 (by decide) rfl dX12_begins_22 ?_
      refine lv_iload_n hx hb dX12_begins_25 rfl (lv_at hl 1 rfl) ?_
      refine hq_iconst C dX12_begins_26 ?_
      obtain ⟨g5, hw⟩ := hw
      refine hq_iast (o := 8) C hs tkM_8 rv1 g5 (by decide : rg 0) dX12_begins_27 (fun M6 eM6 H locs hs => ?_)
      have hw := hw M6 eM6
      refine lv_aload_n hx hb dX12_begins_28 rfl (lv_at hl 0 rfl) ?_
      refine hq_getA (o := 0) C hs fX12_begins_41 tkM_0 (by decide) rfl dX12_begins_29 ?_
      refine lv_iload_n hx hb dX12_begins_32 rfl (lv_at hl 1 rfl) ?_
      refine hq_iconst C dX12_begins_33 ?_
      obtain ⟨g7, hw⟩ := hw
      refine hq_iast (o := 9) C hs tkM_9 rv1 g7 (by decide : rg 0) dX12_begins_34 (fun M8 eM8 H locs hs => ?_)
      have hw := hw M8 eM8
      obtain ⟨g10, hw⟩ := hw
      refine hq_iinc (k := 1) C dX12_begins_35 hl rfl (by decide) (fun x9 ex9 ls hl => ?_)
      have hw := hw x9 ex9
      have rx9 : rg x9 := by rw [ex9]; exact g10
      have hl : lv_has ls 2 [(1, .int (w3 x9)), (0, .ref (B + 0))] := hl
      refine hq_goto (tgt := 2) C dX12_begins_38 (by decide) ?_
      exact ih x9 rx9 _ _ _ _ hw hs (lv_sub hl [1, 0] rfl)
set_option maxHeartbeats 4000000 in
set_option maxRecDepth 100000 in
theorem c_X12_begins (l : Launch) {D : va_G} {cA : Nat → ClassId} {B : Nat} {Z : State → Prop} (hZ : hq_Zo Z (hq_in B YM.length))  (M : hq_M) (k : hq_M → Prop) (hw : w_X12_begins  M k) : hq_T vwCl SLx l yX12_begins wsX12_begins ({ frames := 0, cells := 0, slots := 0, locals := 0 } : Room) D cA YM B Z [.ref (B + 0)] M (hq_qv k) := by
  refine hq_meth (cc := cX12_begins) (maxL := 2) (ret := none) (own := RX12) hZ rfl (by decide +kernel) rfl (Nat.le_of_ble_eq_true rfl) ?_
  intro p e s m below meth c ls C hs hl
  have hx := C.1.1
  have hb := C.1.2.1
  unfold w_X12_begins at hw
  have hl : lv_has ls 2 [(0, .ref (B + 0))] := hl
  refine hq_iconst C dX12_begins_0 ?_
  refine lv_istore_n (lv' := [(1, .int (w3 0)), (0, .ref (B + 0))]) hx hb dX12_begins_1 rfl hl (by decide) rfl (fun ls hl => ?_)
  obtain ⟨n9, hw⟩ := hw
  refine cl_X12_begins_2  C ?_ n9 0 (by decide : rg 0) _ _ _ _ hw hs (lv_sub hl [1, 0] rfl)
  · intro M1 H locs ls hw hs hl
    refine lv_aload_n hx hb dX12_begins_41 rfl (lv_at hl 0 rfl) ?_
    refine hq_iconst C dX12_begins_42 ?_
    refine hq_putI (o := 0) C hs fX12_begins_258 tkM_0 (by decide) rfl (by decide : rg 0) dX12_begins_43 (fun M2 eM2 H locs hs => ?_)
    have hw := hw M2 eM2
    refine lv_aload_n hx hb dX12_begins_46 rfl (lv_at hl 0 rfl) ?_
    refine hq_iconst C dX12_begins_47 ?_
    refine hq_putI (o := 0) C hs fX12_begins_370 tkM_0 (by decide) rfl (by decide : rg 0) dX12_begins_48 (fun M3 eM3 H locs hs => ?_)
    have hw := hw M3 eM3
    refine lv_aload_n hx hb dX12_begins_51 rfl (lv_at hl 0 rfl) ?_
    refine hq_iconst C dX12_begins_52 ?_
    refine hq_putI (o := 0) C hs fX12_begins_252 tkM_0 (by decide) rfl (by decide : rg 0) dX12_begins_53 (fun M4 eM4 H locs hs => ?_)
    have hw := hw M4 eM4
    refine lv_aload_n hx hb dX12_begins_56 rfl (lv_at hl 0 rfl) ?_
    refine hq_iconst C dX12_begins_57 ?_
    refine hq_putI (o := 0) C hs fX12_begins_325 tkM_0 (by decide) rfl (by decide : rg 0) dX12_begins_58 (fun M5 eM5 H locs hs => ?_)
    have hw := hw M5 eM5
    refine lv_aload_n hx hb dX12_begins_61 rfl (lv_at hl 0 rfl) ?_
    refine hq_iconst C dX12_begins_62 ?_
    refine hq_putI (o := 0) C hs fX12_begins_249 tkM_0 (by decide) rfl (by decide : rg 0) dX12_begins_63 (fun M6 eM6 H locs hs => ?_)
    have hw := hw M6 eM6
    refine lv_aload_n hx hb dX12_begins_66 rfl (lv_at hl 0 rfl) ?_
    refine hq_iconst C dX12_begins_67 ?_
    refine hq_putI (o := 0) C hs fX12_begins_277 tkM_0 (by decide) rfl (by decide : rg 0) dX12_begins_68 (fun M7 eM7 H locs hs => ?_)
    have hw := hw M7 eM7
    refine lv_aload_n hx hb dX12_begins_71 rfl (lv_at hl 0 rfl) ?_
    refine hq_iconst C dX12_begins_72 ?_
    refine hq_putI (o := 0) C hs fX12_begins_280 tkM_0 (by decide) rfl (by decide : rg 0) dX12_begins_73 (fun M8 eM8 H locs hs => ?_)
    have hw := hw M8 eM8
    refine lv_aload_n hx hb dX12_begins_76 rfl (lv_at hl 0 rfl) ?_
    refine hq_iconst C dX12_begins_77 ?_
    refine hq_putI (o := 0) C hs fX12_begins_361 tkM_0 (by decide) rfl (by decide : rg 0) dX12_begins_78 (fun M9 eM9 H locs hs => ?_)
    have hw := hw M9 eM9
    refine lv_aload_n hx hb dX12_begins_81 rfl (lv_at hl 0 rfl) ?_
    refine hq_iconst C dX12_begins_82 ?_
    refine hq_putI (o := 0) C hs fX12_begins_364 tkM_0 (by decide) rfl (by decide : rg 0) dX12_begins_83 (fun M10 eM10 H locs hs => ?_)
    have hw := hw M10 eM10
    exact hq_vret C hs hw dX12_begins_86
theorem iX12_tells_12 : ∀ w ∈ u_ws RX12 TX12 57, w ∈ wsX12_tells := fun w h => List.mem_cons_of_mem _ (List.mem_append_right _ h)
set_option maxRecDepth 20000 in
theorem fX12_tells_7 : hq_fl vwCl wsX12_tells RX12 7 12 2 false .int := ⟨RX12, TX12, 57, tyX12, rfl, by decide, iX12_tells_12, by decide +kernel, rfl, tyX12_ok 2 (by decide), tyX12_ok, nmX12⟩
set_option maxRecDepth 20000 in
theorem fX12_tells_13 : hq_fl vwCl wsX12_tells RX12 13 12 3 false .int := ⟨RX12, TX12, 57, tyX12, rfl, by decide, iX12_tells_12, by decide +kernel, rfl, tyX12_ok 3 (by decide), tyX12_ok, nmX12⟩
set_option maxRecDepth 20000 in
theorem fX12_tells_16 : hq_fl vwCl wsX12_tells RX12 16 12 4 true (.array .int) := ⟨RX12, TX12, 57, tyX12, rfl, by decide, iX12_tells_12, by decide +kernel, rfl, tyX12_ok 4 (by decide), tyX12_ok, nmX12⟩
set_option maxRecDepth 20000 in
theorem fX12_tells_20 : hq_fl vwCl wsX12_tells RX12 20 12 5 true (.array .int) := ⟨RX12, TX12, 57, tyX12, rfl, by decide, iX12_tells_12, by decide +kernel, rfl, tyX12_ok 5 (by decide), tyX12_ok, nmX12⟩
set_option maxRecDepth 20000 in
theorem fX12_tells_23 : hq_fl vwCl wsX12_tells RX12 23 12 6 true (.array .int) := ⟨RX12, TX12, 57, tyX12, rfl, by decide, iX12_tells_12, by decide +kernel, rfl, tyX12_ok 6 (by decide), tyX12_ok, nmX12⟩
set_option maxRecDepth 20000 in
theorem fX12_tells_26 : hq_fl vwCl wsX12_tells RX12 26 12 7 true (.array .int) := ⟨RX12, TX12, 57, tyX12, rfl, by decide, iX12_tells_12, by decide +kernel, rfl, tyX12_ok 7 (by decide), tyX12_ok, nmX12⟩
set_option maxRecDepth 20000 in
theorem fX12_tells_135 : hq_fl vwCl wsX12_tells RX12 135 12 9 false .int := ⟨RX12, TX12, 57, tyX12, rfl, by decide, iX12_tells_12, by decide +kernel, rfl, tyX12_ok 9 (by decide), tyX12_ok, nmX12⟩
set_option maxRecDepth 20000 in
theorem fX12_tells_138 : hq_fl vwCl wsX12_tells RX12 138 12 11 false .int := ⟨RX12, TX12, 57, tyX12, rfl, by decide, iX12_tells_12, by decide +kernel, rfl, tyX12_ok 11 (by decide), tyX12_ok, nmX12⟩
set_option maxRecDepth 20000 in
theorem fX12_tells_156 : hq_fl vwCl wsX12_tells RX12 156 12 16 false .int := ⟨RX12, TX12, 57, tyX12, rfl, by decide, iX12_tells_12, by decide +kernel, rfl, tyX12_ok 16 (by decide), tyX12_ok, nmX12⟩
set_option maxRecDepth 20000 in
theorem fX12_tells_165 : hq_fl vwCl wsX12_tells RX12 165 12 17 false .int := ⟨RX12, TX12, 57, tyX12, rfl, by decide, iX12_tells_12, by decide +kernel, rfl, tyX12_ok 17 (by decide), tyX12_ok, nmX12⟩
set_option maxRecDepth 20000 in
theorem fX12_tells_177 : hq_fl vwCl wsX12_tells RX12 177 12 15 false .int := ⟨RX12, TX12, 57, tyX12, rfl, by decide, iX12_tells_12, by decide +kernel, rfl, tyX12_ok 15 (by decide), tyX12_ok, nmX12⟩
set_option maxRecDepth 20000 in
theorem fX12_tells_183 : hq_fl vwCl wsX12_tells RX12 183 12 14 false .int := ⟨RX12, TX12, 57, tyX12, rfl, by decide, iX12_tells_12, by decide +kernel, rfl, tyX12_ok 14 (by decide), tyX12_ok, nmX12⟩
set_option maxRecDepth 20000 in
theorem fX12_tells_214 : hq_fl vwCl wsX12_tells RX12 214 12 13 false .int := ⟨RX12, TX12, 57, tyX12, rfl, by decide, iX12_tells_12, by decide +kernel, rfl, tyX12_ok 13 (by decide), tyX12_ok, nmX12⟩
set_option maxRecDepth 20000 in
theorem fX12_tells_223 : hq_fl vwCl wsX12_tells RX12 223 12 1 false .int := ⟨RX12, TX12, 57, tyX12, rfl, by decide, iX12_tells_12, by decide +kernel, rfl, tyX12_ok 1 (by decide), tyX12_ok, nmX12⟩
set_option maxRecDepth 20000 in
theorem fX12_tells_231 : hq_fl vwCl wsX12_tells RX12 231 12 0 false .int := ⟨RX12, TX12, 57, tyX12, rfl, by decide, iX12_tells_12, by decide +kernel, rfl, tyX12_ok 0 (by decide), tyX12_ok, nmX12⟩
set_option maxHeartbeats 4000000 in
set_option maxRecDepth 100000 in
theorem cl_X12_tells_76 {p : Program} {l : Launch} {e : Env} {s : State} {m : MethodId} {args : Array Value} {below : List Frame} {meth : Method} {c : Code} {D : va_G} {cA : Nat → ClassId} {B : Nat} {Z : State → Prop}  {k_118 : hq_M → Prop} {k : Int → hq_M → Prop} (C : hq_C vwCl p m c cX12_tells 2 s args wsX12_tells RX12 meth (some .int) D cA (hq_in B YM.length) Z)
    (hk_118 : ∀ (M1 : hq_M) (H : Heap) (locs : List Loc) (ls : Array Slot), k_118 M1 → hq_S vwCl SLx D cA YM B s.heap M1 H locs → lv_has ls 2 [(0, .ref (B + 0))] → W p l e ({ frames := 8, cells := 0, slots := 0, locals := 174 } : Room) s m args below meth c H locs 0 0 (MQ below (hq_Q vwCl SLx D cA YM B (hq_qi k)) args s 0 0 (hq_in B YM.length)) (F0 m 118 ls [])) : ∀ (n : Nat) (v1 : Int) (rv1 : rg v1) (M : hq_M) (H : Heap) (locs : List Loc) (ls : Array Slot), l_X12_tells_76 k_118 k n v1 M → hq_S vwCl SLx D cA YM B s.heap M H locs → lv_has ls 2 [(0, .ref (B + 0)), (1, .int (w3 v1))] → W p l e ({ frames := 8, cells := 0, slots := 0, locals := 174 } : Room) s m args below meth c H locs 0 0 (MQ below (hq_Q vwCl SLx D cA YM B (hq_qi k)) args s 0 0 (hq_in B YM.length)) (F0 m 76 ls []) := by
  have hx := C.1.1
  have hb := C.1.2.1
  intro n
  induction n with
  | zero => intro v1 rv1 M H locs ls hw hs hl; exact hw.elim
  | succ n ih =>
    intro v1 rv1 M H locs ls hw hs hl
    unfold l_X12_tells_76 at hw
    refine lv_iload_n hx hb dX12_tells_76 rfl (lv_at hl 1 rfl) ?_
    refine hq_bipush C dX12_tells_77 (by decide) ?_
    refine hq_icmp_ge (tgt := 118) C rv1 (by decide : rg 16) dX12_tells_79 (by decide) (fun h => ?_) (fun h => ?_)
    · have hw := hw.1 h
      exact hk_118 _ _ _ _ hw hs (lv_sub hl [0] rfl)
    · have hw := hw.2 h
      refine lv_aload_n hx hb dX12_tells_82 rfl (lv_at hl 0 rfl) ?_
      refine hq_getA (o := 0) C hs fX12_tells_16 tkM_0 (by decide) rfl dX12_tells_83 ?_
      refine lv_iload_n hx hb dX12_tells_86 rfl (lv_at hl 1 rfl) ?_
      refine lv_aload_n hx hb dX12_tells_87 rfl (lv_at hl 0 rfl) ?_
      refine hq_getA (o := 0) C hs fX12_tells_16 tkM_0 (by decide) rfl dX12_tells_88 ?_
      refine hq_bipush C dX12_tells_91 (by decide) ?_
      refine lv_iload_n hx hb dX12_tells_93 rfl (lv_at hl 1 rfl) ?_
      obtain ⟨g1, hw⟩ := hw
      refine hq_iadd C dX12_tells_94 ?_
      obtain ⟨g2, hw⟩ := hw
      refine hq_iald (o := 1) C hs tkM_1 g1 g2 dX12_tells_95 (fun g3 => ?_)
      obtain ⟨g4, hw⟩ := hw
      refine hq_iast (o := 1) C hs tkM_1 rv1 g4 g3 dX12_tells_96 (fun M5 eM5 H locs hs => ?_)
      have hw := hw M5 eM5
      refine lv_aload_n hx hb dX12_tells_97 rfl (lv_at hl 0 rfl) ?_
      refine hq_getA (o := 0) C hs fX12_tells_20 tkM_0 (by decide) rfl dX12_tells_98 ?_
      refine lv_iload_n hx hb dX12_tells_101 rfl (lv_at hl 1 rfl) ?_
      refine lv_aload_n hx hb dX12_tells_102 rfl (lv_at hl 0 rfl) ?_
      refine hq_getA (o := 0) C hs fX12_tells_20 tkM_0 (by decide) rfl dX12_tells_103 ?_
      refine hq_bipush C dX12_tells_106 (by decide) ?_
      refine lv_iload_n hx hb dX12_tells_108 rfl (lv_at hl 1 rfl) ?_
      obtain ⟨g6, hw⟩ := hw
      refine hq_iadd C dX12_tells_109 ?_
      obtain ⟨g7, hw⟩ := hw
      refine hq_iald (o := 2) C hs tkM_2 g6 g7 dX12_tells_110 (fun g8 => ?_)
      obtain ⟨g9, hw⟩ := hw
      refine hq_iast (o := 2) C hs tkM_2 rv1 g9 g8 dX12_tells_111 (fun M10 eM10 H locs hs => ?_)
      have hw := hw M10 eM10
      obtain ⟨g12, hw⟩ := hw
      refine hq_iinc (k := 1) C dX12_tells_112 hl rfl (by decide) (fun x11 ex11 ls hl => ?_)
      have hw := hw x11 ex11
      have rx11 : rg x11 := by rw [ex11]; exact g12
      have hl : lv_has ls 2 [(1, .int (w3 x11)), (0, .ref (B + 0))] := hl
      refine hq_goto (tgt := 76) C dX12_tells_115 (by decide) ?_
      exact ih x11 rx11 _ _ _ _ hw hs (lv_sub hl [1, 0] rfl)
set_option maxHeartbeats 4000000 in
set_option maxRecDepth 100000 in
theorem cl_X12_tells_120 {p : Program} {l : Launch} {e : Env} {s : State} {m : MethodId} {args : Array Value} {below : List Frame} {meth : Method} {c : Code} {D : va_G} {cA : Nat → ClassId} {B : Nat} {Z : State → Prop}  {k_162 : hq_M → Prop} {k : Int → hq_M → Prop} (C : hq_C vwCl p m c cX12_tells 2 s args wsX12_tells RX12 meth (some .int) D cA (hq_in B YM.length) Z)
    (hk_162 : ∀ (M1 : hq_M) (H : Heap) (locs : List Loc) (ls : Array Slot), k_162 M1 → hq_S vwCl SLx D cA YM B s.heap M1 H locs → lv_has ls 2 [(0, .ref (B + 0))] → W p l e ({ frames := 8, cells := 0, slots := 0, locals := 174 } : Room) s m args below meth c H locs 0 0 (MQ below (hq_Q vwCl SLx D cA YM B (hq_qi k)) args s 0 0 (hq_in B YM.length)) (F0 m 162 ls [])) : ∀ (n : Nat) (v1 : Int) (rv1 : rg v1) (M : hq_M) (H : Heap) (locs : List Loc) (ls : Array Slot), l_X12_tells_120 k_162 k n v1 M → hq_S vwCl SLx D cA YM B s.heap M H locs → lv_has ls 2 [(0, .ref (B + 0)), (1, .int (w3 v1))] → W p l e ({ frames := 8, cells := 0, slots := 0, locals := 174 } : Room) s m args below meth c H locs 0 0 (MQ below (hq_Q vwCl SLx D cA YM B (hq_qi k)) args s 0 0 (hq_in B YM.length)) (F0 m 120 ls []) := by
  have hx := C.1.1
  have hb := C.1.2.1
  intro n
  induction n with
  | zero => intro v1 rv1 M H locs ls hw hs hl; exact hw.elim
  | succ n ih =>
    intro v1 rv1 M H locs ls hw hs hl
    unfold l_X12_tells_120 at hw
    refine lv_iload_n hx hb dX12_tells_120 rfl (lv_at hl 1 rfl) ?_
    refine hq_bipush C dX12_tells_121 (by decide) ?_
    refine hq_icmp_ge (tgt := 162) C rv1 (by decide : rg 96) dX12_tells_123 (by decide) (fun h => ?_) (fun h => ?_)
    · have hw := hw.1 h
      exact hk_162 _ _ _ _ hw hs (lv_sub hl [0] rfl)
    · have hw := hw.2 h
      refine lv_aload_n hx hb dX12_tells_126 rfl (lv_at hl 0 rfl) ?_
      refine hq_getA (o := 0) C hs fX12_tells_23 tkM_0 (by decide) rfl dX12_tells_127 ?_
      refine lv_iload_n hx hb dX12_tells_130 rfl (lv_at hl 1 rfl) ?_
      refine lv_aload_n hx hb dX12_tells_131 rfl (lv_at hl 0 rfl) ?_
      refine hq_getA (o := 0) C hs fX12_tells_23 tkM_0 (by decide) rfl dX12_tells_132 ?_
      refine hq_bipush C dX12_tells_135 (by decide) ?_
      refine lv_iload_n hx hb dX12_tells_137 rfl (lv_at hl 1 rfl) ?_
      obtain ⟨g1, hw⟩ := hw
      refine hq_iadd C dX12_tells_138 ?_
      obtain ⟨g2, hw⟩ := hw
      refine hq_iald (o := 3) C hs tkM_3 g1 g2 dX12_tells_139 (fun g3 => ?_)
      obtain ⟨g4, hw⟩ := hw
      refine hq_iast (o := 3) C hs tkM_3 rv1 g4 g3 dX12_tells_140 (fun M5 eM5 H locs hs => ?_)
      have hw := hw M5 eM5
      refine lv_aload_n hx hb dX12_tells_141 rfl (lv_at hl 0 rfl) ?_
      refine hq_getA (o := 0) C hs fX12_tells_26 tkM_0 (by decide) rfl dX12_tells_142 ?_
      refine lv_iload_n hx hb dX12_tells_145 rfl (lv_at hl 1 rfl) ?_
      refine lv_aload_n hx hb dX12_tells_146 rfl (lv_at hl 0 rfl) ?_
      refine hq_getA (o := 0) C hs fX12_tells_26 tkM_0 (by decide) rfl dX12_tells_147 ?_
      refine hq_bipush C dX12_tells_150 (by decide) ?_
      refine lv_iload_n hx hb dX12_tells_152 rfl (lv_at hl 1 rfl) ?_
      obtain ⟨g6, hw⟩ := hw
      refine hq_iadd C dX12_tells_153 ?_
      obtain ⟨g7, hw⟩ := hw
      refine hq_iald (o := 4) C hs tkM_4 g6 g7 dX12_tells_154 (fun g8 => ?_)
      obtain ⟨g9, hw⟩ := hw
      refine hq_iast (o := 4) C hs tkM_4 rv1 g9 g8 dX12_tells_155 (fun M10 eM10 H locs hs => ?_)
      have hw := hw M10 eM10
      obtain ⟨g12, hw⟩ := hw
      refine hq_iinc (k := 1) C dX12_tells_156 hl rfl (by decide) (fun x11 ex11 ls hl => ?_)
      have hw := hw x11 ex11
      have rx11 : rg x11 := by rw [ex11]; exact g12
      have hl : lv_has ls 2 [(1, .int (w3 x11)), (0, .ref (B + 0))] := hl
      refine hq_goto (tgt := 120) C dX12_tells_159 (by decide) ?_
      exact ih x11 rx11 _ _ _ _ hw hs (lv_sub hl [1, 0] rfl)
set_option maxHeartbeats 4000000 in
set_option maxRecDepth 100000 in
theorem cb_X12_tells_71 {p : Program} {l : Launch} {e : Env} {s : State} {m : MethodId} {args : Array Value} {below : List Frame} {meth : Method} {c : Code} {D : va_G} {cA : Nat → ClassId} {B : Nat} {Z : State → Prop} (t1 : Int) (rt1 : rg t1)  {k : Int → hq_M → Prop} {M : hq_M} {H : Heap} {locs : List Loc} {ls : Array Slot} (C : hq_C vwCl p m c cX12_tells 2 s args wsX12_tells RX12 meth (some .int) D cA (hq_in B YM.length) Z)
    (hw : b_X12_tells_71 t1 k M) (hs : hq_S vwCl SLx D cA YM B s.heap M H locs) (hl : lv_has ls 2 [(0, .ref (B + 0))])
     : W p l e ({ frames := 8, cells := 0, slots := 0, locals := 174 } : Room) s m args below meth c H locs 0 0 (MQ below (hq_Q vwCl SLx D cA YM B (hq_qi k)) args s 0 0 (hq_in B YM.length)) (F0 m 71 ls [.int (w3 t1), .ref (B + 0)]) := by
  have hx := C.1.1
  have hb := C.1.2.1
  unfold b_X12_tells_71 at hw
  refine hq_putI (o := 0) C hs fX12_tells_13 tkM_0 (by decide) rfl rt1 dX12_tells_71 (fun M1 eM1 H locs hs => ?_)
  have hw := hw M1 eM1
  refine hq_iconst C dX12_tells_74 ?_
  refine lv_istore_n (lv' := [(1, .int (w3 0)), (0, .ref (B + 0))]) hx hb dX12_tells_75 rfl hl (by decide) rfl (fun ls hl => ?_)
  obtain ⟨n9, hw⟩ := hw
  refine cl_X12_tells_76  C ?_ n9 0 (by decide : rg 0) _ _ _ _ hw hs (lv_sub hl [1, 0] rfl)
  · intro M2 H locs ls hw hs hl
    refine hq_iconst C dX12_tells_118 ?_
    refine lv_istore_n (lv' := [(1, .int (w3 0)), (0, .ref (B + 0))]) hx hb dX12_tells_119 rfl hl (by decide) rfl (fun ls hl => ?_)
    obtain ⟨n9, hw⟩ := hw
    refine cl_X12_tells_120  C ?_ n9 0 (by decide : rg 0) _ _ _ _ hw hs (lv_sub hl [1, 0] rfl)
    · intro M3 H locs ls hw hs hl
      refine lv_aload_n hx hb dX12_tells_162 rfl (lv_at hl 0 rfl) ?_
      refine hq_iconst C dX12_tells_163 ?_
      refine hq_putI (o := 0) C hs fX12_tells_135 tkM_0 (by decide) rfl (by decide : rg 0) dX12_tells_164 (fun M4 eM4 H locs hs => ?_)
      have hw := hw M4 eM4
      refine lv_aload_n hx hb dX12_tells_167 rfl (lv_at hl 0 rfl) ?_
      refine hq_cV (n := 0) (ci := 12) (o := 0) (qc := (TX12, 57)) C hs (c_X12_begins l C.2.2.2.2.1 _ _ hw) gX12_tells_X12_begins rfl ⟨rfl, rfl⟩ (by decide +kernel) ⟨Nat.le_of_ble_eq_true rfl, Nat.le_of_ble_eq_true rfl⟩ tkM_0 (by decide) rfl rfl hl.1 rfl (Nat.le_of_ble_eq_true rfl) dX12_tells_168 (hq_kv (fun M5 H locs hw hs => ?_))
      refine lv_aload_n hx hb dX12_tells_171 rfl (lv_at hl 0 rfl) ?_
      refine hq_getI (o := 0) C hs fX12_tells_214 tkM_0 (by decide) rfl dX12_tells_172 (fun g6 => ?_)
      exact hq_iret C hs g6 hw dX12_tells_175
set_option maxHeartbeats 4000000 in
set_option maxRecDepth 100000 in
theorem cb_X12_tells_50 {p : Program} {l : Launch} {e : Env} {s : State} {m : MethodId} {args : Array Value} {below : List Frame} {meth : Method} {c : Code} {D : va_G} {cA : Nat → ClassId} {B : Nat} {Z : State → Prop} (t1 : Int) (rt1 : rg t1)  {k : Int → hq_M → Prop} {M : hq_M} {H : Heap} {locs : List Loc} {ls : Array Slot} (C : hq_C vwCl p m c cX12_tells 2 s args wsX12_tells RX12 meth (some .int) D cA (hq_in B YM.length) Z)
    (hw : b_X12_tells_50 t1 k M) (hs : hq_S vwCl SLx D cA YM B s.heap M H locs) (hl : lv_has ls 2 [(0, .ref (B + 0))])
     : W p l e ({ frames := 8, cells := 0, slots := 0, locals := 174 } : Room) s m args below meth c H locs 0 0 (MQ below (hq_Q vwCl SLx D cA YM B (hq_qi k)) args s 0 0 (hq_in B YM.length)) (F0 m 50 ls [.int (w3 t1), .ref (B + 0)]) := by
  have hx := C.1.1
  have hb := C.1.2.1
  unfold b_X12_tells_50 at hw
  refine hq_putI (o := 0) C hs fX12_tells_7 tkM_0 (by decide) rfl rt1 dX12_tells_50 (fun M1 eM1 H locs hs => ?_)
  have hw := hw M1 eM1
  refine lv_aload_n hx hb dX12_tells_53 rfl (lv_at hl 0 rfl) ?_
  refine lv_aload_n hx hb dX12_tells_54 rfl (lv_at hl 0 rfl) ?_
  refine hq_getI (o := 0) C hs fX12_tells_165 tkM_0 (by decide) rfl dX12_tells_55 (fun g2 => ?_)
  refine hq_bipush C dX12_tells_58 (by decide) ?_
  refine hq_icmp_ne (tgt := 67) C g2 (by decide : rg (-9)) dX12_tells_60 (by decide) (fun h => ?_) (fun h => ?_)
  · have hw := hw.1 h
    refine lv_aload_n hx hb dX12_tells_67 rfl (lv_at hl 0 rfl) ?_
    refine hq_getI (o := 0) C hs fX12_tells_165 tkM_0 (by decide) rfl dX12_tells_68 (fun g3 => ?_)
    refine cb_X12_tells_71 (M1 0 17) g3 C hw hs (lv_sub hl [0] rfl) 
  · have hw := hw.2 h
    refine hq_iconst C dX12_tells_63 ?_
    refine hq_goto (tgt := 71) C dX12_tells_64 (by decide) ?_
    refine cb_X12_tells_71 2 (by decide : rg 2) C hw hs (lv_sub hl [0] rfl) 
set_option maxHeartbeats 4000000 in
set_option maxRecDepth 100000 in
theorem c_X12_tells (l : Launch) {D : va_G} {cA : Nat → ClassId} {B : Nat} {Z : State → Prop} (hZ : hq_Zo Z (hq_in B YM.length))  (M : hq_M) (k : Int → hq_M → Prop) (hw : w_X12_tells  M k) : hq_T vwCl SLx l yX12_tells wsX12_tells ({ frames := 8, cells := 0, slots := 0, locals := 174 } : Room) D cA YM B Z [.ref (B + 0)] M (hq_qi k) := by
  refine hq_meth (cc := cX12_tells) (maxL := 2) (ret := (some .int)) (own := RX12) hZ rfl (by decide +kernel) rfl (Nat.le_of_ble_eq_true rfl) ?_
  intro p e s m below meth c ls C hs hl
  have hx := C.1.1
  have hb := C.1.2.1
  unfold w_X12_tells at hw
  have hl : lv_has ls 2 [(0, .ref (B + 0))] := hl
  refine lv_aload_n hx hb dX12_tells_0 rfl (lv_at hl 0 rfl) ?_
  refine hq_cV (n := 0) (ci := 12) (o := 0) (qc := (TX12, 57)) C hs (c_X12_reads l C.2.2.2.2.1 _ _ hw) gX12_tells_X12_reads rfl ⟨rfl, rfl⟩ (by decide +kernel) ⟨Nat.le_of_ble_eq_true rfl, Nat.le_of_ble_eq_true rfl⟩ tkM_0 (by decide) rfl rfl hl.1 rfl (Nat.le_of_ble_eq_true rfl) dX12_tells_1 (hq_kz (fun x2 M1 H locs rx2 hw hs => ?_))
  refine hq_if_ne (tgt := 15) C (rb_rg rx2) dX12_tells_4 (by decide) (fun h => ?_) (fun h => ?_)
  · have hw := hw.1 h
    refine lv_aload_n hx hb dX12_tells_15 rfl (lv_at hl 0 rfl) ?_
    refine lv_aload_n hx hb dX12_tells_16 rfl (lv_at hl 0 rfl) ?_
    refine hq_getI (o := 0) C hs fX12_tells_183 tkM_0 (by decide) rfl dX12_tells_17 (fun g3 => ?_)
    refine hq_putI (o := 0) C hs fX12_tells_231 tkM_0 (by decide) rfl g3 dX12_tells_20 (fun M4 eM4 H locs hs => ?_)
    have hw := hw M4 eM4
    refine lv_aload_n hx hb dX12_tells_23 rfl (lv_at hl 0 rfl) ?_
    refine lv_aload_n hx hb dX12_tells_24 rfl (lv_at hl 0 rfl) ?_
    refine hq_getI (o := 0) C hs fX12_tells_177 tkM_0 (by decide) rfl dX12_tells_25 (fun g5 => ?_)
    refine hq_putI (o := 0) C hs fX12_tells_223 tkM_0 (by decide) rfl g5 dX12_tells_28 (fun M6 eM6 H locs hs => ?_)
    have hw := hw M6 eM6
    refine lv_aload_n hx hb dX12_tells_31 rfl (lv_at hl 0 rfl) ?_
    refine lv_aload_n hx hb dX12_tells_32 rfl (lv_at hl 0 rfl) ?_
    refine hq_getI (o := 0) C hs fX12_tells_156 tkM_0 (by decide) rfl dX12_tells_33 (fun g7 => ?_)
    refine hq_bipush C dX12_tells_36 (by decide) ?_
    refine hq_icmp_ne (tgt := 46) C g7 (by decide : rg (-9)) dX12_tells_38 (by decide) (fun h => ?_) (fun h => ?_)
    · have hw := hw.1 h
      refine lv_aload_n hx hb dX12_tells_46 rfl (lv_at hl 0 rfl) ?_
      refine hq_getI (o := 0) C hs fX12_tells_156 tkM_0 (by decide) rfl dX12_tells_47 (fun g8 => ?_)
      refine cb_X12_tells_50 (M6 0 16) g8 C hw hs (lv_sub hl [0] rfl) 
    · have hw := hw.2 h
      refine hq_bipush C dX12_tells_41 (by decide) ?_
      refine hq_goto (tgt := 50) C dX12_tells_43 (by decide) ?_
      refine cb_X12_tells_50 60 (by decide : rg 60) C hw hs (lv_sub hl [0] rfl) 
  · have hw := hw.2 h
    refine hq_bipush C dX12_tells_7 (by decide) ?_
    refine lv_aload_n hx hb dX12_tells_9 rfl (lv_at hl 0 rfl) ?_
    refine hq_getI (o := 0) C hs fX12_tells_138 tkM_0 (by decide) rfl dX12_tells_10 (fun g9 => ?_)
    obtain ⟨g10, hw⟩ := hw
    refine hq_isub C dX12_tells_13 ?_
    exact hq_iret C hs g10 hw dX12_tells_14
theorem iX12_isField_12 : ∀ w ∈ u_ws RX12 TX12 57, w ∈ wsX12_isField := fun w h => List.mem_cons_of_mem _ (List.mem_append_right _ h)
set_option maxRecDepth 20000 in
theorem fX12_isField_231 : hq_fl vwCl wsX12_isField RX12 231 12 0 false .int := ⟨RX12, TX12, 57, tyX12, rfl, by decide, iX12_isField_12, by decide +kernel, rfl, tyX12_ok 0 (by decide), tyX12_ok, nmX12⟩
set_option maxHeartbeats 4000000 in
set_option maxRecDepth 100000 in
theorem c_X12_isField (l : Launch) {D : va_G} {cA : Nat → ClassId} {B : Nat} {Z : State → Prop} (hZ : hq_Zo Z (hq_in B YM.length)) (v1 : Int) (rv1 : rg v1) (M : hq_M) (k : Int → Prop) (hw : w_X12_isField v1 M k) : hq_T vwCl SLx l yX12_isField wsX12_isField ({ frames := 1, cells := 0, slots := 0, locals := 25 } : Room) D cA YM B Z [.ref (B + 0), .int (w3 v1)] M (hq_qz (fun z M' => M' = M ∧ k z)) := by
  refine hq_meth (cc := cX12_isField) (maxL := 2) (ret := (some .boolean)) (own := RX12) hZ rfl (by decide +kernel) rfl (Nat.le_of_ble_eq_true rfl) ?_
  intro p e s m below meth c ls C hs hl
  have hx := C.1.1
  have hb := C.1.2.1
  unfold w_X12_isField at hw
  have hl : lv_has ls 2 [(0, .ref (B + 0)), (1, .int (w3 v1))] := hl
  refine lv_iload_n hx hb dX12_isField_0 rfl (lv_at hl 1 rfl) ?_
  refine hq_i2l (y := 0) C rv1 dX12_isField_1 ?_
  refine hq_lconst (z := 0) C dX12_isField_2 rfl ?_
  refine lv_aload_n hx hb dX12_isField_3 rfl (lv_at hl 0 rfl) ?_
  refine hq_getI (o := 0) C hs fX12_isField_231 tkM_0 (by decide) rfl dX12_isField_4 (fun g1 => ?_)
  refine hq_iconst C dX12_isField_7 ?_
  obtain ⟨g2, hw⟩ := hw
  refine hq_isub C dX12_isField_8 ?_
  refine hq_i2l (y := 0) C g2 dX12_isField_9 ?_
  refine hq_cS (n := 3) C hs (c_X12_in l C.2.2.2.2.1 v1 (rg_rl rv1) 0 (by decide : rl 0) ((M 0 0) - 1) (rg_rl g2) _ _ hw) gX12_isField_X12_in rfl ⟨rfl, rfl⟩ (by decide +kernel) ⟨Nat.le_of_ble_eq_true rfl, Nat.le_of_ble_eq_true rfl⟩ rfl hl.1 rfl (Nat.le_of_ble_eq_true rfl) dX12_isField_10 (hq_kz (fun x3 M9 H locs rx3 hw hs => ?_))
  obtain ⟨e9, hw⟩ := hw; rw [e9] at hs
  exact hq_zret C hs rx3 ⟨rfl, hw⟩ dX12_isField_13
theorem iX12_spells_12 : ∀ w ∈ u_ws RX12 TX12 57, w ∈ wsX12_spells := fun w h => List.mem_cons_of_mem _ (List.mem_append_right _ h)
set_option maxRecDepth 20000 in
theorem fX12_spells_16 : hq_fl vwCl wsX12_spells RX12 16 12 4 true (.array .int) := ⟨RX12, TX12, 57, tyX12, rfl, by decide, iX12_spells_12, by decide +kernel, rfl, tyX12_ok 4 (by decide), tyX12_ok, nmX12⟩
set_option maxRecDepth 20000 in
theorem fX12_spells_20 : hq_fl vwCl wsX12_spells RX12 20 12 5 true (.array .int) := ⟨RX12, TX12, 57, tyX12, rfl, by decide, iX12_spells_12, by decide +kernel, rfl, tyX12_ok 5 (by decide), tyX12_ok, nmX12⟩
set_option maxRecDepth 20000 in
theorem fX12_spells_23 : hq_fl vwCl wsX12_spells RX12 23 12 6 true (.array .int) := ⟨RX12, TX12, 57, tyX12, rfl, by decide, iX12_spells_12, by decide +kernel, rfl, tyX12_ok 6 (by decide), tyX12_ok, nmX12⟩
set_option maxRecDepth 20000 in
theorem fX12_spells_26 : hq_fl vwCl wsX12_spells RX12 26 12 7 true (.array .int) := ⟨RX12, TX12, 57, tyX12, rfl, by decide, iX12_spells_12, by decide +kernel, rfl, tyX12_ok 7 (by decide), tyX12_ok, nmX12⟩
set_option maxRecDepth 20000 in
theorem fX12_spells_223 : hq_fl vwCl wsX12_spells RX12 223 12 1 false .int := ⟨RX12, TX12, 57, tyX12, rfl, by decide, iX12_spells_12, by decide +kernel, rfl, tyX12_ok 1 (by decide), tyX12_ok, nmX12⟩
set_option maxRecDepth 20000 in
theorem fX12_spells_231 : hq_fl vwCl wsX12_spells RX12 231 12 0 false .int := ⟨RX12, TX12, 57, tyX12, rfl, by decide, iX12_spells_12, by decide +kernel, rfl, tyX12_ok 0 (by decide), tyX12_ok, nmX12⟩
set_option maxHeartbeats 4000000 in
set_option maxRecDepth 100000 in
theorem cb_X12_spells_84 {p : Program} {l : Launch} {e : Env} {s : State} {m : MethodId} {args : Array Value} {below : List Frame} {meth : Method} {c : Code} {D : va_G} {cA : Nat → ClassId} {B : Nat} {Z : State → Prop} (v3 : Int) (rv3 : rg v3) (v4 : Int) (rv4 : rg v4) (v5 : Int) (rv5 : rg v5) (t0 : Int) (rt0 : rg t0)  {k : Int → Prop} {M : hq_M} {H : Heap} {locs : List Loc} {ls : Array Slot} (C : hq_C vwCl p m c cX12_spells 7 s args wsX12_spells RX12 meth (some .int) D cA (hq_in B YM.length) Z)
    (hw : b_X12_spells_84 v3 v4 v5 t0 k M) (hs : hq_S vwCl SLx D cA YM B s.heap M H locs) (hl : lv_has ls 7 [(0, .ref (B + 0)), (3, .int (w3 v3)), (4, .int (w3 v4)), (5, .int (w3 v5))])
     : W p l e ({ frames := 1, cells := 0, slots := 0, locals := 25 } : Room) s m args below meth c H locs 0 0 (MQ below (hq_Q vwCl SLx D cA YM B (hq_qi (fun z M' => M' = M ∧ k z))) args s 0 0 (hq_in B YM.length)) (F0 m 84 ls [.int (w3 t0)]) := by
  have hx := C.1.1
  have hb := C.1.2.1
  unfold b_X12_spells_84 at hw
  refine lv_istore (lv' := [(6, .int (w3 t0)), (0, .ref (B + 0)), (3, .int (w3 v3)), (4, .int (w3 v4)), (5, .int (w3 v5))]) hx hb dX12_spells_84 hl (by decide) rfl (fun ls hl => ?_)
  refine lv_iload hx hb dX12_spells_86 (lv_at hl 3 rfl) ?_
  refine hq_if_ge (tgt := 94) C rv4 dX12_spells_88 (by decide) (fun h => ?_) (fun h => ?_)
  · have hw := hw.1 h
    refine lv_iload hx hb dX12_spells_94 (lv_at hl 3 rfl) ?_
    refine lv_iload hx hb dX12_spells_96 (lv_at hl 0 rfl) ?_
    refine hq_icmp_lt (tgt := 106) C rv4 rt0 dX12_spells_98 (by decide) (fun h => ?_) (fun h => ?_)
    · have hw := hw.1 h
      refine lv_iload_n hx hb dX12_spells_106 rfl (lv_at hl 2 rfl) ?_
      refine hq_if_ne (tgt := 126) C rv3 dX12_spells_107 (by decide) (fun h => ?_) (fun h => ?_)
      · have hw := hw.1 h
        refine lv_aload_n hx hb dX12_spells_126 rfl (lv_at hl 1 rfl) ?_
        refine hq_getA (o := 0) C hs fX12_spells_26 tkM_0 (by decide) rfl dX12_spells_127 ?_
        refine hq_bipush C dX12_spells_130 (by decide) ?_
        refine lv_iload hx hb dX12_spells_132 (lv_at hl 4 rfl) ?_
        obtain ⟨g1, hw⟩ := hw
        refine hq_imul C dX12_spells_134 ?_
        refine lv_iload hx hb dX12_spells_135 (lv_at hl 3 rfl) ?_
        obtain ⟨g2, hw⟩ := hw
        refine hq_iadd C dX12_spells_137 ?_
        obtain ⟨g3, hw⟩ := hw
        refine hq_iald (o := 4) C hs tkM_4 g2 g3 dX12_spells_138 (fun g4 => ?_)
        exact hq_iret C hs g4 ⟨rfl, hw⟩ dX12_spells_139
      · have hw := hw.2 h
        refine lv_aload_n hx hb dX12_spells_110 rfl (lv_at hl 1 rfl) ?_
        refine hq_getA (o := 0) C hs fX12_spells_23 tkM_0 (by decide) rfl dX12_spells_111 ?_
        refine hq_bipush C dX12_spells_114 (by decide) ?_
        refine lv_iload hx hb dX12_spells_116 (lv_at hl 4 rfl) ?_
        obtain ⟨g5, hw⟩ := hw
        refine hq_imul C dX12_spells_118 ?_
        refine lv_iload hx hb dX12_spells_119 (lv_at hl 3 rfl) ?_
        obtain ⟨g6, hw⟩ := hw
        refine hq_iadd C dX12_spells_121 ?_
        obtain ⟨g7, hw⟩ := hw
        refine hq_iald (o := 3) C hs tkM_3 g6 g7 dX12_spells_122 (fun g8 => ?_)
        refine hq_goto (tgt := 139) C dX12_spells_123 (by decide) ?_
        exact hq_iret C hs g8 ⟨rfl, hw⟩ dX12_spells_139
    · have hw := hw.2 h
      refine hq_bipush C dX12_spells_101 (by decide) ?_
      refine hq_goto (tgt := 139) C dX12_spells_103 (by decide) ?_
      exact hq_iret C hs (by decide : rg (-9)) ⟨rfl, hw⟩ dX12_spells_139
  · have hw := hw.2 h
    refine lv_iload hx hb dX12_spells_91 (lv_at hl 0 rfl) ?_
    exact hq_iret C hs rt0 ⟨rfl, hw⟩ dX12_spells_93
set_option maxHeartbeats 4000000 in
set_option maxRecDepth 100000 in
theorem cb_X12_spells_28 {p : Program} {l : Launch} {e : Env} {s : State} {m : MethodId} {args : Array Value} {below : List Frame} {meth : Method} {c : Code} {D : va_G} {cA : Nat → ClassId} {B : Nat} {Z : State → Prop} (v1 : Int) (rv1 : rg v1) (v2 : Int) (rv2 : rg v2) (v3 : Int) (rv3 : rg v3) (v4 : Int) (rv4 : rg v4) (t0 : Int) (rt0 : rl t0) (t1 : Int) (rt1 : rl t1) (t2 : Int) (rt2 : rg t2)  {k : Int → Prop} {M : hq_M} {H : Heap} {locs : List Loc} {ls : Array Slot} (C : hq_C vwCl p m c cX12_spells 7 s args wsX12_spells RX12 meth (some .int) D cA (hq_in B YM.length) Z)
    (hw : b_X12_spells_28 v1 v2 v3 v4 t0 t1 t2 k M) (hs : hq_S vwCl SLx D cA YM B s.heap M H locs) (hl : lv_has ls 7 [(0, .ref (B + 0)), (1, .int (w3 v1)), (2, .int (w3 v2)), (3, .int (w3 v3)), (4, .int (w3 v4))])
     : W p l e ({ frames := 1, cells := 0, slots := 0, locals := 25 } : Room) s m args below meth c H locs 0 0 (MQ below (hq_Q vwCl SLx D cA YM B (hq_qi (fun z M' => M' = M ∧ k z))) args s 0 0 (hq_in B YM.length)) (F0 m 28 ls [.int (w3 t2), .long (w6 t1), .long (w6 t0)]) := by
  have hx := C.1.1
  have hb := C.1.2.1
  unfold b_X12_spells_28 at hw
  refine hq_iconst C dX12_spells_28 ?_
  obtain ⟨g1, hw⟩ := hw
  refine hq_isub C dX12_spells_29 ?_
  refine hq_i2l (y := 0) C g1 dX12_spells_30 ?_
  refine hq_cS (n := 3) C hs (c_X12_in l C.2.2.2.2.1 t0 rt0 t1 rt1 (t2 - 1) (rg_rl g1) _ _ hw) gX12_spells_X12_in rfl ⟨rfl, rfl⟩ (by decide +kernel) ⟨Nat.le_of_ble_eq_true rfl, Nat.le_of_ble_eq_true rfl⟩ rfl hl.1 rfl (Nat.le_of_ble_eq_true rfl) dX12_spells_31 (hq_kz (fun x2 M9 H locs rx2 hw hs => ?_))
  obtain ⟨e9, hw⟩ := hw; rw [e9] at hs
  refine hq_if_eq (tgt := 53) C (rb_rg rx2) dX12_spells_34 (by decide) (fun h => ?_) (fun h => ?_)
  · have hw := hw.1 h
    refine hq_iconst C dX12_spells_53 ?_
    exact hq_iret C hs (by decide : rg (-1)) ⟨rfl, hw⟩ dX12_spells_54
  · have hw := hw.2 h
    refine lv_iload_n hx hb dX12_spells_37 rfl (lv_at hl 3 rfl) ?_
    refine hq_i2l (y := 0) C rv3 dX12_spells_38 ?_
    refine hq_lconst (z := 0) C dX12_spells_39 rfl ?_
    refine hq_lconst (z := 1) C dX12_spells_40 rfl ?_
    refine hq_cS (n := 3) C hs (c_X12_in l C.2.2.2.2.1 v3 (rg_rl rv3) 0 (by decide : rl 0) 1 (by decide : rl 1) _ _ hw) gX12_spells_X12_in rfl ⟨rfl, rfl⟩ (by decide +kernel) ⟨Nat.le_of_ble_eq_true rfl, Nat.le_of_ble_eq_true rfl⟩ rfl hl.1 rfl (Nat.le_of_ble_eq_true rfl) dX12_spells_41 (hq_kz (fun x3 M9 H locs rx3 hw hs => ?_))
    obtain ⟨e9, hw⟩ := hw; rw [e9] at hs
    refine hq_if_eq (tgt := 53) C (rb_rg rx3) dX12_spells_44 (by decide) (fun h => ?_) (fun h => ?_)
    · have hw := hw.1 h
      refine hq_iconst C dX12_spells_53 ?_
      exact hq_iret C hs (by decide : rg (-1)) ⟨rfl, hw⟩ dX12_spells_54
    · have hw := hw.2 h
      refine lv_iload hx hb dX12_spells_47 (lv_at hl 4 rfl) ?_
      refine hq_iconst C dX12_spells_49 ?_
      refine hq_icmp_ge (tgt := 55) C rv4 (by decide : rg (-1)) dX12_spells_50 (by decide) (fun h => ?_) (fun h => ?_)
      · have hw := hw.1 h
        refine hq_bipush C dX12_spells_55 (by decide) ?_
        refine lv_iload_n hx hb dX12_spells_57 rfl (lv_at hl 1 rfl) ?_
        obtain ⟨g4, hw⟩ := hw
        refine hq_imul C dX12_spells_58 ?_
        refine lv_iload_n hx hb dX12_spells_59 rfl (lv_at hl 2 rfl) ?_
        obtain ⟨g5, hw⟩ := hw
        refine hq_iadd C dX12_spells_60 ?_
        refine hq_nm (fun x6 ex6 => ?_)
        have hw := hw x6 ex6
        have rx6 : rg x6 := by rw [ex6]; exact g5
        refine lv_istore (lv' := [(5, .int (w3 x6)), (0, .ref (B + 0)), (1, .int (w3 v1)), (2, .int (w3 v2)), (3, .int (w3 v3)), (4, .int (w3 v4))]) hx hb dX12_spells_61 hl (by decide) rfl (fun ls hl => ?_)
        refine lv_iload_n hx hb dX12_spells_63 rfl (lv_at hl 4 rfl) ?_
        refine hq_if_ne (tgt := 77) C rv3 dX12_spells_64 (by decide) (fun h => ?_) (fun h => ?_)
        · have hw := hw.1 h
          refine lv_aload_n hx hb dX12_spells_77 rfl (lv_at hl 1 rfl) ?_
          refine hq_getA (o := 0) C hs fX12_spells_20 tkM_0 (by decide) rfl dX12_spells_78 ?_
          refine lv_iload hx hb dX12_spells_81 (lv_at hl 0 rfl) ?_
          obtain ⟨g7, hw⟩ := hw
          refine hq_iald (o := 2) C hs tkM_2 rx6 g7 dX12_spells_83 (fun g8 => ?_)
          refine cb_X12_spells_84 v3 rv3 v4 rv4 x6 rx6 (M 2 x6.toNat) g8 C hw hs (lv_sub hl [1, 4, 5, 0] rfl) 
        · have hw := hw.2 h
          refine lv_aload_n hx hb dX12_spells_67 rfl (lv_at hl 1 rfl) ?_
          refine hq_getA (o := 0) C hs fX12_spells_16 tkM_0 (by decide) rfl dX12_spells_68 ?_
          refine lv_iload hx hb dX12_spells_71 (lv_at hl 0 rfl) ?_
          obtain ⟨g9, hw⟩ := hw
          refine hq_iald (o := 1) C hs tkM_1 rx6 g9 dX12_spells_73 (fun g10 => ?_)
          refine hq_goto (tgt := 84) C dX12_spells_74 (by decide) ?_
          refine cb_X12_spells_84 v3 rv3 v4 rv4 x6 rx6 (M 1 x6.toNat) g10 C hw hs (lv_sub hl [1, 4, 5, 0] rfl) 
      · have hw := hw.2 h
        refine hq_iconst C dX12_spells_53 ?_
        exact hq_iret C hs (by decide : rg (-1)) ⟨rfl, hw⟩ dX12_spells_54
set_option maxHeartbeats 4000000 in
set_option maxRecDepth 100000 in
theorem c_X12_spells (l : Launch) {D : va_G} {cA : Nat → ClassId} {B : Nat} {Z : State → Prop} (hZ : hq_Zo Z (hq_in B YM.length)) (v1 : Int) (rv1 : rg v1) (v2 : Int) (rv2 : rg v2) (v3 : Int) (rv3 : rg v3) (v4 : Int) (rv4 : rg v4) (M : hq_M) (k : Int → Prop) (hw : w_X12_spells v1 v2 v3 v4 M k) : hq_T vwCl SLx l yX12_spells wsX12_spells ({ frames := 1, cells := 0, slots := 0, locals := 25 } : Room) D cA YM B Z [.ref (B + 0), .int (w3 v1), .int (w3 v2), .int (w3 v3), .int (w3 v4)] M (hq_qi (fun z M' => M' = M ∧ k z)) := by
  refine hq_meth (cc := cX12_spells) (maxL := 7) (ret := (some .int)) (own := RX12) hZ rfl (by decide +kernel) rfl (Nat.le_of_ble_eq_true rfl) ?_
  intro p e s m below meth c ls C hs hl
  have hx := C.1.1
  have hb := C.1.2.1
  unfold w_X12_spells at hw
  have hl : lv_has ls 7 [(0, .ref (B + 0)), (1, .int (w3 v1)), (2, .int (w3 v2)), (3, .int (w3 v3)), (4, .int (w3 v4))] := hl
  refine lv_iload_n hx hb dX12_spells_0 rfl (lv_at hl 1 rfl) ?_
  refine hq_i2l (y := 0) C rv1 dX12_spells_1 ?_
  refine hq_lconst (z := 0) C dX12_spells_2 rfl ?_
  refine hq_lconst (z := 1) C dX12_spells_3 rfl ?_
  refine hq_cS (n := 3) C hs (c_X12_in l C.2.2.2.2.1 v1 (rg_rl rv1) 0 (by decide : rl 0) 1 (by decide : rl 1) _ _ hw) gX12_spells_X12_in rfl ⟨rfl, rfl⟩ (by decide +kernel) ⟨Nat.le_of_ble_eq_true rfl, Nat.le_of_ble_eq_true rfl⟩ rfl hl.1 rfl (Nat.le_of_ble_eq_true rfl) dX12_spells_4 (hq_kz (fun x1 M9 H locs rx1 hw hs => ?_))
  obtain ⟨e9, hw⟩ := hw; rw [e9] at hs
  refine hq_if_eq (tgt := 53) C (rb_rg rx1) dX12_spells_7 (by decide) (fun h => ?_) (fun h => ?_)
  · have hw := hw.1 h
    refine hq_iconst C dX12_spells_53 ?_
    exact hq_iret C hs (by decide : rg (-1)) ⟨rfl, hw⟩ dX12_spells_54
  · have hw := hw.2 h
    refine lv_iload_n hx hb dX12_spells_10 rfl (lv_at hl 2 rfl) ?_
    refine hq_i2l (y := 0) C rv2 dX12_spells_11 ?_
    refine hq_lconst (z := 0) C dX12_spells_12 rfl ?_
    refine lv_iload_n hx hb dX12_spells_13 rfl (lv_at hl 1 rfl) ?_
    refine hq_if_ne (tgt := 24) C rv1 dX12_spells_14 (by decide) (fun h => ?_) (fun h => ?_)
    · have hw := hw.1 h
      refine lv_aload_n hx hb dX12_spells_24 rfl (lv_at hl 0 rfl) ?_
      refine hq_getI (o := 0) C hs fX12_spells_223 tkM_0 (by decide) rfl dX12_spells_25 (fun g2 => ?_)
      refine cb_X12_spells_28 v1 rv1 v2 rv2 v3 rv3 v4 rv4 v2 (rg_rl rv2) 0 (by decide : rl 0) (M 0 1) g2 C hw hs (lv_sub hl [0, 1, 2, 3, 4] rfl) 
    · have hw := hw.2 h
      refine lv_aload_n hx hb dX12_spells_17 rfl (lv_at hl 0 rfl) ?_
      refine hq_getI (o := 0) C hs fX12_spells_231 tkM_0 (by decide) rfl dX12_spells_18 (fun g3 => ?_)
      refine hq_goto (tgt := 28) C dX12_spells_21 (by decide) ?_
      refine cb_X12_spells_28 v1 rv1 v2 rv2 v3 rv3 v4 rv4 v2 (rg_rl rv2) 0 (by decide : rl 0) (M 0 0) g3 C hw hs (lv_sub hl [0, 1, 2, 3, 4] rfl) 
theorem iX12_fieldAt_12 : ∀ w ∈ u_ws RX12 TX12 57, w ∈ wsX12_fieldAt := fun w h => List.mem_cons_of_mem _ (List.mem_append_right _ h)
set_option maxRecDepth 20000 in
theorem fX12_fieldAt_44 : hq_fl vwCl wsX12_fieldAt RX12 44 12 22 true (.array .int) := ⟨RX12, TX12, 57, tyX12, rfl, by decide, iX12_fieldAt_12, by decide +kernel, rfl, tyX12_ok 22 (by decide), tyX12_ok, nmX12⟩
set_option maxHeartbeats 4000000 in
set_option maxRecDepth 100000 in
theorem c_X12_fieldAt (l : Launch) {D : va_G} {cA : Nat → ClassId} {B : Nat} {Z : State → Prop} (hZ : hq_Zo Z (hq_in B YM.length)) (v1 : Int) (rv1 : rg v1) (v2 : Int) (rv2 : rg v2) (M : hq_M) (k : Int → Prop) (hw : w_X12_fieldAt v1 v2 M k) : hq_T vwCl SLx l yX12_fieldAt wsX12_fieldAt ({ frames := 0, cells := 0, slots := 0, locals := 0 } : Room) D cA YM B Z [.ref (B + 0), .int (w3 v1), .int (w3 v2)] M (hq_qi (fun z M' => M' = M ∧ k z)) := by
  refine hq_meth (cc := cX12_fieldAt) (maxL := 3) (ret := (some .int)) (own := RX12) hZ rfl (by decide +kernel) rfl (Nat.le_of_ble_eq_true rfl) ?_
  intro p e s m below meth c ls C hs hl
  have hx := C.1.1
  have hb := C.1.2.1
  unfold w_X12_fieldAt at hw
  have hl : lv_has ls 3 [(0, .ref (B + 0)), (1, .int (w3 v1)), (2, .int (w3 v2))] := hl
  refine lv_aload_n hx hb dX12_fieldAt_0 rfl (lv_at hl 0 rfl) ?_
  refine hq_getA (o := 0) C hs fX12_fieldAt_44 tkM_0 (by decide) rfl dX12_fieldAt_1 ?_
  refine hq_bipush C dX12_fieldAt_4 (by decide) ?_
  refine lv_iload_n hx hb dX12_fieldAt_6 rfl (lv_at hl 1 rfl) ?_
  obtain ⟨g1, hw⟩ := hw
  refine hq_imul C dX12_fieldAt_7 ?_
  refine lv_iload_n hx hb dX12_fieldAt_8 rfl (lv_at hl 2 rfl) ?_
  refine hq_bipush C dX12_fieldAt_9 (by decide) ?_
  obtain ⟨g2, hw⟩ := hw
  refine hq_irem C rv2 (by decide : rg 64) g2 dX12_fieldAt_11 ?_
  obtain ⟨g3, hw⟩ := hw
  refine hq_iadd C dX12_fieldAt_12 ?_
  obtain ⟨g4, hw⟩ := hw
  refine hq_iald (o := 10) C hs tkM_10 g3 g4 dX12_fieldAt_13 (fun g5 => ?_)
  exact hq_iret C hs g5 ⟨rfl, hw⟩ dX12_fieldAt_14
theorem iX12_isThere_12 : ∀ w ∈ u_ws RX12 TX12 57, w ∈ wsX12_isThere := fun w h => List.mem_cons_of_mem _ (List.mem_append_right _ h)
set_option maxRecDepth 20000 in
theorem fX12_isThere_32 : hq_fl vwCl wsX12_isThere RX12 32 12 18 true (.array .int) := ⟨RX12, TX12, 57, tyX12, rfl, by decide, iX12_isThere_12, by decide +kernel, rfl, tyX12_ok 18 (by decide), tyX12_ok, nmX12⟩
set_option maxRecDepth 20000 in
theorem fX12_isThere_35 : hq_fl vwCl wsX12_isThere RX12 35 12 19 true (.array .int) := ⟨RX12, TX12, 57, tyX12, rfl, by decide, iX12_isThere_12, by decide +kernel, rfl, tyX12_ok 19 (by decide), tyX12_ok, nmX12⟩
set_option maxHeartbeats 4000000 in
set_option maxRecDepth 100000 in
theorem c_X12_isThere (l : Launch) {D : va_G} {cA : Nat → ClassId} {B : Nat} {Z : State → Prop} (hZ : hq_Zo Z (hq_in B YM.length)) (v1 : Int) (rv1 : rg v1) (v2 : Int) (rv2 : rg v2) (M : hq_M) (k : Int → Prop) (hw : w_X12_isThere v1 v2 M k) : hq_T vwCl SLx l yX12_isThere wsX12_isThere ({ frames := 1, cells := 0, slots := 0, locals := 25 } : Room) D cA YM B Z [.ref (B + 0), .int (w3 v1), .int (w3 v2)] M (hq_qz (fun z M' => M' = M ∧ k z)) := by
  refine hq_meth (cc := cX12_isThere) (maxL := 3) (ret := (some .boolean)) (own := RX12) hZ rfl (by decide +kernel) rfl (Nat.le_of_ble_eq_true rfl) ?_
  intro p e s m below meth c ls C hs hl
  have hx := C.1.1
  have hb := C.1.2.1
  unfold w_X12_isThere at hw
  have hl : lv_has ls 3 [(0, .ref (B + 0)), (1, .int (w3 v1)), (2, .int (w3 v2))] := hl
  refine lv_iload_n hx hb dX12_isThere_0 rfl (lv_at hl 2 rfl) ?_
  refine hq_i2l (y := 0) C rv2 dX12_isThere_1 ?_
  refine lv_aload_n hx hb dX12_isThere_2 rfl (lv_at hl 0 rfl) ?_
  refine hq_getA (o := 0) C hs fX12_isThere_35 tkM_0 (by decide) rfl dX12_isThere_3 ?_
  refine lv_iload_n hx hb dX12_isThere_6 rfl (lv_at hl 1 rfl) ?_
  obtain ⟨g1, hw⟩ := hw
  refine hq_iald (o := 7) C hs tkM_7 rv1 g1 dX12_isThere_7 (fun g2 => ?_)
  refine hq_i2l (y := 0) C g2 dX12_isThere_8 ?_
  refine lv_aload_n hx hb dX12_isThere_9 rfl (lv_at hl 0 rfl) ?_
  refine hq_getA (o := 0) C hs fX12_isThere_32 tkM_0 (by decide) rfl dX12_isThere_10 ?_
  refine lv_iload_n hx hb dX12_isThere_13 rfl (lv_at hl 1 rfl) ?_
  obtain ⟨g3, hw⟩ := hw
  refine hq_iald (o := 6) C hs tkM_6 rv1 g3 dX12_isThere_14 (fun g4 => ?_)
  refine hq_iconst C dX12_isThere_15 ?_
  obtain ⟨g5, hw⟩ := hw
  refine hq_isub C dX12_isThere_16 ?_
  refine hq_i2l (y := 0) C g5 dX12_isThere_17 ?_
  refine hq_cS (n := 3) C hs (c_X12_in l C.2.2.2.2.1 v2 (rg_rl rv2) (M 7 v1.toNat) (rg_rl g2) ((M 6 v1.toNat) - 1) (rg_rl g5) _ _ hw) gX12_isThere_X12_in rfl ⟨rfl, rfl⟩ (by decide +kernel) ⟨Nat.le_of_ble_eq_true rfl, Nat.le_of_ble_eq_true rfl⟩ rfl hl.1 rfl (Nat.le_of_ble_eq_true rfl) dX12_isThere_18 (hq_kz (fun x6 M9 H locs rx6 hw hs => ?_))
  obtain ⟨e9, hw⟩ := hw; rw [e9] at hs
  exact hq_zret C hs rx6 ⟨rfl, hw⟩ dX12_isThere_21
theorem iX12_goes_12 : ∀ w ∈ u_ws RX12 TX12 57, w ∈ wsX12_goes := fun w h => List.mem_cons_of_mem _ (List.mem_append_right _ h)
set_option maxRecDepth 20000 in
theorem fX12_goes_35 : hq_fl vwCl wsX12_goes RX12 35 12 19 true (.array .int) := ⟨RX12, TX12, 57, tyX12, rfl, by decide, iX12_goes_12, by decide +kernel, rfl, tyX12_ok 19 (by decide), tyX12_ok, nmX12⟩
set_option maxRecDepth 20000 in
theorem fX12_goes_41 : hq_fl vwCl wsX12_goes RX12 41 12 21 true (.array .int) := ⟨RX12, TX12, 57, tyX12, rfl, by decide, iX12_goes_12, by decide +kernel, rfl, tyX12_ok 21 (by decide), tyX12_ok, nmX12⟩
set_option maxHeartbeats 4000000 in
set_option maxRecDepth 100000 in
theorem c_X12_goes (l : Launch) {D : va_G} {cA : Nat → ClassId} {B : Nat} {Z : State → Prop} (hZ : hq_Zo Z (hq_in B YM.length)) (v1 : Int) (rv1 : rg v1) (M : hq_M) (k : hq_M → Prop) (hw : w_X12_goes v1 M k) : hq_T vwCl SLx l yX12_goes wsX12_goes ({ frames := 1, cells := 0, slots := 0, locals := 22 } : Room) D cA YM B Z [.ref (B + 0), .int (w3 v1)] M (hq_qv k) := by
  refine hq_meth (cc := cX12_goes) (maxL := 2) (ret := none) (own := RX12) hZ rfl (by decide +kernel) rfl (Nat.le_of_ble_eq_true rfl) ?_
  intro p e s m below meth c ls C hs hl
  have hx := C.1.1
  have hb := C.1.2.1
  unfold w_X12_goes at hw
  have hl : lv_has ls 2 [(0, .ref (B + 0)), (1, .int (w3 v1))] := hl
  refine lv_aload_n hx hb dX12_goes_0 rfl (lv_at hl 0 rfl) ?_
  refine hq_getA (o := 0) C hs fX12_goes_41 tkM_0 (by decide) rfl dX12_goes_1 ?_
  refine lv_iload_n hx hb dX12_goes_4 rfl (lv_at hl 1 rfl) ?_
  refine lv_dup2_11 hx hb dX12_goes_5 rfl rfl ?_
  obtain ⟨g1, hw⟩ := hw
  refine hq_iald (o := 9) C hs tkM_9 rv1 g1 dX12_goes_6 (fun g2 => ?_)
  refine lv_aload_n hx hb dX12_goes_7 rfl (lv_at hl 0 rfl) ?_
  refine lv_aload_n hx hb dX12_goes_8 rfl (lv_at hl 0 rfl) ?_
  refine lv_iload_n hx hb dX12_goes_9 rfl (lv_at hl 1 rfl) ?_
  refine lv_aload_n hx hb dX12_goes_10 rfl (lv_at hl 0 rfl) ?_
  refine hq_getA (o := 0) C hs fX12_goes_35 tkM_0 (by decide) rfl dX12_goes_11 ?_
  refine lv_iload_n hx hb dX12_goes_14 rfl (lv_at hl 1 rfl) ?_
  obtain ⟨g3, hw⟩ := hw
  refine hq_iald (o := 7) C hs tkM_7 rv1 g3 dX12_goes_15 (fun g4 => ?_)
  refine hq_cV (n := 2) (ci := 12) (o := 0) (qc := (TX12, 57)) C hs (c_X12_fieldAt l C.2.2.2.2.1 v1 rv1 (M 7 v1.toNat) g4 _ _ hw) gX12_goes_X12_fieldAt rfl ⟨rfl, rfl⟩ (by decide +kernel) ⟨Nat.le_of_ble_eq_true rfl, Nat.le_of_ble_eq_true rfl⟩ tkM_0 (by decide) rfl rfl hl.1 rfl (Nat.le_of_ble_eq_true rfl) dX12_goes_16 (hq_ki (fun x5 M9 H locs rx5 hw hs => ?_))
  obtain ⟨e9, hw⟩ := hw; rw [e9] at hs
  refine hq_cV (n := 1) (ci := 12) (o := 0) (qc := (TX12, 57)) C hs (c_X12_sizeOf l C.2.2.2.2.1 x5 rx5 _ _ hw) gX12_goes_X12_sizeOf rfl ⟨rfl, rfl⟩ (by decide +kernel) ⟨Nat.le_of_ble_eq_true rfl, Nat.le_of_ble_eq_true rfl⟩ tkM_0 (by decide) rfl rfl hl.1 rfl (Nat.le_of_ble_eq_true rfl) dX12_goes_19 (hq_ki (fun x6 M9 H locs rx6 hw hs => ?_))
  obtain ⟨e9, hw⟩ := hw; rw [e9] at hs
  obtain ⟨g7, hw⟩ := hw
  refine hq_isub C dX12_goes_22 ?_
  obtain ⟨g8, hw⟩ := hw
  refine hq_iast (o := 9) C hs tkM_9 rv1 g8 g7 dX12_goes_23 (fun M9 eM9 H locs hs => ?_)
  have hw := hw M9 eM9
  refine lv_aload_n hx hb dX12_goes_24 rfl (lv_at hl 0 rfl) ?_
  refine hq_getA (o := 0) C hs fX12_goes_35 tkM_0 (by decide) rfl dX12_goes_25 ?_
  refine lv_iload_n hx hb dX12_goes_28 rfl (lv_at hl 1 rfl) ?_
  refine lv_dup2_11 hx hb dX12_goes_29 rfl rfl ?_
  obtain ⟨g10, hw⟩ := hw
  refine hq_iald (o := 7) C hs tkM_7 rv1 g10 dX12_goes_30 (fun g11 => ?_)
  refine hq_iconst C dX12_goes_31 ?_
  obtain ⟨g12, hw⟩ := hw
  refine hq_iadd C dX12_goes_32 ?_
  obtain ⟨g13, hw⟩ := hw
  refine hq_iast (o := 7) C hs tkM_7 rv1 g13 g12 dX12_goes_33 (fun M14 eM14 H locs hs => ?_)
  have hw := hw M14 eM14
  exact hq_vret C hs hw dX12_goes_34
theorem iX12_makesRoom_12 : ∀ w ∈ u_ws RX12 TX12 57, w ∈ wsX12_makesRoom := fun w h => List.mem_cons_of_mem _ (List.mem_append_right _ h)
set_option maxRecDepth 20000 in
theorem fX12_makesRoom_38 : hq_fl vwCl wsX12_makesRoom RX12 38 12 20 true (.array .int) := ⟨RX12, TX12, 57, tyX12, rfl, by decide, iX12_makesRoom_12, by decide +kernel, rfl, tyX12_ok 20 (by decide), tyX12_ok, nmX12⟩
set_option maxRecDepth 20000 in
theorem fX12_makesRoom_41 : hq_fl vwCl wsX12_makesRoom RX12 41 12 21 true (.array .int) := ⟨RX12, TX12, 57, tyX12, rfl, by decide, iX12_makesRoom_12, by decide +kernel, rfl, tyX12_ok 21 (by decide), tyX12_ok, nmX12⟩
set_option maxHeartbeats 4000000 in
set_option maxRecDepth 100000 in
theorem cl_X12_makesRoom_2 {p : Program} {l : Launch} {e : Env} {s : State} {m : MethodId} {args : Array Value} {below : List Frame} {meth : Method} {c : Code} {D : va_G} {cA : Nat → ClassId} {B : Nat} {Z : State → Prop} (v1 : Int) (rv1 : rg v1) (v2 : Int) (rv2 : rg v2)  {k : Int → hq_M → Prop} (C : hq_C vwCl p m c cX12_makesRoom 4 s args wsX12_makesRoom RX12 meth (some .int) D cA (hq_in B YM.length) Z)
     : ∀ (n : Nat) (v3 : Int) (rv3 : rg v3) (M : hq_M) (H : Heap) (locs : List Loc) (ls : Array Slot), l_X12_makesRoom_2 v1 v2 k n v3 M → hq_S vwCl SLx D cA YM B s.heap M H locs → lv_has ls 4 [(0, .ref (B + 0)), (1, .int (w3 v1)), (2, .int (w3 v2)), (3, .int (w3 v3))] → W p l e ({ frames := 2, cells := 0, slots := 0, locals := 43 } : Room) s m args below meth c H locs 0 0 (MQ below (hq_Q vwCl SLx D cA YM B (hq_qi k)) args s 0 0 (hq_in B YM.length)) (F0 m 2 ls []) := by
  have hx := C.1.1
  have hb := C.1.2.1
  intro n
  induction n with
  | zero => intro v3 rv3 M H locs ls hw hs hl; exact hw.elim
  | succ n ih =>
    intro v3 rv3 M H locs ls hw hs hl
    unfold l_X12_makesRoom_2 at hw
    refine lv_aload_n hx hb dX12_makesRoom_2 rfl (lv_at hl 0 rfl) ?_
    refine hq_getA (o := 0) C hs fX12_makesRoom_41 tkM_0 (by decide) rfl dX12_makesRoom_3 ?_
    refine lv_iload_n hx hb dX12_makesRoom_6 rfl (lv_at hl 1 rfl) ?_
    obtain ⟨g1, hw⟩ := hw
    refine hq_iald (o := 9) C hs tkM_9 rv1 g1 dX12_makesRoom_7 (fun g2 => ?_)
    refine lv_iload_n hx hb dX12_makesRoom_8 rfl (lv_at hl 2 rfl) ?_
    obtain ⟨g3, hw⟩ := hw
    refine hq_iadd C dX12_makesRoom_9 ?_
    refine lv_aload_n hx hb dX12_makesRoom_10 rfl (lv_at hl 0 rfl) ?_
    refine hq_getA (o := 0) C hs fX12_makesRoom_38 tkM_0 (by decide) rfl dX12_makesRoom_11 ?_
    refine lv_iload_n hx hb dX12_makesRoom_14 rfl (lv_at hl 1 rfl) ?_
    obtain ⟨g4, hw⟩ := hw
    refine hq_iald (o := 8) C hs tkM_8 rv1 g4 dX12_makesRoom_15 (fun g5 => ?_)
    refine hq_icmp_le (tgt := 30) C g3 g5 dX12_makesRoom_16 (by decide) (fun h => ?_) (fun h => ?_)
    · have hw := hw.1 h
      refine lv_iload_n hx hb dX12_makesRoom_30 rfl (lv_at hl 3 rfl) ?_
      exact hq_iret C hs rv3 hw dX12_makesRoom_31
    · have hw := hw.2 h
      refine lv_aload_n hx hb dX12_makesRoom_19 rfl (lv_at hl 0 rfl) ?_
      refine lv_iload_n hx hb dX12_makesRoom_20 rfl (lv_at hl 1 rfl) ?_
      refine hq_cV (n := 1) (ci := 12) (o := 0) (qc := (TX12, 57)) C hs (c_X12_goes l C.2.2.2.2.1 v1 rv1 _ _ hw) gX12_makesRoom_X12_goes rfl ⟨rfl, rfl⟩ (by decide +kernel) ⟨Nat.le_of_ble_eq_true rfl, Nat.le_of_ble_eq_true rfl⟩ tkM_0 (by decide) rfl rfl hl.1 rfl (Nat.le_of_ble_eq_true rfl) dX12_makesRoom_21 (hq_kv (fun M6 H locs hw hs => ?_))
      obtain ⟨g8, hw⟩ := hw
      refine hq_iinc (k := 3) C dX12_makesRoom_24 hl rfl (by decide) (fun x7 ex7 ls hl => ?_)
      have hw := hw x7 ex7
      have rx7 : rg x7 := by rw [ex7]; exact g8
      have hl : lv_has ls 4 [(3, .int (w3 x7)), (0, .ref (B + 0)), (1, .int (w3 v1)), (2, .int (w3 v2))] := hl
      refine hq_goto (tgt := 2) C dX12_makesRoom_27 (by decide) ?_
      exact ih x7 rx7 _ _ _ _ hw hs (lv_sub hl [1, 2, 3, 0] rfl)
set_option maxHeartbeats 4000000 in
set_option maxRecDepth 100000 in
theorem c_X12_makesRoom (l : Launch) {D : va_G} {cA : Nat → ClassId} {B : Nat} {Z : State → Prop} (hZ : hq_Zo Z (hq_in B YM.length)) (v1 : Int) (rv1 : rg v1) (v2 : Int) (rv2 : rg v2) (M : hq_M) (k : Int → hq_M → Prop) (hw : w_X12_makesRoom v1 v2 M k) : hq_T vwCl SLx l yX12_makesRoom wsX12_makesRoom ({ frames := 2, cells := 0, slots := 0, locals := 43 } : Room) D cA YM B Z [.ref (B + 0), .int (w3 v1), .int (w3 v2)] M (hq_qi k) := by
  refine hq_meth (cc := cX12_makesRoom) (maxL := 4) (ret := (some .int)) (own := RX12) hZ rfl (by decide +kernel) rfl (Nat.le_of_ble_eq_true rfl) ?_
  intro p e s m below meth c ls C hs hl
  have hx := C.1.1
  have hb := C.1.2.1
  unfold w_X12_makesRoom at hw
  have hl : lv_has ls 4 [(0, .ref (B + 0)), (1, .int (w3 v1)), (2, .int (w3 v2))] := hl
  refine hq_iconst C dX12_makesRoom_0 ?_
  refine lv_istore_n (lv' := [(3, .int (w3 0)), (0, .ref (B + 0)), (1, .int (w3 v1)), (2, .int (w3 v2))]) hx hb dX12_makesRoom_1 rfl hl (by decide) rfl (fun ls hl => ?_)
  obtain ⟨n9, hw⟩ := hw
  refine cl_X12_makesRoom_2 v1 rv1 v2 rv2 C  n9 0 (by decide : rg 0) _ _ _ _ hw hs (lv_sub hl [1, 2, 3, 0] rfl)
theorem iX12_comes_12 : ∀ w ∈ u_ws RX12 TX12 57, w ∈ wsX12_comes := fun w h => List.mem_cons_of_mem _ (List.mem_append_right _ h)
set_option maxRecDepth 20000 in
theorem fX12_comes_32 : hq_fl vwCl wsX12_comes RX12 32 12 18 true (.array .int) := ⟨RX12, TX12, 57, tyX12, rfl, by decide, iX12_comes_12, by decide +kernel, rfl, tyX12_ok 18 (by decide), tyX12_ok, nmX12⟩
set_option maxRecDepth 20000 in
theorem fX12_comes_41 : hq_fl vwCl wsX12_comes RX12 41 12 21 true (.array .int) := ⟨RX12, TX12, 57, tyX12, rfl, by decide, iX12_comes_12, by decide +kernel, rfl, tyX12_ok 21 (by decide), tyX12_ok, nmX12⟩
set_option maxRecDepth 20000 in
theorem fX12_comes_44 : hq_fl vwCl wsX12_comes RX12 44 12 22 true (.array .int) := ⟨RX12, TX12, 57, tyX12, rfl, by decide, iX12_comes_12, by decide +kernel, rfl, tyX12_ok 22 (by decide), tyX12_ok, nmX12⟩
set_option maxHeartbeats 4000000 in
set_option maxRecDepth 100000 in
theorem c_X12_comes (l : Launch) {D : va_G} {cA : Nat → ClassId} {B : Nat} {Z : State → Prop} (hZ : hq_Zo Z (hq_in B YM.length)) (v1 : Int) (rv1 : rg v1) (v2 : Int) (rv2 : rg v2) (M : hq_M) (k : hq_M → Prop) (hw : w_X12_comes v1 v2 M k) : hq_T vwCl SLx l yX12_comes wsX12_comes ({ frames := 3, cells := 0, slots := 0, locals := 66 } : Room) D cA YM B Z [.ref (B + 0), .int (w3 v1), .int (w3 v2)] M (hq_qv k) := by
  refine hq_meth (cc := cX12_comes) (maxL := 3) (ret := none) (own := RX12) hZ rfl (by decide +kernel) rfl (Nat.le_of_ble_eq_true rfl) ?_
  intro p e s m below meth c ls C hs hl
  have hx := C.1.1
  have hb := C.1.2.1
  unfold w_X12_comes at hw
  have hl : lv_has ls 3 [(0, .ref (B + 0)), (1, .int (w3 v1)), (2, .int (w3 v2))] := hl
  refine lv_aload_n hx hb dX12_comes_0 rfl (lv_at hl 0 rfl) ?_
  refine lv_iload_n hx hb dX12_comes_1 rfl (lv_at hl 1 rfl) ?_
  refine lv_aload_n hx hb dX12_comes_2 rfl (lv_at hl 0 rfl) ?_
  refine lv_iload_n hx hb dX12_comes_3 rfl (lv_at hl 2 rfl) ?_
  refine hq_cV (n := 1) (ci := 12) (o := 0) (qc := (TX12, 57)) C hs (c_X12_sizeOf l C.2.2.2.2.1 v2 rv2 _ _ hw) gX12_comes_X12_sizeOf rfl ⟨rfl, rfl⟩ (by decide +kernel) ⟨Nat.le_of_ble_eq_true rfl, Nat.le_of_ble_eq_true rfl⟩ tkM_0 (by decide) rfl rfl hl.1 rfl (Nat.le_of_ble_eq_true rfl) dX12_comes_4 (hq_ki (fun x1 M9 H locs rx1 hw hs => ?_))
  obtain ⟨e9, hw⟩ := hw; rw [e9] at hs
  refine hq_cV (n := 2) (ci := 12) (o := 0) (qc := (TX12, 57)) C hs (c_X12_makesRoom l C.2.2.2.2.1 v1 rv1 x1 rx1 _ _ hw) gX12_comes_X12_makesRoom rfl ⟨rfl, rfl⟩ (by decide +kernel) ⟨Nat.le_of_ble_eq_true rfl, Nat.le_of_ble_eq_true rfl⟩ tkM_0 (by decide) rfl rfl hl.1 rfl (Nat.le_of_ble_eq_true rfl) dX12_comes_7 (hq_ki (fun x3 M2 H locs rx3 hw hs => ?_))
  refine lv_pop hx hb dX12_comes_10 rfl ?_
  refine lv_aload_n hx hb dX12_comes_11 rfl (lv_at hl 0 rfl) ?_
  refine hq_getA (o := 0) C hs fX12_comes_44 tkM_0 (by decide) rfl dX12_comes_12 ?_
  refine hq_bipush C dX12_comes_15 (by decide) ?_
  refine lv_iload_n hx hb dX12_comes_17 rfl (lv_at hl 1 rfl) ?_
  obtain ⟨g4, hw⟩ := hw
  refine hq_imul C dX12_comes_18 ?_
  refine lv_aload_n hx hb dX12_comes_19 rfl (lv_at hl 0 rfl) ?_
  refine hq_getA (o := 0) C hs fX12_comes_32 tkM_0 (by decide) rfl dX12_comes_20 ?_
  refine lv_iload_n hx hb dX12_comes_23 rfl (lv_at hl 1 rfl) ?_
  obtain ⟨g5, hw⟩ := hw
  refine hq_iald (o := 6) C hs tkM_6 rv1 g5 dX12_comes_24 (fun g6 => ?_)
  refine hq_bipush C dX12_comes_25 (by decide) ?_
  obtain ⟨g7, hw⟩ := hw
  refine hq_irem C g6 (by decide : rg 64) g7 dX12_comes_27 ?_
  obtain ⟨g8, hw⟩ := hw
  refine hq_iadd C dX12_comes_28 ?_
  refine lv_iload_n hx hb dX12_comes_29 rfl (lv_at hl 2 rfl) ?_
  obtain ⟨g9, hw⟩ := hw
  refine hq_iast (o := 10) C hs tkM_10 g8 g9 rv2 dX12_comes_30 (fun M10 eM10 H locs hs => ?_)
  have hw := hw M10 eM10
  refine lv_aload_n hx hb dX12_comes_31 rfl (lv_at hl 0 rfl) ?_
  refine hq_getA (o := 0) C hs fX12_comes_32 tkM_0 (by decide) rfl dX12_comes_32 ?_
  refine lv_iload_n hx hb dX12_comes_35 rfl (lv_at hl 1 rfl) ?_
  refine lv_dup2_11 hx hb dX12_comes_36 rfl rfl ?_
  obtain ⟨g11, hw⟩ := hw
  refine hq_iald (o := 6) C hs tkM_6 rv1 g11 dX12_comes_37 (fun g12 => ?_)
  refine hq_iconst C dX12_comes_38 ?_
  obtain ⟨g13, hw⟩ := hw
  refine hq_iadd C dX12_comes_39 ?_
  obtain ⟨g14, hw⟩ := hw
  refine hq_iast (o := 6) C hs tkM_6 rv1 g14 g13 dX12_comes_40 (fun M15 eM15 H locs hs => ?_)
  have hw := hw M15 eM15
  refine lv_aload_n hx hb dX12_comes_41 rfl (lv_at hl 0 rfl) ?_
  refine hq_getA (o := 0) C hs fX12_comes_41 tkM_0 (by decide) rfl dX12_comes_42 ?_
  refine lv_iload_n hx hb dX12_comes_45 rfl (lv_at hl 1 rfl) ?_
  refine lv_dup2_11 hx hb dX12_comes_46 rfl rfl ?_
  obtain ⟨g16, hw⟩ := hw
  refine hq_iald (o := 9) C hs tkM_9 rv1 g16 dX12_comes_47 (fun g17 => ?_)
  refine lv_aload_n hx hb dX12_comes_48 rfl (lv_at hl 0 rfl) ?_
  refine lv_iload_n hx hb dX12_comes_49 rfl (lv_at hl 2 rfl) ?_
  refine hq_cV (n := 1) (ci := 12) (o := 0) (qc := (TX12, 57)) C hs (c_X12_sizeOf l C.2.2.2.2.1 v2 rv2 _ _ hw) gX12_comes_X12_sizeOf rfl ⟨rfl, rfl⟩ (by decide +kernel) ⟨Nat.le_of_ble_eq_true rfl, Nat.le_of_ble_eq_true rfl⟩ tkM_0 (by decide) rfl rfl hl.1 rfl (Nat.le_of_ble_eq_true rfl) dX12_comes_50 (hq_ki (fun x18 M9 H locs rx18 hw hs => ?_))
  obtain ⟨e9, hw⟩ := hw; rw [e9] at hs
  obtain ⟨g19, hw⟩ := hw
  refine hq_iadd C dX12_comes_53 ?_
  obtain ⟨g20, hw⟩ := hw
  refine hq_iast (o := 9) C hs tkM_9 rv1 g20 g19 dX12_comes_54 (fun M21 eM21 H locs hs => ?_)
  have hw := hw M21 eM21
  exact hq_vret C hs hw dX12_comes_55
theorem iX12_isHeldBy_12 : ∀ w ∈ u_ws RX12 TX12 57, w ∈ wsX12_isHeldBy := fun w h => List.mem_cons_of_mem _ (List.mem_append_right _ h)
set_option maxRecDepth 20000 in
theorem fX12_isHeldBy_62 : hq_fl vwCl wsX12_isHeldBy RX12 62 12 31 true (.array .boolean) := ⟨RX12, TX12, 57, tyX12, rfl, by decide, iX12_isHeldBy_12, by decide +kernel, rfl, tyX12_ok 31 (by decide), tyX12_ok, nmX12⟩
set_option maxRecDepth 20000 in
theorem fX12_isHeldBy_66 : hq_fl vwCl wsX12_isHeldBy RX12 66 12 32 true (.array .int) := ⟨RX12, TX12, 57, tyX12, rfl, by decide, iX12_isHeldBy_12, by decide +kernel, rfl, tyX12_ok 32 (by decide), tyX12_ok, nmX12⟩
set_option maxRecDepth 20000 in
theorem fX12_isHeldBy_72 : hq_fl vwCl wsX12_isHeldBy RX12 72 12 34 true (.array .int) := ⟨RX12, TX12, 57, tyX12, rfl, by decide, iX12_isHeldBy_12, by decide +kernel, rfl, tyX12_ok 34 (by decide), tyX12_ok, nmX12⟩
set_option maxHeartbeats 4000000 in
set_option maxRecDepth 100000 in
theorem cb_X12_isHeldBy_50 {p : Program} {l : Launch} {e : Env} {s : State} {m : MethodId} {args : Array Value} {below : List Frame} {meth : Method} {c : Code} {D : va_G} {cA : Nat → ClassId} {B : Nat} {Z : State → Prop} (v1 : Int) (rv1 : rg v1) (v2 : Int) (rv2 : rg v2) (v4 : Int) (rv4 : rg v4) (t0 : Int) (rt0 : rb t0) {k_5 : Int → Int → Prop} {k : Int → Prop} {M : hq_M} {H : Heap} {locs : List Loc} {ls : Array Slot} (C : hq_C vwCl p m c cX12_isHeldBy 5 s args wsX12_isHeldBy RX12 meth (some .boolean) D cA (hq_in B YM.length) Z)
    (hw : b_X12_isHeldBy_50 v1 v2 v4 t0 k_5 k M) (hs : hq_S vwCl SLx D cA YM B s.heap M H locs) (hl : lv_has ls 5 [(0, .ref (B + 0)), (1, .int (w3 v1)), (2, .int (w3 v2)), (4, .int (w3 v4))])
    (hk_5 : ∀ (y3 : Int) (ry3 : rb y3) (y4 : Int) (ry4 : rg y4) (H : Heap) (locs : List Loc) (ls : Array Slot), k_5 y3 y4 → hq_S vwCl SLx D cA YM B s.heap M H locs → lv_has ls 5 [(0, .ref (B + 0)), (1, .int (w3 v1)), (2, .int (w3 v2)), (3, .int (w3 y3)), (4, .int (w3 y4))] → W p l e ({ frames := 0, cells := 0, slots := 0, locals := 0 } : Room) s m args below meth c H locs 0 0 (MQ below (hq_Q vwCl SLx D cA YM B (hq_qz (fun z M' => M' = M ∧ k z))) args s 0 0 (hq_in B YM.length)) (F0 m 5 ls [])) : W p l e ({ frames := 0, cells := 0, slots := 0, locals := 0 } : Room) s m args below meth c H locs 0 0 (MQ below (hq_Q vwCl SLx D cA YM B (hq_qz (fun z M' => M' = M ∧ k z))) args s 0 0 (hq_in B YM.length)) (F0 m 50 ls [.int (w3 t0)]) := by
  have hx := C.1.1
  have hb := C.1.2.1
  unfold b_X12_isHeldBy_50 at hw
  refine lv_istore_n (lv' := [(3, .int (w3 t0)), (0, .ref (B + 0)), (1, .int (w3 v1)), (2, .int (w3 v2)), (4, .int (w3 v4))]) hx hb dX12_isHeldBy_50 rfl hl (by decide) rfl (fun ls hl => ?_)
  obtain ⟨g2, hw⟩ := hw
  refine hq_iinc (k := 4) C dX12_isHeldBy_51 hl rfl (by decide) (fun x1 ex1 ls hl => ?_)
  have hw := hw x1 ex1
  have rx1 : rg x1 := by rw [ex1]; exact g2
  have hl : lv_has ls 5 [(4, .int (w3 x1)), (3, .int (w3 t0)), (0, .ref (B + 0)), (1, .int (w3 v1)), (2, .int (w3 v2))] := hl
  refine hq_goto (tgt := 5) C dX12_isHeldBy_54 (by decide) ?_
  exact hk_5 t0 rt0 x1 rx1 _ _ _ hw hs (lv_sub hl [2, 3, 4, 1, 0] rfl)
set_option maxHeartbeats 4000000 in
set_option maxRecDepth 100000 in
theorem cb_X12_isHeldBy_45 {p : Program} {l : Launch} {e : Env} {s : State} {m : MethodId} {args : Array Value} {below : List Frame} {meth : Method} {c : Code} {D : va_G} {cA : Nat → ClassId} {B : Nat} {Z : State → Prop} (v1 : Int) (rv1 : rg v1) (v2 : Int) (rv2 : rg v2) (v4 : Int) (rv4 : rg v4) {k_5 : Int → Int → Prop} {k : Int → Prop} {M : hq_M} {H : Heap} {locs : List Loc} {ls : Array Slot} (C : hq_C vwCl p m c cX12_isHeldBy 5 s args wsX12_isHeldBy RX12 meth (some .boolean) D cA (hq_in B YM.length) Z)
    (hw : b_X12_isHeldBy_45 v1 v2 v4 k_5 k M) (hs : hq_S vwCl SLx D cA YM B s.heap M H locs) (hl : lv_has ls 5 [(0, .ref (B + 0)), (1, .int (w3 v1)), (2, .int (w3 v2)), (4, .int (w3 v4))])
    (hk_5 : ∀ (y3 : Int) (ry3 : rb y3) (y4 : Int) (ry4 : rg y4) (H : Heap) (locs : List Loc) (ls : Array Slot), k_5 y3 y4 → hq_S vwCl SLx D cA YM B s.heap M H locs → lv_has ls 5 [(0, .ref (B + 0)), (1, .int (w3 v1)), (2, .int (w3 v2)), (3, .int (w3 y3)), (4, .int (w3 y4))] → W p l e ({ frames := 0, cells := 0, slots := 0, locals := 0 } : Room) s m args below meth c H locs 0 0 (MQ below (hq_Q vwCl SLx D cA YM B (hq_qz (fun z M' => M' = M ∧ k z))) args s 0 0 (hq_in B YM.length)) (F0 m 5 ls [])) : W p l e ({ frames := 0, cells := 0, slots := 0, locals := 0 } : Room) s m args below meth c H locs 0 0 (MQ below (hq_Q vwCl SLx D cA YM B (hq_qz (fun z M' => M' = M ∧ k z))) args s 0 0 (hq_in B YM.length)) (F0 m 45 ls []) := by
  have hx := C.1.1
  have hb := C.1.2.1
  unfold b_X12_isHeldBy_45 at hw
  refine hq_iconst C dX12_isHeldBy_45 ?_
  refine hq_goto (tgt := 50) C dX12_isHeldBy_46 (by decide) ?_
  refine cb_X12_isHeldBy_50 v1 rv1 v2 rv2 v4 rv4 1 (by decide) C hw hs (lv_sub hl [0, 1, 2, 3] rfl) hk_5
set_option maxHeartbeats 4000000 in
set_option maxRecDepth 100000 in
theorem cb_X12_isHeldBy_49 {p : Program} {l : Launch} {e : Env} {s : State} {m : MethodId} {args : Array Value} {below : List Frame} {meth : Method} {c : Code} {D : va_G} {cA : Nat → ClassId} {B : Nat} {Z : State → Prop} (v1 : Int) (rv1 : rg v1) (v2 : Int) (rv2 : rg v2) (v4 : Int) (rv4 : rg v4) {k_5 : Int → Int → Prop} {k : Int → Prop} {M : hq_M} {H : Heap} {locs : List Loc} {ls : Array Slot} (C : hq_C vwCl p m c cX12_isHeldBy 5 s args wsX12_isHeldBy RX12 meth (some .boolean) D cA (hq_in B YM.length) Z)
    (hw : b_X12_isHeldBy_49 v1 v2 v4 k_5 k M) (hs : hq_S vwCl SLx D cA YM B s.heap M H locs) (hl : lv_has ls 5 [(0, .ref (B + 0)), (1, .int (w3 v1)), (2, .int (w3 v2)), (4, .int (w3 v4))])
    (hk_5 : ∀ (y3 : Int) (ry3 : rb y3) (y4 : Int) (ry4 : rg y4) (H : Heap) (locs : List Loc) (ls : Array Slot), k_5 y3 y4 → hq_S vwCl SLx D cA YM B s.heap M H locs → lv_has ls 5 [(0, .ref (B + 0)), (1, .int (w3 v1)), (2, .int (w3 v2)), (3, .int (w3 y3)), (4, .int (w3 y4))] → W p l e ({ frames := 0, cells := 0, slots := 0, locals := 0 } : Room) s m args below meth c H locs 0 0 (MQ below (hq_Q vwCl SLx D cA YM B (hq_qz (fun z M' => M' = M ∧ k z))) args s 0 0 (hq_in B YM.length)) (F0 m 5 ls [])) : W p l e ({ frames := 0, cells := 0, slots := 0, locals := 0 } : Room) s m args below meth c H locs 0 0 (MQ below (hq_Q vwCl SLx D cA YM B (hq_qz (fun z M' => M' = M ∧ k z))) args s 0 0 (hq_in B YM.length)) (F0 m 49 ls []) := by
  have hx := C.1.1
  have hb := C.1.2.1
  unfold b_X12_isHeldBy_49 at hw
  refine hq_iconst C dX12_isHeldBy_49 ?_
  refine cb_X12_isHeldBy_50 v1 rv1 v2 rv2 v4 rv4 0 (by decide) C hw hs (lv_sub hl [0, 1, 2, 3] rfl) hk_5
set_option maxHeartbeats 4000000 in
set_option maxRecDepth 100000 in
theorem cl_X12_isHeldBy_5 {p : Program} {l : Launch} {e : Env} {s : State} {m : MethodId} {args : Array Value} {below : List Frame} {meth : Method} {c : Code} {D : va_G} {cA : Nat → ClassId} {B : Nat} {Z : State → Prop} (v1 : Int) (rv1 : rg v1) (v2 : Int) (rv2 : rg v2)  {k : Int → Prop} {M : hq_M} (C : hq_C vwCl p m c cX12_isHeldBy 5 s args wsX12_isHeldBy RX12 meth (some .boolean) D cA (hq_in B YM.length) Z)
     : ∀ (n : Nat) (v3 : Int) (rv3 : rb v3) (v4 : Int) (rv4 : rg v4) (H : Heap) (locs : List Loc) (ls : Array Slot), l_X12_isHeldBy_5 v1 v2 k M n v3 v4 → hq_S vwCl SLx D cA YM B s.heap M H locs → lv_has ls 5 [(0, .ref (B + 0)), (1, .int (w3 v1)), (2, .int (w3 v2)), (3, .int (w3 v3)), (4, .int (w3 v4))] → W p l e ({ frames := 0, cells := 0, slots := 0, locals := 0 } : Room) s m args below meth c H locs 0 0 (MQ below (hq_Q vwCl SLx D cA YM B (hq_qz (fun z M' => M' = M ∧ k z))) args s 0 0 (hq_in B YM.length)) (F0 m 5 ls []) := by
  have hx := C.1.1
  have hb := C.1.2.1
  intro n
  induction n with
  | zero => intro v3 rv3 v4 rv4 H locs ls hw hs hl; exact hw.elim
  | succ n ih =>
    intro v3 rv3 v4 rv4 H locs ls hw hs hl
    unfold l_X12_isHeldBy_5 at hw
    refine lv_iload hx hb dX12_isHeldBy_5 (lv_at hl 4 rfl) ?_
    refine lv_aload_n hx hb dX12_isHeldBy_7 rfl (lv_at hl 0 rfl) ?_
    refine hq_getA (o := 0) C hs fX12_isHeldBy_66 tkM_0 (by decide) rfl dX12_isHeldBy_8 ?_
    refine lv_iload_n hx hb dX12_isHeldBy_11 rfl (lv_at hl 1 rfl) ?_
    obtain ⟨g1, hw⟩ := hw
    refine hq_iald (o := 17) C hs tkM_17 rv1 g1 dX12_isHeldBy_12 (fun g2 => ?_)
    refine hq_icmp_ge (tgt := 57) C rv4 g2 dX12_isHeldBy_13 (by decide) (fun h => ?_) (fun h => ?_)
    · have hw := hw.1 h
      refine lv_iload_n hx hb dX12_isHeldBy_57 rfl (lv_at hl 3 rfl) ?_
      exact hq_zret C hs rv3 ⟨rfl, hw⟩ dX12_isHeldBy_58
    · have hw := hw.2 h
      refine lv_iload_n hx hb dX12_isHeldBy_16 rfl (lv_at hl 3 rfl) ?_
      refine hq_if_ne (tgt := 45) C (rb_rg rv3) dX12_isHeldBy_17 (by decide) (fun h => ?_) (fun h => ?_)
      · have hw := hw.1 h
        refine cb_X12_isHeldBy_45 v1 rv1 v2 rv2 v4 rv4 C hw hs (lv_sub hl [0, 1, 2, 4] rfl) ?_
        · intro y3 ry3 y4 ry4 H locs ls hw hs hl
          exact ih y3 ry3 y4 ry4 _ _ _ hw hs (lv_sub hl [0, 1, 2, 3, 4] rfl)
      · have hw := hw.2 h
        refine lv_aload_n hx hb dX12_isHeldBy_20 rfl (lv_at hl 0 rfl) ?_
        refine hq_getA (o := 0) C hs fX12_isHeldBy_62 tkM_0 (by decide) rfl dX12_isHeldBy_21 ?_
        refine lv_iload_n hx hb dX12_isHeldBy_24 rfl (lv_at hl 1 rfl) ?_
        obtain ⟨g3, hw⟩ := hw
        refine hq_zald (o := 16) C hs tkM_16 rv1 g3 dX12_isHeldBy_25 (fun g4 => ?_)
        refine hq_if_ne (tgt := 49) C (rb_rg g4) dX12_isHeldBy_26 (by decide) (fun h => ?_) (fun h => ?_)
        · have hw := hw.1 h
          refine cb_X12_isHeldBy_49 v1 rv1 v2 rv2 v4 rv4 C hw hs (lv_sub hl [0, 1, 2, 4] rfl) ?_
          · intro y3 ry3 y4 ry4 H locs ls hw hs hl
            exact ih y3 ry3 y4 ry4 _ _ _ hw hs (lv_sub hl [0, 1, 2, 3, 4] rfl)
        · have hw := hw.2 h
          refine lv_aload_n hx hb dX12_isHeldBy_29 rfl (lv_at hl 0 rfl) ?_
          refine hq_getA (o := 0) C hs fX12_isHeldBy_72 tkM_0 (by decide) rfl dX12_isHeldBy_30 ?_
          refine hq_bipush C dX12_isHeldBy_33 (by decide) ?_
          refine lv_iload_n hx hb dX12_isHeldBy_35 rfl (lv_at hl 1 rfl) ?_
          obtain ⟨g5, hw⟩ := hw
          refine hq_imul C dX12_isHeldBy_36 ?_
          refine lv_iload hx hb dX12_isHeldBy_37 (lv_at hl 4 rfl) ?_
          obtain ⟨g6, hw⟩ := hw
          refine hq_iadd C dX12_isHeldBy_39 ?_
          obtain ⟨g7, hw⟩ := hw
          refine hq_iald (o := 19) C hs tkM_19 g6 g7 dX12_isHeldBy_40 (fun g8 => ?_)
          refine lv_iload_n hx hb dX12_isHeldBy_41 rfl (lv_at hl 2 rfl) ?_
          refine hq_icmp_ne (tgt := 49) C g8 rv2 dX12_isHeldBy_42 (by decide) (fun h => ?_) (fun h => ?_)
          · have hw := hw.1 h
            refine cb_X12_isHeldBy_49 v1 rv1 v2 rv2 v4 rv4 C hw hs (lv_sub hl [0, 1, 2, 4] rfl) ?_
            · intro y3 ry3 y4 ry4 H locs ls hw hs hl
              exact ih y3 ry3 y4 ry4 _ _ _ hw hs (lv_sub hl [0, 1, 2, 3, 4] rfl)
          · have hw := hw.2 h
            refine cb_X12_isHeldBy_45 v1 rv1 v2 rv2 v4 rv4 C hw hs (lv_sub hl [0, 1, 2, 4] rfl) ?_
            · intro y3 ry3 y4 ry4 H locs ls hw hs hl
              exact ih y3 ry3 y4 ry4 _ _ _ hw hs (lv_sub hl [0, 1, 2, 3, 4] rfl)
set_option maxHeartbeats 4000000 in
set_option maxRecDepth 100000 in
theorem c_X12_isHeldBy (l : Launch) {D : va_G} {cA : Nat → ClassId} {B : Nat} {Z : State → Prop} (hZ : hq_Zo Z (hq_in B YM.length)) (v1 : Int) (rv1 : rg v1) (v2 : Int) (rv2 : rg v2) (M : hq_M) (k : Int → Prop) (hw : w_X12_isHeldBy v1 v2 M k) : hq_T vwCl SLx l yX12_isHeldBy wsX12_isHeldBy ({ frames := 0, cells := 0, slots := 0, locals := 0 } : Room) D cA YM B Z [.ref (B + 0), .int (w3 v1), .int (w3 v2)] M (hq_qz (fun z M' => M' = M ∧ k z)) := by
  refine hq_meth (cc := cX12_isHeldBy) (maxL := 5) (ret := (some .boolean)) (own := RX12) hZ rfl (by decide +kernel) rfl (Nat.le_of_ble_eq_true rfl) ?_
  intro p e s m below meth c ls C hs hl
  have hx := C.1.1
  have hb := C.1.2.1
  unfold w_X12_isHeldBy at hw
  have hl : lv_has ls 5 [(0, .ref (B + 0)), (1, .int (w3 v1)), (2, .int (w3 v2))] := hl
  refine hq_iconst C dX12_isHeldBy_0 ?_
  refine lv_istore_n (lv' := [(3, .int (w3 0)), (0, .ref (B + 0)), (1, .int (w3 v1)), (2, .int (w3 v2))]) hx hb dX12_isHeldBy_1 rfl hl (by decide) rfl (fun ls hl => ?_)
  refine hq_iconst C dX12_isHeldBy_2 ?_
  refine lv_istore (lv' := [(4, .int (w3 0)), (3, .int (w3 0)), (0, .ref (B + 0)), (1, .int (w3 v1)), (2, .int (w3 v2))]) hx hb dX12_isHeldBy_3 hl (by decide) rfl (fun ls hl => ?_)
  obtain ⟨n9, hw⟩ := hw
  refine cl_X12_isHeldBy_5 v1 rv1 v2 rv2 C  n9 0 (by decide) 0 (by decide : rg 0) _ _ _ hw hs (lv_sub hl [2, 3, 4, 1, 0] rfl)
theorem iX12_isHeld_12 : ∀ w ∈ u_ws RX12 TX12 57, w ∈ wsX12_isHeld := fun w h => List.mem_cons_of_mem _ (List.mem_append_right _ h)
set_option maxRecDepth 20000 in
theorem fX12_isHeld_81 : hq_fl vwCl wsX12_isHeld RX12 81 12 38 true (.array .int) := ⟨RX12, TX12, 57, tyX12, rfl, by decide, iX12_isHeld_12, by decide +kernel, rfl, tyX12_ok 38 (by decide), tyX12_ok, nmX12⟩
set_option maxRecDepth 20000 in
theorem fX12_isHeld_249 : hq_fl vwCl wsX12_isHeld RX12 249 12 39 false .int := ⟨RX12, TX12, 57, tyX12, rfl, by decide, iX12_isHeld_12, by decide +kernel, rfl, tyX12_ok 39 (by decide), tyX12_ok, nmX12⟩
set_option maxRecDepth 20000 in
theorem fX12_isHeld_252 : hq_fl vwCl wsX12_isHeld RX12 252 12 25 false .int := ⟨RX12, TX12, 57, tyX12, rfl, by decide, iX12_isHeld_12, by decide +kernel, rfl, tyX12_ok 25 (by decide), tyX12_ok, nmX12⟩
set_option maxHeartbeats 4000000 in
set_option maxRecDepth 100000 in
theorem cb_X12_isHeld_31 {p : Program} {l : Launch} {e : Env} {s : State} {m : MethodId} {args : Array Value} {below : List Frame} {meth : Method} {c : Code} {D : va_G} {cA : Nat → ClassId} {B : Nat} {Z : State → Prop} (v1 : Int) (rv1 : rg v1) (v3 : Int) (rv3 : rg v3) (t0 : Int) (rt0 : rb t0) {k_4 : Int → Int → Prop} {k : Int → Prop} {M : hq_M} {H : Heap} {locs : List Loc} {ls : Array Slot} (C : hq_C vwCl p m c cX12_isHeld 4 s args wsX12_isHeld RX12 meth (some .boolean) D cA (hq_in B YM.length) Z)
    (hw : b_X12_isHeld_31 v1 v3 t0 k_4 k M) (hs : hq_S vwCl SLx D cA YM B s.heap M H locs) (hl : lv_has ls 4 [(0, .ref (B + 0)), (1, .int (w3 v1)), (3, .int (w3 v3))])
    (hk_4 : ∀ (y2 : Int) (ry2 : rb y2) (y3 : Int) (ry3 : rg y3) (H : Heap) (locs : List Loc) (ls : Array Slot), k_4 y2 y3 → hq_S vwCl SLx D cA YM B s.heap M H locs → lv_has ls 4 [(0, .ref (B + 0)), (1, .int (w3 v1)), (2, .int (w3 y2)), (3, .int (w3 y3))] → W p l e ({ frames := 1, cells := 0, slots := 0, locals := 24 } : Room) s m args below meth c H locs 0 0 (MQ below (hq_Q vwCl SLx D cA YM B (hq_qz (fun z M' => M' = M ∧ k z))) args s 0 0 (hq_in B YM.length)) (F0 m 4 ls [])) : W p l e ({ frames := 1, cells := 0, slots := 0, locals := 24 } : Room) s m args below meth c H locs 0 0 (MQ below (hq_Q vwCl SLx D cA YM B (hq_qz (fun z M' => M' = M ∧ k z))) args s 0 0 (hq_in B YM.length)) (F0 m 31 ls [.int (w3 t0)]) := by
  have hx := C.1.1
  have hb := C.1.2.1
  unfold b_X12_isHeld_31 at hw
  refine lv_istore_n (lv' := [(2, .int (w3 t0)), (0, .ref (B + 0)), (1, .int (w3 v1)), (3, .int (w3 v3))]) hx hb dX12_isHeld_31 rfl hl (by decide) rfl (fun ls hl => ?_)
  obtain ⟨g2, hw⟩ := hw
  refine hq_iinc (k := 3) C dX12_isHeld_32 hl rfl (by decide) (fun x1 ex1 ls hl => ?_)
  have hw := hw x1 ex1
  have rx1 : rg x1 := by rw [ex1]; exact g2
  have hl : lv_has ls 4 [(3, .int (w3 x1)), (2, .int (w3 t0)), (0, .ref (B + 0)), (1, .int (w3 v1))] := hl
  refine hq_goto (tgt := 4) C dX12_isHeld_35 (by decide) ?_
  exact hk_4 t0 rt0 x1 rx1 _ _ _ hw hs (lv_sub hl [2, 3, 1, 0] rfl)
set_option maxHeartbeats 4000000 in
set_option maxRecDepth 100000 in
theorem cb_X12_isHeld_26 {p : Program} {l : Launch} {e : Env} {s : State} {m : MethodId} {args : Array Value} {below : List Frame} {meth : Method} {c : Code} {D : va_G} {cA : Nat → ClassId} {B : Nat} {Z : State → Prop} (v1 : Int) (rv1 : rg v1) (v3 : Int) (rv3 : rg v3) {k_4 : Int → Int → Prop} {k : Int → Prop} {M : hq_M} {H : Heap} {locs : List Loc} {ls : Array Slot} (C : hq_C vwCl p m c cX12_isHeld 4 s args wsX12_isHeld RX12 meth (some .boolean) D cA (hq_in B YM.length) Z)
    (hw : b_X12_isHeld_26 v1 v3 k_4 k M) (hs : hq_S vwCl SLx D cA YM B s.heap M H locs) (hl : lv_has ls 4 [(0, .ref (B + 0)), (1, .int (w3 v1)), (3, .int (w3 v3))])
    (hk_4 : ∀ (y2 : Int) (ry2 : rb y2) (y3 : Int) (ry3 : rg y3) (H : Heap) (locs : List Loc) (ls : Array Slot), k_4 y2 y3 → hq_S vwCl SLx D cA YM B s.heap M H locs → lv_has ls 4 [(0, .ref (B + 0)), (1, .int (w3 v1)), (2, .int (w3 y2)), (3, .int (w3 y3))] → W p l e ({ frames := 1, cells := 0, slots := 0, locals := 24 } : Room) s m args below meth c H locs 0 0 (MQ below (hq_Q vwCl SLx D cA YM B (hq_qz (fun z M' => M' = M ∧ k z))) args s 0 0 (hq_in B YM.length)) (F0 m 4 ls [])) : W p l e ({ frames := 1, cells := 0, slots := 0, locals := 24 } : Room) s m args below meth c H locs 0 0 (MQ below (hq_Q vwCl SLx D cA YM B (hq_qz (fun z M' => M' = M ∧ k z))) args s 0 0 (hq_in B YM.length)) (F0 m 26 ls []) := by
  have hx := C.1.1
  have hb := C.1.2.1
  unfold b_X12_isHeld_26 at hw
  refine hq_iconst C dX12_isHeld_26 ?_
  refine hq_goto (tgt := 31) C dX12_isHeld_27 (by decide) ?_
  refine cb_X12_isHeld_31 v1 rv1 v3 rv3 1 (by decide) C hw hs (lv_sub hl [0, 1, 2] rfl) hk_4
set_option maxHeartbeats 4000000 in
set_option maxRecDepth 100000 in
theorem cl_X12_isHeld_4 {p : Program} {l : Launch} {e : Env} {s : State} {m : MethodId} {args : Array Value} {below : List Frame} {meth : Method} {c : Code} {D : va_G} {cA : Nat → ClassId} {B : Nat} {Z : State → Prop} (v1 : Int) (rv1 : rg v1) {k_38 : Int → Prop} {k : Int → Prop} {M : hq_M} (C : hq_C vwCl p m c cX12_isHeld 4 s args wsX12_isHeld RX12 meth (some .boolean) D cA (hq_in B YM.length) Z)
    (hk_38 : ∀ (y2 : Int) (ry2 : rb y2) (H : Heap) (locs : List Loc) (ls : Array Slot), k_38 y2 → hq_S vwCl SLx D cA YM B s.heap M H locs → lv_has ls 4 [(0, .ref (B + 0)), (1, .int (w3 v1)), (2, .int (w3 y2))] → W p l e ({ frames := 1, cells := 0, slots := 0, locals := 24 } : Room) s m args below meth c H locs 0 0 (MQ below (hq_Q vwCl SLx D cA YM B (hq_qz (fun z M' => M' = M ∧ k z))) args s 0 0 (hq_in B YM.length)) (F0 m 38 ls [])) : ∀ (n : Nat) (v2 : Int) (rv2 : rb v2) (v3 : Int) (rv3 : rg v3) (H : Heap) (locs : List Loc) (ls : Array Slot), l_X12_isHeld_4 v1 k_38 k M n v2 v3 → hq_S vwCl SLx D cA YM B s.heap M H locs → lv_has ls 4 [(0, .ref (B + 0)), (1, .int (w3 v1)), (2, .int (w3 v2)), (3, .int (w3 v3))] → W p l e ({ frames := 1, cells := 0, slots := 0, locals := 24 } : Room) s m args below meth c H locs 0 0 (MQ below (hq_Q vwCl SLx D cA YM B (hq_qz (fun z M' => M' = M ∧ k z))) args s 0 0 (hq_in B YM.length)) (F0 m 4 ls []) := by
  have hx := C.1.1
  have hb := C.1.2.1
  intro n
  induction n with
  | zero => intro v2 rv2 v3 rv3 H locs ls hw hs hl; exact hw.elim
  | succ n ih =>
    intro v2 rv2 v3 rv3 H locs ls hw hs hl
    unfold l_X12_isHeld_4 at hw
    refine lv_iload_n hx hb dX12_isHeld_4 rfl (lv_at hl 3 rfl) ?_
    refine lv_aload_n hx hb dX12_isHeld_5 rfl (lv_at hl 0 rfl) ?_
    refine hq_getI (o := 0) C hs fX12_isHeld_249 tkM_0 (by decide) rfl dX12_isHeld_6 (fun g1 => ?_)
    refine hq_icmp_ge (tgt := 38) C rv3 g1 dX12_isHeld_9 (by decide) (fun h => ?_) (fun h => ?_)
    · have hw := hw.1 h
      exact hk_38 v2 rv2 _ _ _ hw hs (lv_sub hl [0, 1, 2] rfl)
    · have hw := hw.2 h
      refine lv_iload_n hx hb dX12_isHeld_12 rfl (lv_at hl 2 rfl) ?_
      refine hq_if_ne (tgt := 26) C (rb_rg rv2) dX12_isHeld_13 (by decide) (fun h => ?_) (fun h => ?_)
      · have hw := hw.1 h
        refine cb_X12_isHeld_26 v1 rv1 v3 rv3 C hw hs (lv_sub hl [0, 1, 3] rfl) ?_
        · intro y2 ry2 y3 ry3 H locs ls hw hs hl
          exact ih y2 ry2 y3 ry3 _ _ _ hw hs (lv_sub hl [0, 1, 2, 3] rfl)
      · have hw := hw.2 h
        refine lv_aload_n hx hb dX12_isHeld_16 rfl (lv_at hl 0 rfl) ?_
        refine hq_getA (o := 0) C hs fX12_isHeld_81 tkM_0 (by decide) rfl dX12_isHeld_17 ?_
        refine lv_iload_n hx hb dX12_isHeld_20 rfl (lv_at hl 3 rfl) ?_
        obtain ⟨g2, hw⟩ := hw
        refine hq_iald (o := 22) C hs tkM_22 rv3 g2 dX12_isHeld_21 (fun g3 => ?_)
        refine lv_iload_n hx hb dX12_isHeld_22 rfl (lv_at hl 1 rfl) ?_
        refine hq_icmp_ne (tgt := 30) C g3 rv1 dX12_isHeld_23 (by decide) (fun h => ?_) (fun h => ?_)
        · have hw := hw.1 h
          refine hq_iconst C dX12_isHeld_30 ?_
          refine cb_X12_isHeld_31 v1 rv1 v3 rv3 0 (by decide) C hw hs (lv_sub hl [0, 1, 3] rfl) ?_
          · intro y2 ry2 y3 ry3 H locs ls hw hs hl
            exact ih y2 ry2 y3 ry3 _ _ _ hw hs (lv_sub hl [0, 1, 2, 3] rfl)
        · have hw := hw.2 h
          refine cb_X12_isHeld_26 v1 rv1 v3 rv3 C hw hs (lv_sub hl [0, 1, 3] rfl) ?_
          · intro y2 ry2 y3 ry3 H locs ls hw hs hl
            exact ih y2 ry2 y3 ry3 _ _ _ hw hs (lv_sub hl [0, 1, 2, 3] rfl)
set_option maxHeartbeats 4000000 in
set_option maxRecDepth 100000 in
theorem cb_X12_isHeld_66 {p : Program} {l : Launch} {e : Env} {s : State} {m : MethodId} {args : Array Value} {below : List Frame} {meth : Method} {c : Code} {D : va_G} {cA : Nat → ClassId} {B : Nat} {Z : State → Prop} (v1 : Int) (rv1 : rg v1) (v3 : Int) (rv3 : rg v3) (t0 : Int) (rt0 : rb t0) {k_40 : Int → Int → Prop} {k : Int → Prop} {M : hq_M} {H : Heap} {locs : List Loc} {ls : Array Slot} (C : hq_C vwCl p m c cX12_isHeld 4 s args wsX12_isHeld RX12 meth (some .boolean) D cA (hq_in B YM.length) Z)
    (hw : b_X12_isHeld_66 v1 v3 t0 k_40 k M) (hs : hq_S vwCl SLx D cA YM B s.heap M H locs) (hl : lv_has ls 4 [(0, .ref (B + 0)), (1, .int (w3 v1)), (3, .int (w3 v3))])
    (hk_40 : ∀ (y2 : Int) (ry2 : rb y2) (y3 : Int) (ry3 : rg y3) (H : Heap) (locs : List Loc) (ls : Array Slot), k_40 y2 y3 → hq_S vwCl SLx D cA YM B s.heap M H locs → lv_has ls 4 [(0, .ref (B + 0)), (1, .int (w3 v1)), (2, .int (w3 y2)), (3, .int (w3 y3))] → W p l e ({ frames := 1, cells := 0, slots := 0, locals := 24 } : Room) s m args below meth c H locs 0 0 (MQ below (hq_Q vwCl SLx D cA YM B (hq_qz (fun z M' => M' = M ∧ k z))) args s 0 0 (hq_in B YM.length)) (F0 m 40 ls [])) : W p l e ({ frames := 1, cells := 0, slots := 0, locals := 24 } : Room) s m args below meth c H locs 0 0 (MQ below (hq_Q vwCl SLx D cA YM B (hq_qz (fun z M' => M' = M ∧ k z))) args s 0 0 (hq_in B YM.length)) (F0 m 66 ls [.int (w3 t0)]) := by
  have hx := C.1.1
  have hb := C.1.2.1
  unfold b_X12_isHeld_66 at hw
  refine lv_istore_n (lv' := [(2, .int (w3 t0)), (0, .ref (B + 0)), (1, .int (w3 v1)), (3, .int (w3 v3))]) hx hb dX12_isHeld_66 rfl hl (by decide) rfl (fun ls hl => ?_)
  obtain ⟨g2, hw⟩ := hw
  refine hq_iinc (k := 3) C dX12_isHeld_67 hl rfl (by decide) (fun x1 ex1 ls hl => ?_)
  have hw := hw x1 ex1
  have rx1 : rg x1 := by rw [ex1]; exact g2
  have hl : lv_has ls 4 [(3, .int (w3 x1)), (2, .int (w3 t0)), (0, .ref (B + 0)), (1, .int (w3 v1))] := hl
  refine hq_goto (tgt := 40) C dX12_isHeld_70 (by decide) ?_
  exact hk_40 t0 rt0 x1 rx1 _ _ _ hw hs (lv_sub hl [2, 3, 1, 0] rfl)
set_option maxHeartbeats 4000000 in
set_option maxRecDepth 100000 in
theorem cb_X12_isHeld_61 {p : Program} {l : Launch} {e : Env} {s : State} {m : MethodId} {args : Array Value} {below : List Frame} {meth : Method} {c : Code} {D : va_G} {cA : Nat → ClassId} {B : Nat} {Z : State → Prop} (v1 : Int) (rv1 : rg v1) (v3 : Int) (rv3 : rg v3) {k_40 : Int → Int → Prop} {k : Int → Prop} {M : hq_M} {H : Heap} {locs : List Loc} {ls : Array Slot} (C : hq_C vwCl p m c cX12_isHeld 4 s args wsX12_isHeld RX12 meth (some .boolean) D cA (hq_in B YM.length) Z)
    (hw : b_X12_isHeld_61 v1 v3 k_40 k M) (hs : hq_S vwCl SLx D cA YM B s.heap M H locs) (hl : lv_has ls 4 [(0, .ref (B + 0)), (1, .int (w3 v1)), (3, .int (w3 v3))])
    (hk_40 : ∀ (y2 : Int) (ry2 : rb y2) (y3 : Int) (ry3 : rg y3) (H : Heap) (locs : List Loc) (ls : Array Slot), k_40 y2 y3 → hq_S vwCl SLx D cA YM B s.heap M H locs → lv_has ls 4 [(0, .ref (B + 0)), (1, .int (w3 v1)), (2, .int (w3 y2)), (3, .int (w3 y3))] → W p l e ({ frames := 1, cells := 0, slots := 0, locals := 24 } : Room) s m args below meth c H locs 0 0 (MQ below (hq_Q vwCl SLx D cA YM B (hq_qz (fun z M' => M' = M ∧ k z))) args s 0 0 (hq_in B YM.length)) (F0 m 40 ls [])) : W p l e ({ frames := 1, cells := 0, slots := 0, locals := 24 } : Room) s m args below meth c H locs 0 0 (MQ below (hq_Q vwCl SLx D cA YM B (hq_qz (fun z M' => M' = M ∧ k z))) args s 0 0 (hq_in B YM.length)) (F0 m 61 ls []) := by
  have hx := C.1.1
  have hb := C.1.2.1
  unfold b_X12_isHeld_61 at hw
  refine hq_iconst C dX12_isHeld_61 ?_
  refine hq_goto (tgt := 66) C dX12_isHeld_62 (by decide) ?_
  refine cb_X12_isHeld_66 v1 rv1 v3 rv3 1 (by decide) C hw hs (lv_sub hl [0, 1, 2] rfl) hk_40
set_option maxHeartbeats 4000000 in
set_option maxRecDepth 100000 in
theorem cl_X12_isHeld_40 {p : Program} {l : Launch} {e : Env} {s : State} {m : MethodId} {args : Array Value} {below : List Frame} {meth : Method} {c : Code} {D : va_G} {cA : Nat → ClassId} {B : Nat} {Z : State → Prop} (v1 : Int) (rv1 : rg v1)  {k : Int → Prop} {M : hq_M} (C : hq_C vwCl p m c cX12_isHeld 4 s args wsX12_isHeld RX12 meth (some .boolean) D cA (hq_in B YM.length) Z)
     : ∀ (n : Nat) (v2 : Int) (rv2 : rb v2) (v3 : Int) (rv3 : rg v3) (H : Heap) (locs : List Loc) (ls : Array Slot), l_X12_isHeld_40 v1 k M n v2 v3 → hq_S vwCl SLx D cA YM B s.heap M H locs → lv_has ls 4 [(0, .ref (B + 0)), (1, .int (w3 v1)), (2, .int (w3 v2)), (3, .int (w3 v3))] → W p l e ({ frames := 1, cells := 0, slots := 0, locals := 24 } : Room) s m args below meth c H locs 0 0 (MQ below (hq_Q vwCl SLx D cA YM B (hq_qz (fun z M' => M' = M ∧ k z))) args s 0 0 (hq_in B YM.length)) (F0 m 40 ls []) := by
  have hx := C.1.1
  have hb := C.1.2.1
  intro n
  induction n with
  | zero => intro v2 rv2 v3 rv3 H locs ls hw hs hl; exact hw.elim
  | succ n ih =>
    intro v2 rv2 v3 rv3 H locs ls hw hs hl
    unfold l_X12_isHeld_40 at hw
    refine lv_iload_n hx hb dX12_isHeld_40 rfl (lv_at hl 3 rfl) ?_
    refine lv_aload_n hx hb dX12_isHeld_41 rfl (lv_at hl 0 rfl) ?_
    refine hq_getI (o := 0) C hs fX12_isHeld_252 tkM_0 (by decide) rfl dX12_isHeld_42 (fun g1 => ?_)
    refine hq_icmp_ge (tgt := 73) C rv3 g1 dX12_isHeld_45 (by decide) (fun h => ?_) (fun h => ?_)
    · have hw := hw.1 h
      refine lv_iload_n hx hb dX12_isHeld_73 rfl (lv_at hl 2 rfl) ?_
      exact hq_zret C hs rv2 ⟨rfl, hw⟩ dX12_isHeld_74
    · have hw := hw.2 h
      refine lv_iload_n hx hb dX12_isHeld_48 rfl (lv_at hl 2 rfl) ?_
      refine hq_if_ne (tgt := 61) C (rb_rg rv2) dX12_isHeld_49 (by decide) (fun h => ?_) (fun h => ?_)
      · have hw := hw.1 h
        refine cb_X12_isHeld_61 v1 rv1 v3 rv3 C hw hs (lv_sub hl [0, 1, 3] rfl) ?_
        · intro y2 ry2 y3 ry3 H locs ls hw hs hl
          exact ih y2 ry2 y3 ry3 _ _ _ hw hs (lv_sub hl [0, 1, 2, 3] rfl)
      · have hw := hw.2 h
        refine lv_aload_n hx hb dX12_isHeld_52 rfl (lv_at hl 0 rfl) ?_
        refine lv_iload_n hx hb dX12_isHeld_53 rfl (lv_at hl 3 rfl) ?_
        refine lv_iload_n hx hb dX12_isHeld_54 rfl (lv_at hl 1 rfl) ?_
        refine hq_cV (n := 2) (ci := 12) (o := 0) (qc := (TX12, 57)) C hs (c_X12_isHeldBy l C.2.2.2.2.1 v3 rv3 v1 rv1 _ _ hw) gX12_isHeld_X12_isHeldBy rfl ⟨rfl, rfl⟩ (by decide +kernel) ⟨Nat.le_of_ble_eq_true rfl, Nat.le_of_ble_eq_true rfl⟩ tkM_0 (by decide) rfl rfl hl.1 rfl (Nat.le_of_ble_eq_true rfl) dX12_isHeld_55 (hq_kz (fun x2 M9 H locs rx2 hw hs => ?_))
        obtain ⟨e9, hw⟩ := hw; rw [e9] at hs
        refine hq_if_eq (tgt := 65) C (rb_rg rx2) dX12_isHeld_58 (by decide) (fun h => ?_) (fun h => ?_)
        · have hw := hw.1 h
          refine hq_iconst C dX12_isHeld_65 ?_
          refine cb_X12_isHeld_66 v1 rv1 v3 rv3 0 (by decide) C hw hs (lv_sub hl [0, 1, 3] rfl) ?_
          · intro y2 ry2 y3 ry3 H locs ls hw hs hl
            exact ih y2 ry2 y3 ry3 _ _ _ hw hs (lv_sub hl [0, 1, 2, 3] rfl)
        · have hw := hw.2 h
          refine cb_X12_isHeld_61 v1 rv1 v3 rv3 C hw hs (lv_sub hl [0, 1, 3] rfl) ?_
          · intro y2 ry2 y3 ry3 H locs ls hw hs hl
            exact ih y2 ry2 y3 ry3 _ _ _ hw hs (lv_sub hl [0, 1, 2, 3] rfl)
set_option maxHeartbeats 4000000 in
set_option maxRecDepth 100000 in
theorem c_X12_isHeld (l : Launch) {D : va_G} {cA : Nat → ClassId} {B : Nat} {Z : State → Prop} (hZ : hq_Zo Z (hq_in B YM.length)) (v1 : Int) (rv1 : rg v1) (M : hq_M) (k : Int → Prop) (hw : w_X12_isHeld v1 M k) : hq_T vwCl SLx l yX12_isHeld wsX12_isHeld ({ frames := 1, cells := 0, slots := 0, locals := 24 } : Room) D cA YM B Z [.ref (B + 0), .int (w3 v1)] M (hq_qz (fun z M' => M' = M ∧ k z)) := by
  refine hq_meth (cc := cX12_isHeld) (maxL := 4) (ret := (some .boolean)) (own := RX12) hZ rfl (by decide +kernel) rfl (Nat.le_of_ble_eq_true rfl) ?_
  intro p e s m below meth c ls C hs hl
  have hx := C.1.1
  have hb := C.1.2.1
  unfold w_X12_isHeld at hw
  have hl : lv_has ls 4 [(0, .ref (B + 0)), (1, .int (w3 v1))] := hl
  refine hq_iconst C dX12_isHeld_0 ?_
  refine lv_istore_n (lv' := [(2, .int (w3 0)), (0, .ref (B + 0)), (1, .int (w3 v1))]) hx hb dX12_isHeld_1 rfl hl (by decide) rfl (fun ls hl => ?_)
  refine hq_iconst C dX12_isHeld_2 ?_
  refine lv_istore_n (lv' := [(3, .int (w3 0)), (2, .int (w3 0)), (0, .ref (B + 0)), (1, .int (w3 v1))]) hx hb dX12_isHeld_3 rfl hl (by decide) rfl (fun ls hl => ?_)
  obtain ⟨n9, hw⟩ := hw
  refine cl_X12_isHeld_4 v1 rv1 C ?_ n9 0 (by decide) 0 (by decide : rg 0) _ _ _ hw hs (lv_sub hl [2, 3, 1, 0] rfl)
  · intro x1 rx1 H locs ls hw hs hl
    refine hq_iconst C dX12_isHeld_38 ?_
    refine lv_istore_n (lv' := [(3, .int (w3 0)), (0, .ref (B + 0)), (1, .int (w3 v1)), (2, .int (w3 x1))]) hx hb dX12_isHeld_39 rfl hl (by decide) rfl (fun ls hl => ?_)
    obtain ⟨n9, hw⟩ := hw
    refine cl_X12_isHeld_40 v1 rv1 C  n9 x1 rx1 0 (by decide : rg 0) _ _ _ hw hs (lv_sub hl [1, 2, 3, 0] rfl)
