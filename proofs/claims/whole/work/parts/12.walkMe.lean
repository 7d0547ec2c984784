theorem iX12_isLetter_12 : ∀ w ∈ u_ws RX12 TX12 57, w ∈ wsX12_isLetter := fun w h => List.mem_cons_of_mem _ (List.mem_append_right _ h)
set_option maxRecDepth 20000 in
theorem fX12_isLetter_252 : hq_fl vwCl wsX12_isLetter RX12 252 12 25 false .int := ⟨RX12, TX12, 57, tyX12, rfl, by decide, iX12_isLetter_12, by decide +kernel, rfl, tyX12_ok 25 (by decide), tyX12_ok, nmX12⟩
set_option maxHeartbeats 4000000 in
set_option maxRecDepth 100000 in
theorem c_X12_isLetter (l : Launch) {D : va_G} {cA : Nat → ClassId} {B : Nat} {Z : State → Prop} (hZ : hq_Zo Z (hq_in B YM.length)) (v1 : Int) (rv1 : rg v1) (M : hq_M) (k : Int → Prop) (hw : w_X12_isLetter v1 M k) : hq_T vwCl SLx l yX12_isLetter wsX12_isLetter ({ frames := 1, cells := 0, slots := 0, locals := 25 } : Room) D cA YM B Z [.ref (B + 0), .int (w3 v1)] M (hq_qz (fun z M' => M' = M ∧ k z)) := by
  refine hq_meth (cc := cX12_isLetter) (maxL := 2) (ret := (some .boolean)) (own := RX12) hZ rfl (by decide +kernel) rfl (Nat.le_of_ble_eq_true rfl) ?_
  intro p e s m below meth c ls C hs hl
  have hx := C.1.1
  have hb := C.1.2.1
  unfold w_X12_isLetter at hw
  have hl : lv_has ls 2 [(0, .ref (B + 0)), (1, .int (w3 v1))] := hl
  refine lv_iload_n hx hb dX12_isLetter_0 rfl (lv_at hl 1 rfl) ?_
  refine hq_i2l (y := 0) C rv1 dX12_isLetter_1 ?_
  refine hq_lconst (z := 0) C dX12_isLetter_2 rfl ?_
  refine lv_aload_n hx hb dX12_isLetter_3 rfl (lv_at hl 0 rfl) ?_
  refine hq_getI (o := 0) C hs fX12_isLetter_252 tkM_0 (by decide) rfl dX12_isLetter_4 (fun g1 => ?_)
  refine hq_iconst C dX12_isLetter_7 ?_
  obtain ⟨g2, hw⟩ := hw
  refine hq_isub C dX12_isLetter_8 ?_
  refine hq_i2l (y := 0) C g2 dX12_isLetter_9 ?_
  refine hq_cS (n := 3) C hs (c_X12_in l C.2.2.2.2.1 v1 (rg_rl rv1) 0 (by decide : rl 0) ((M 0 25) - 1) (rg_rl g2) _ _ hw) gX12_isLetter_X12_in rfl ⟨rfl, rfl⟩ (by decide +kernel) ⟨Nat.le_of_ble_eq_true rfl, Nat.le_of_ble_eq_true rfl⟩ rfl hl.1 rfl (Nat.le_of_ble_eq_true rfl) dX12_isLetter_10 (hq_kz (fun x3 M9 H locs rx3 hw hs => ?_))
  obtain ⟨e9, hw⟩ := hw; rw [e9] at hs
  exact hq_zret C hs rx3 ⟨rfl, hw⟩ dX12_isLetter_13
theorem iX12_gives_12 : ∀ w ∈ u_ws RX12 TX12 57, w ∈ wsX12_gives := fun w h => List.mem_cons_of_mem _ (List.mem_append_right _ h)
set_option maxRecDepth 20000 in
theorem fX12_gives_32 : hq_fl vwCl wsX12_gives RX12 32 12 18 true (.array .int) := ⟨RX12, TX12, 57, tyX12, rfl, by decide, iX12_gives_12, by decide +kernel, rfl, tyX12_ok 18 (by decide), tyX12_ok, nmX12⟩
set_option maxRecDepth 20000 in
theorem fX12_gives_47 : hq_fl vwCl wsX12_gives RX12 47 12 26 true (.array .int) := ⟨RX12, TX12, 57, tyX12, rfl, by decide, iX12_gives_12, by decide +kernel, rfl, tyX12_ok 26 (by decide), tyX12_ok, nmX12⟩
set_option maxRecDepth 20000 in
theorem fX12_gives_53 : hq_fl vwCl wsX12_gives RX12 53 12 28 true (.array .int) := ⟨RX12, TX12, 57, tyX12, rfl, by decide, iX12_gives_12, by decide +kernel, rfl, tyX12_ok 28 (by decide), tyX12_ok, nmX12⟩
set_option maxRecDepth 20000 in
theorem fX12_gives_56 : hq_fl vwCl wsX12_gives RX12 56 12 29 true (.array .int) := ⟨RX12, TX12, 57, tyX12, rfl, by decide, iX12_gives_12, by decide +kernel, rfl, tyX12_ok 29 (by decide), tyX12_ok, nmX12⟩
set_option maxRecDepth 20000 in
theorem fX12_gives_59 : hq_fl vwCl wsX12_gives RX12 59 12 30 true (.array .int) := ⟨RX12, TX12, 57, tyX12, rfl, by decide, iX12_gives_12, by decide +kernel, rfl, tyX12_ok 30 (by decide), tyX12_ok, nmX12⟩
set_option maxRecDepth 20000 in
theorem kX12_gives_382 : Cond.constantLong RX12 382 99 ∈ wsX12_gives := by decide +kernel
set_option maxHeartbeats 4000000 in
set_option maxRecDepth 100000 in
theorem c_X12_gives (l : Launch) {D : va_G} {cA : Nat → ClassId} {B : Nat} {Z : State → Prop} (hZ : hq_Zo Z (hq_in B YM.length)) (v1 : Int) (rv1 : rg v1) (v2 : Int) (rv2 : rg v2) (M : hq_M) (k : Int → hq_M → Prop) (hw : w_X12_gives v1 v2 M k) : hq_T vwCl SLx l yX12_gives wsX12_gives ({ frames := 4, cells := 0, slots := 0, locals := 90 } : Room) D cA YM B Z [.ref (B + 0), .int (w3 v1), .int (w3 v2)] M (hq_qi k) := by
  refine hq_meth (cc := cX12_gives) (maxL := 3) (ret := (some .int)) (own := RX12) hZ rfl (by decide +kernel) rfl (Nat.le_of_ble_eq_true rfl) ?_
  intro p e s m below meth c ls C hs hl
  have hx := C.1.1
  have hb := C.1.2.1
  unfold w_X12_gives at hw
  have hl : lv_has ls 3 [(0, .ref (B + 0)), (1, .int (w3 v1)), (2, .int (w3 v2))] := hl
  refine lv_aload_n hx hb dX12_gives_0 rfl (lv_at hl 0 rfl) ?_
  refine lv_iload_n hx hb dX12_gives_1 rfl (lv_at hl 1 rfl) ?_
  refine hq_cV (n := 1) (ci := 12) (o := 0) (qc := (TX12, 57)) C hs (c_X12_isLetter l C.2.2.2.2.1 v1 rv1 _ _ hw) gX12_gives_X12_isLetter rfl ⟨rfl, rfl⟩ (by decide +kernel) ⟨Nat.le_of_ble_eq_true rfl, Nat.le_of_ble_eq_true rfl⟩ tkM_0 (by decide) rfl rfl hl.1 rfl (Nat.le_of_ble_eq_true rfl) dX12_gives_2 (hq_kz (fun x1 M9 H locs rx1 hw hs => ?_))
  obtain ⟨e9, hw⟩ := hw; rw [e9] at hs
  refine hq_if_eq (tgt := 20) C (rb_rg rx1) dX12_gives_5 (by decide) (fun h => ?_) (fun h => ?_)
  · have hw := hw.1 h
    refine hq_iconst C dX12_gives_20 ?_
    exact hq_iret C hs (by decide : rg (-1)) hw dX12_gives_21
  · have hw := hw.2 h
    refine lv_iload_n hx hb dX12_gives_8 rfl (lv_at hl 2 rfl) ?_
    refine hq_i2l (y := 0) C rv2 dX12_gives_9 ?_
    refine hq_lconst (z := 1) C dX12_gives_10 rfl ?_
    refine hq_ldc2 (z := 99) C kX12_gives_382 (by decide) dX12_gives_11 ?_
    refine hq_cS (n := 3) C hs (c_X12_in l C.2.2.2.2.1 v2 (rg_rl rv2) 1 (by decide : rl 1) 99 (by decide : rl 99) _ _ hw) gX12_gives_X12_in rfl ⟨rfl, rfl⟩ (by decide +kernel) ⟨Nat.le_of_ble_eq_true rfl, Nat.le_of_ble_eq_true rfl⟩ rfl hl.1 rfl (Nat.le_of_ble_eq_true rfl) dX12_gives_14 (hq_kz (fun x2 M9 H locs rx2 hw hs => ?_))
    obtain ⟨e9, hw⟩ := hw; rw [e9] at hs
    refine hq_if_ne (tgt := 22) C (rb_rg rx2) dX12_gives_17 (by decide) (fun h => ?_) (fun h => ?_)
    · have hw := hw.1 h
      refine lv_aload_n hx hb dX12_gives_22 rfl (lv_at hl 0 rfl) ?_
      refine hq_getA (o := 0) C hs fX12_gives_59 tkM_0 (by decide) rfl dX12_gives_23 ?_
      refine lv_iload_n hx hb dX12_gives_26 rfl (lv_at hl 1 rfl) ?_
      obtain ⟨g3, hw⟩ := hw
      refine hq_iald (o := 15) C hs tkM_15 rv1 g3 dX12_gives_27 (fun g4 => ?_)
      refine hq_if_eq (tgt := 34) C g4 dX12_gives_28 (by decide) (fun h => ?_) (fun h => ?_)
      · have hw := hw.1 h
        refine lv_aload_n hx hb dX12_gives_34 rfl (lv_at hl 0 rfl) ?_
        refine hq_getA (o := 0) C hs fX12_gives_56 tkM_0 (by decide) rfl dX12_gives_35 ?_
        refine lv_iload_n hx hb dX12_gives_38 rfl (lv_at hl 1 rfl) ?_
        refine lv_aload_n hx hb dX12_gives_39 rfl (lv_at hl 0 rfl) ?_
        refine hq_getA (o := 0) C hs fX12_gives_53 tkM_0 (by decide) rfl dX12_gives_40 ?_
        refine lv_iload_n hx hb dX12_gives_43 rfl (lv_at hl 1 rfl) ?_
        obtain ⟨g5, hw⟩ := hw
        refine hq_iald (o := 13) C hs tkM_13 rv1 g5 dX12_gives_44 (fun g6 => ?_)
        refine lv_aload_n hx hb dX12_gives_45 rfl (lv_at hl 0 rfl) ?_
        refine hq_getA (o := 0) C hs fX12_gives_56 tkM_0 (by decide) rfl dX12_gives_46 ?_
        refine lv_iload_n hx hb dX12_gives_49 rfl (lv_at hl 1 rfl) ?_
        obtain ⟨g7, hw⟩ := hw
        refine hq_iald (o := 14) C hs tkM_14 rv1 g7 dX12_gives_50 (fun g8 => ?_)
        refine lv_iload_n hx hb dX12_gives_51 rfl (lv_at hl 2 rfl) ?_
        obtain ⟨g9, hw⟩ := hw
        refine hq_iadd C dX12_gives_52 ?_
        refine hq_cS (n := 2) C hs (c_X12_lesser l C.2.2.2.2.1 (M 13 v1.toNat) g6 ((M 14 v1.toNat) + v2) g9 _ _ hw) gX12_gives_X12_lesser rfl ⟨rfl, rfl⟩ (by decide +kernel) ⟨Nat.le_of_ble_eq_true rfl, Nat.le_of_ble_eq_true rfl⟩ rfl hl.1 rfl (Nat.le_of_ble_eq_true rfl) dX12_gives_53 (hq_ki (fun x10 M9 H locs rx10 hw hs => ?_))
        obtain ⟨e9, hw⟩ := hw; rw [e9] at hs
        obtain ⟨g11, hw⟩ := hw
        refine hq_iast (o := 14) C hs tkM_14 rv1 g11 rx10 dX12_gives_56 (fun M12 eM12 H locs hs => ?_)
        have hw := hw M12 eM12
        refine lv_aload_n hx hb dX12_gives_57 rfl (lv_at hl 0 rfl) ?_
        refine hq_getA (o := 0) C hs fX12_gives_56 tkM_0 (by decide) rfl dX12_gives_58 ?_
        refine lv_iload_n hx hb dX12_gives_61 rfl (lv_at hl 1 rfl) ?_
        obtain ⟨g13, hw⟩ := hw
        refine hq_iald (o := 14) C hs tkM_14 rv1 g13 dX12_gives_62 (fun g14 => ?_)
        refine lv_aload_n hx hb dX12_gives_63 rfl (lv_at hl 0 rfl) ?_
        refine hq_getA (o := 0) C hs fX12_gives_53 tkM_0 (by decide) rfl dX12_gives_64 ?_
        refine lv_iload_n hx hb dX12_gives_67 rfl (lv_at hl 1 rfl) ?_
        obtain ⟨g15, hw⟩ := hw
        refine hq_iald (o := 13) C hs tkM_13 rv1 g15 dX12_gives_68 (fun g16 => ?_)
        refine hq_icmp_ge (tgt := 74) C g14 g16 dX12_gives_69 (by decide) (fun h => ?_) (fun h => ?_)
        · have hw := hw.1 h
          refine lv_aload_n hx hb dX12_gives_74 rfl (lv_at hl 0 rfl) ?_
          refine hq_getA (o := 0) C hs fX12_gives_47 tkM_0 (by decide) rfl dX12_gives_75 ?_
          refine lv_iload_n hx hb dX12_gives_78 rfl (lv_at hl 1 rfl) ?_
          obtain ⟨g17, hw⟩ := hw
          refine hq_iald (o := 11) C hs tkM_11 rv1 g17 dX12_gives_79 (fun g18 => ?_)
          refine lv_aload_n hx hb dX12_gives_80 rfl (lv_at hl 0 rfl) ?_
          refine hq_getA (o := 0) C hs fX12_gives_32 tkM_0 (by decide) rfl dX12_gives_81 ?_
          refine hq_iconst C dX12_gives_84 ?_
          obtain ⟨g19, hw⟩ := hw
          refine hq_iald (o := 6) C hs tkM_6 (by decide : rg 1) g19 dX12_gives_85 (fun g20 => ?_)
          refine hq_icmp_le (tgt := 98) C g18 g20 dX12_gives_86 (by decide) (fun h => ?_) (fun h => ?_)
          · have hw := hw.1 h
            refine lv_aload_n hx hb dX12_gives_98 rfl (lv_at hl 0 rfl) ?_
            refine lv_iload_n hx hb dX12_gives_99 rfl (lv_at hl 1 rfl) ?_
            refine hq_cV (n := 1) (ci := 12) (o := 0) (qc := (TX12, 57)) C hs (c_X12_becomesRead l C.2.2.2.2.1 v1 rv1 _ _ hw) gX12_gives_X12_becomesRead rfl ⟨rfl, rfl⟩ (by decide +kernel) ⟨Nat.le_of_ble_eq_true rfl, Nat.le_of_ble_eq_true rfl⟩ tkM_0 (by decide) rfl rfl hl.1 rfl (Nat.le_of_ble_eq_true rfl) dX12_gives_100 (hq_kv (fun M21 H locs hw hs => ?_))
            refine hq_iconst C dX12_gives_103 ?_
            exact hq_iret C hs (by decide : rg 2) hw dX12_gives_104
          · have hw := hw.2 h
            refine lv_aload_n hx hb dX12_gives_89 rfl (lv_at hl 0 rfl) ?_
            refine hq_getA (o := 0) C hs fX12_gives_59 tkM_0 (by decide) rfl dX12_gives_90 ?_
            refine lv_iload_n hx hb dX12_gives_93 rfl (lv_at hl 1 rfl) ?_
            refine hq_iconst C dX12_gives_94 ?_
            obtain ⟨g22, hw⟩ := hw
            refine hq_iast (o := 15) C hs tkM_15 rv1 g22 (by decide : rg 1) dX12_gives_95 (fun M23 eM23 H locs hs => ?_)
            have hw := hw M23 eM23
            refine hq_iconst C dX12_gives_96 ?_
            exact hq_iret C hs (by decide : rg 1) hw dX12_gives_97
        · have hw := hw.2 h
          refine hq_iconst C dX12_gives_72 ?_
          exact hq_iret C hs (by decide : rg 0) hw dX12_gives_73
      · have hw := hw.2 h
        refine hq_bipush C dX12_gives_31 (by decide) ?_
        exact hq_iret C hs (by decide : rg (-2)) hw dX12_gives_33
    · have hw := hw.2 h
      refine hq_iconst C dX12_gives_20 ?_
      exact hq_iret C hs (by decide : rg (-1)) hw dX12_gives_21
theorem iX12_quits_12 : ∀ w ∈ u_ws RX12 TX12 57, w ∈ wsX12_quits := fun w h => List.mem_cons_of_mem _ (List.mem_append_right _ h)
set_option maxRecDepth 20000 in
theorem fX12_quits_56 : hq_fl vwCl wsX12_quits RX12 56 12 29 true (.array .int) := ⟨RX12, TX12, 57, tyX12, rfl, by decide, iX12_quits_12, by decide +kernel, rfl, tyX12_ok 29 (by decide), tyX12_ok, nmX12⟩
set_option maxRecDepth 20000 in
theorem fX12_quits_59 : hq_fl vwCl wsX12_quits RX12 59 12 30 true (.array .int) := ⟨RX12, TX12, 57, tyX12, rfl, by decide, iX12_quits_12, by decide +kernel, rfl, tyX12_ok 30 (by decide), tyX12_ok, nmX12⟩
set_option maxHeartbeats 4000000 in
set_option maxRecDepth 100000 in
theorem c_X12_quits (l : Launch) {D : va_G} {cA : Nat → ClassId} {B : Nat} {Z : State → Prop} (hZ : hq_Zo Z (hq_in B YM.length)) (v1 : Int) (rv1 : rg v1) (M : hq_M) (k : Int → hq_M → Prop) (hw : w_X12_quits v1 M k) : hq_T vwCl SLx l yX12_quits wsX12_quits ({ frames := 3, cells := 0, slots := 0, locals := 69 } : Room) D cA YM B Z [.ref (B + 0), .int (w3 v1)] M (hq_qi k) := by
  refine hq_meth (cc := cX12_quits) (maxL := 2) (ret := (some .int)) (own := RX12) hZ rfl (by decide +kernel) rfl (Nat.le_of_ble_eq_true rfl) ?_
  intro p e s m below meth c ls C hs hl
  have hx := C.1.1
  have hb := C.1.2.1
  unfold w_X12_quits at hw
  have hl : lv_has ls 2 [(0, .ref (B + 0)), (1, .int (w3 v1))] := hl
  refine lv_aload_n hx hb dX12_quits_0 rfl (lv_at hl 0 rfl) ?_
  refine lv_iload_n hx hb dX12_quits_1 rfl (lv_at hl 1 rfl) ?_
  refine hq_cV (n := 1) (ci := 12) (o := 0) (qc := (TX12, 57)) C hs (c_X12_isLetter l C.2.2.2.2.1 v1 rv1 _ _ hw) gX12_quits_X12_isLetter rfl ⟨rfl, rfl⟩ (by decide +kernel) ⟨Nat.le_of_ble_eq_true rfl, Nat.le_of_ble_eq_true rfl⟩ tkM_0 (by decide) rfl rfl hl.1 rfl (Nat.le_of_ble_eq_true rfl) dX12_quits_2 (hq_kz (fun x1 M9 H locs rx1 hw hs => ?_))
  obtain ⟨e9, hw⟩ := hw; rw [e9] at hs
  refine hq_if_ne (tgt := 10) C (rb_rg rx1) dX12_quits_5 (by decide) (fun h => ?_) (fun h => ?_)
  · have hw := hw.1 h
    refine lv_aload_n hx hb dX12_quits_10 rfl (lv_at hl 0 rfl) ?_
    refine hq_getA (o := 0) C hs fX12_quits_59 tkM_0 (by decide) rfl dX12_quits_11 ?_
    refine lv_iload_n hx hb dX12_quits_14 rfl (lv_at hl 1 rfl) ?_
    obtain ⟨g2, hw⟩ := hw
    refine hq_iald (o := 15) C hs tkM_15 rv1 g2 dX12_quits_15 (fun g3 => ?_)
    refine hq_iconst C dX12_quits_16 ?_
    refine hq_icmp_le (tgt := 23) C g3 (by decide : rg 1) dX12_quits_17 (by decide) (fun h => ?_) (fun h => ?_)
    · have hw := hw.1 h
      refine lv_aload_n hx hb dX12_quits_23 rfl (lv_at hl 0 rfl) ?_
      refine hq_getA (o := 0) C hs fX12_quits_59 tkM_0 (by decide) rfl dX12_quits_24 ?_
      refine lv_iload_n hx hb dX12_quits_27 rfl (lv_at hl 1 rfl) ?_
      refine hq_iconst C dX12_quits_28 ?_
      obtain ⟨g4, hw⟩ := hw
      refine hq_iast (o := 15) C hs tkM_15 rv1 g4 (by decide : rg 3) dX12_quits_29 (fun M5 eM5 H locs hs => ?_)
      have hw := hw M5 eM5
      refine lv_aload_n hx hb dX12_quits_30 rfl (lv_at hl 0 rfl) ?_
      refine hq_iconst C dX12_quits_31 ?_
      refine lv_iload_n hx hb dX12_quits_32 rfl (lv_at hl 1 rfl) ?_
      refine hq_cV (n := 2) (ci := 12) (o := 0) (qc := (TX12, 57)) C hs (c_X12_answer l C.2.2.2.2.1 1 (by decide : rg 1) v1 rv1 _ _ hw) gX12_quits_X12_answer rfl ⟨rfl, rfl⟩ (by decide +kernel) ⟨Nat.le_of_ble_eq_true rfl, Nat.le_of_ble_eq_true rfl⟩ tkM_0 (by decide) rfl rfl hl.1 rfl (Nat.le_of_ble_eq_true rfl) dX12_quits_33 (hq_kv (fun M6 H locs hw hs => ?_))
      refine lv_aload_n hx hb dX12_quits_36 rfl (lv_at hl 0 rfl) ?_
      refine hq_getA (o := 0) C hs fX12_quits_56 tkM_0 (by decide) rfl dX12_quits_37 ?_
      refine lv_iload_n hx hb dX12_quits_40 rfl (lv_at hl 1 rfl) ?_
      obtain ⟨g7, hw⟩ := hw
      refine hq_iald (o := 14) C hs tkM_14 rv1 g7 dX12_quits_41 (fun g8 => ?_)
      exact hq_iret C hs g8 hw dX12_quits_42
    · have hw := hw.2 h
      refine hq_bipush C dX12_quits_20 (by decide) ?_
      exact hq_iret C hs (by decide : rg (-2)) hw dX12_quits_22
  · have hw := hw.2 h
    refine hq_iconst C dX12_quits_8 ?_
    exact hq_iret C hs (by decide : rg (-1)) hw dX12_quits_9
theorem iX12_grows_12 : ∀ w ∈ u_ws RX12 TX12 57, w ∈ wsX12_grows := fun w h => List.mem_cons_of_mem _ (List.mem_append_right _ h)
set_option maxRecDepth 20000 in
theorem fX12_grows_32 : hq_fl vwCl wsX12_grows RX12 32 12 18 true (.array .int) := ⟨RX12, TX12, 57, tyX12, rfl, by decide, iX12_grows_12, by decide +kernel, rfl, tyX12_ok 18 (by decide), tyX12_ok, nmX12⟩
set_option maxRecDepth 20000 in
theorem fX12_grows_361 : hq_fl vwCl wsX12_grows RX12 361 12 52 false .int := ⟨RX12, TX12, 57, tyX12, rfl, by decide, iX12_grows_12, by decide +kernel, rfl, tyX12_ok 52 (by decide), tyX12_ok, nmX12⟩
set_option maxRecDepth 20000 in
theorem fX12_grows_370 : hq_fl vwCl wsX12_grows RX12 370 12 24 false .int := ⟨RX12, TX12, 57, tyX12, rfl, by decide, iX12_grows_12, by decide +kernel, rfl, tyX12_ok 24 (by decide), tyX12_ok, nmX12⟩
set_option maxHeartbeats 4000000 in
set_option maxRecDepth 100000 in
theorem c_X12_grows (l : Launch) {D : va_G} {cA : Nat → ClassId} {B : Nat} {Z : State → Prop} (hZ : hq_Zo Z (hq_in B YM.length))  (M : hq_M) (k : Int → hq_M → Prop) (hw : w_X12_grows  M k) : hq_T vwCl SLx l yX12_grows wsX12_grows ({ frames := 3, cells := 0, slots := 0, locals := 69 } : Room) D cA YM B Z [.ref (B + 0)] M (hq_qi k) := by
  refine hq_meth (cc := cX12_grows) (maxL := 2) (ret := (some .int)) (own := RX12) hZ rfl (by decide +kernel) rfl (Nat.le_of_ble_eq_true rfl) ?_
  intro p e s m below meth c ls C hs hl
  have hx := C.1.1
  have hb := C.1.2.1
  unfold w_X12_grows at hw
  have hl : lv_has ls 2 [(0, .ref (B + 0))] := hl
  refine lv_aload_n hx hb dX12_grows_0 rfl (lv_at hl 0 rfl) ?_
  refine hq_getA (o := 0) C hs fX12_grows_32 tkM_0 (by decide) rfl dX12_grows_1 ?_
  refine hq_iconst C dX12_grows_4 ?_
  obtain ⟨g1, hw⟩ := hw
  refine hq_iald (o := 6) C hs tkM_6 (by decide : rg 1) g1 dX12_grows_5 (fun g2 => ?_)
  refine lv_aload_n hx hb dX12_grows_6 rfl (lv_at hl 0 rfl) ?_
  refine hq_getI (o := 0) C hs fX12_grows_370 tkM_0 (by decide) rfl dX12_grows_7 (fun g3 => ?_)
  obtain ⟨g4, hw⟩ := hw
  refine hq_isub C dX12_grows_10 ?_
  refine hq_nm (fun x5 ex5 => ?_)
  have hw := hw x5 ex5
  have rx5 : rg x5 := by rw [ex5]; exact g4
  refine lv_istore_n (lv' := [(1, .int (w3 x5)), (0, .ref (B + 0))]) hx hb dX12_grows_11 rfl hl (by decide) rfl (fun ls hl => ?_)
  refine lv_iload_n hx hb dX12_grows_12 rfl (lv_at hl 0 rfl) ?_
  refine hq_if_ne (tgt := 19) C rx5 dX12_grows_13 (by decide) (fun h => ?_) (fun h => ?_)
  · have hw := hw.1 h
    refine lv_aload_n hx hb dX12_grows_19 rfl (lv_at hl 1 rfl) ?_
    refine hq_getI (o := 0) C hs fX12_grows_361 tkM_0 (by decide) rfl dX12_grows_20 (fun g6 => ?_)
    refine hq_bipush C dX12_grows_23 (by decide) ?_
    refine hq_icmp_lt (tgt := 31) C g6 (by decide : rg 100) dX12_grows_25 (by decide) (fun h => ?_) (fun h => ?_)
    · have hw := hw.1 h
      refine lv_aload_n hx hb dX12_grows_31 rfl (lv_at hl 1 rfl) ?_
      refine hq_iconst C dX12_grows_32 ?_
      refine lv_iload_n hx hb dX12_grows_33 rfl (lv_at hl 0 rfl) ?_
      refine hq_cV (n := 2) (ci := 12) (o := 0) (qc := (TX12, 57)) C hs (c_X12_answer l C.2.2.2.2.1 2 (by decide : rg 2) x5 rx5 _ _ hw) gX12_grows_X12_answer rfl ⟨rfl, rfl⟩ (by decide +kernel) ⟨Nat.le_of_ble_eq_true rfl, Nat.le_of_ble_eq_true rfl⟩ tkM_0 (by decide) rfl rfl hl.1 rfl (Nat.le_of_ble_eq_true rfl) dX12_grows_34 (hq_kv (fun M7 H locs hw hs => ?_))
      refine lv_aload_n hx hb dX12_grows_37 rfl (lv_at hl 1 rfl) ?_
      refine lv_aload_n hx hb dX12_grows_38 rfl (lv_at hl 1 rfl) ?_
      refine hq_getA (o := 0) C hs fX12_grows_32 tkM_0 (by decide) rfl dX12_grows_39 ?_
      refine hq_iconst C dX12_grows_42 ?_
      obtain ⟨g8, hw⟩ := hw
      refine hq_iald (o := 6) C hs tkM_6 (by decide : rg 1) g8 dX12_grows_43 (fun g9 => ?_)
      refine hq_putI (o := 0) C hs fX12_grows_370 tkM_0 (by decide) rfl g9 dX12_grows_44 (fun M10 eM10 H locs hs => ?_)
      have hw := hw M10 eM10
      refine lv_iload_n hx hb dX12_grows_47 rfl (lv_at hl 0 rfl) ?_
      exact hq_iret C hs rx5 hw dX12_grows_48
    · have hw := hw.2 h
      refine hq_bipush C dX12_grows_28 (by decide) ?_
      exact hq_iret C hs (by decide : rg (-3)) hw dX12_grows_30
  · have hw := hw.2 h
    refine hq_bipush C dX12_grows_16 (by decide) ?_
    exact hq_iret C hs (by decide : rg (-2)) hw dX12_grows_18
theorem iX12_hearsFirst_12 : ∀ w ∈ u_ws RX12 TX12 57, w ∈ wsX12_hearsFirst := fun w h => List.mem_cons_of_mem _ (List.mem_append_right _ h)
set_option maxRecDepth 20000 in
theorem fX12_hearsFirst_47 : hq_fl vwCl wsX12_hearsFirst RX12 47 12 26 true (.array .int) := ⟨RX12, TX12, 57, tyX12, rfl, by decide, iX12_hearsFirst_12, by decide +kernel, rfl, tyX12_ok 26 (by decide), tyX12_ok, nmX12⟩
set_option maxRecDepth 20000 in
theorem fX12_hearsFirst_62 : hq_fl vwCl wsX12_hearsFirst RX12 62 12 31 true (.array .boolean) := ⟨RX12, TX12, 57, tyX12, rfl, by decide, iX12_hearsFirst_12, by decide +kernel, rfl, tyX12_ok 31 (by decide), tyX12_ok, nmX12⟩
set_option maxRecDepth 20000 in
theorem fX12_hearsFirst_108 : hq_fl vwCl wsX12_hearsFirst RX12 108 12 53 true (.array .int) := ⟨RX12, TX12, 57, tyX12, rfl, by decide, iX12_hearsFirst_12, by decide +kernel, rfl, tyX12_ok 53 (by decide), tyX12_ok, nmX12⟩
set_option maxRecDepth 20000 in
theorem fX12_hearsFirst_111 : hq_fl vwCl wsX12_hearsFirst RX12 111 12 54 true (.array .int) := ⟨RX12, TX12, 57, tyX12, rfl, by decide, iX12_hearsFirst_12, by decide +kernel, rfl, tyX12_ok 54 (by decide), tyX12_ok, nmX12⟩
set_option maxRecDepth 20000 in
theorem fX12_hearsFirst_114 : hq_fl vwCl wsX12_hearsFirst RX12 114 12 55 true (.array .int) := ⟨RX12, TX12, 57, tyX12, rfl, by decide, iX12_hearsFirst_12, by decide +kernel, rfl, tyX12_ok 55 (by decide), tyX12_ok, nmX12⟩
set_option maxRecDepth 20000 in
theorem fX12_hearsFirst_258 : hq_fl vwCl wsX12_hearsFirst RX12 258 12 23 false .int := ⟨RX12, TX12, 57, tyX12, rfl, by decide, iX12_hearsFirst_12, by decide +kernel, rfl, tyX12_ok 23 (by decide), tyX12_ok, nmX12⟩
set_option maxRecDepth 20000 in
theorem fX12_hearsFirst_364 : hq_fl vwCl wsX12_hearsFirst RX12 364 12 56 false .int := ⟨RX12, TX12, 57, tyX12, rfl, by decide, iX12_hearsFirst_12, by decide +kernel, rfl, tyX12_ok 56 (by decide), tyX12_ok, nmX12⟩
set_option maxHeartbeats 4000000 in
set_option maxRecDepth 100000 in
theorem cl_X12_hearsFirst_82 {p : Program} {l : Launch} {e : Env} {s : State} {m : MethodId} {args : Array Value} {below : List Frame} {meth : Method} {c : Code} {D : va_G} {cA : Nat → ClassId} {B : Nat} {Z : State → Prop}   {k : hq_M → Prop} (C : hq_C vwCl p m c cX12_hearsFirst 3 s args wsX12_hearsFirst RX12 meth none D cA (hq_in B YM.length) Z)
     : ∀ (n : Nat) (v2 : Int) (rv2 : rg v2) (M : hq_M) (H : Heap) (locs : List Loc) (ls : Array Slot), l_X12_hearsFirst_82 k n v2 M → hq_S vwCl SLx D cA YM B s.heap M H locs → lv_has ls 3 [(0, .ref (B + 0)), (2, .int (w3 v2))] → W p l e ({ frames := 1, cells := 0, slots := 0, locals := 21 } : Room) s m args below meth c H locs 0 0 (MQ below (hq_Q vwCl SLx D cA YM B (hq_qv k)) args s 0 0 (hq_in B YM.length)) (F0 m 82 ls []) := by
  have hx := C.1.1
  have hb := C.1.2.1
  intro n
  induction n with
  | zero => intro v2 rv2 M H locs ls hw hs hl; exact hw.elim
  | succ n ih =>
    intro v2 rv2 M H locs ls hw hs hl
    unfold l_X12_hearsFirst_82 at hw
    refine lv_iload_n hx hb dX12_hearsFirst_82 rfl (lv_at hl 1 rfl) ?_
    refine lv_aload_n hx hb dX12_hearsFirst_83 rfl (lv_at hl 0 rfl) ?_
    refine hq_getI (o := 0) C hs fX12_hearsFirst_364 tkM_0 (by decide) rfl dX12_hearsFirst_84 (fun g1 => ?_)
    refine hq_icmp_ge (tgt := 138) C rv2 g1 dX12_hearsFirst_87 (by decide) (fun h => ?_) (fun h => ?_)
    · have hw := hw.1 h
      exact hq_vret C hs hw dX12_hearsFirst_138
    · have hw := hw.2 h
      refine lv_aload_n hx hb dX12_hearsFirst_90 rfl (lv_at hl 0 rfl) ?_
      refine hq_getA (o := 0) C hs fX12_hearsFirst_108 tkM_0 (by decide) rfl dX12_hearsFirst_91 ?_
      refine lv_iload_n hx hb dX12_hearsFirst_94 rfl (lv_at hl 1 rfl) ?_
      refine lv_aload_n hx hb dX12_hearsFirst_95 rfl (lv_at hl 0 rfl) ?_
      refine hq_getA (o := 0) C hs fX12_hearsFirst_108 tkM_0 (by decide) rfl dX12_hearsFirst_96 ?_
      refine lv_iload_n hx hb dX12_hearsFirst_99 rfl (lv_at hl 1 rfl) ?_
      refine hq_iconst C dX12_hearsFirst_100 ?_
      obtain ⟨g2, hw⟩ := hw
      refine hq_iadd C dX12_hearsFirst_101 ?_
      obtain ⟨g3, hw⟩ := hw
      refine hq_iald (o := 31) C hs tkM_31 g2 g3 dX12_hearsFirst_102 (fun g4 => ?_)
      obtain ⟨g5, hw⟩ := hw
      refine hq_iast (o := 31) C hs tkM_31 rv2 g5 g4 dX12_hearsFirst_103 (fun M6 eM6 H locs hs => ?_)
      have hw := hw M6 eM6
      refine lv_aload_n hx hb dX12_hearsFirst_104 rfl (lv_at hl 0 rfl) ?_
      refine hq_getA (o := 0) C hs fX12_hearsFirst_111 tkM_0 (by decide) rfl dX12_hearsFirst_105 ?_
      refine lv_iload_n hx hb dX12_hearsFirst_108 rfl (lv_at hl 1 rfl) ?_
      refine lv_aload_n hx hb dX12_hearsFirst_109 rfl (lv_at hl 0 rfl) ?_
      refine hq_getA (o := 0) C hs fX12_hearsFirst_111 tkM_0 (by decide) rfl dX12_hearsFirst_110 ?_
      refine lv_iload_n hx hb dX12_hearsFirst_113 rfl (lv_at hl 1 rfl) ?_
      refine hq_iconst C dX12_hearsFirst_114 ?_
      obtain ⟨g7, hw⟩ := hw
      refine hq_iadd C dX12_hearsFirst_115 ?_
      obtain ⟨g8, hw⟩ := hw
      refine hq_iald (o := 32) C hs tkM_32 g7 g8 dX12_hearsFirst_116 (fun g9 => ?_)
      obtain ⟨g10, hw⟩ := hw
      refine hq_iast (o := 32) C hs tkM_32 rv2 g10 g9 dX12_hearsFirst_117 (fun M11 eM11 H locs hs => ?_)
      have hw := hw M11 eM11
      refine lv_aload_n hx hb dX12_hearsFirst_118 rfl (lv_at hl 0 rfl) ?_
      refine hq_getA (o := 0) C hs fX12_hearsFirst_114 tkM_0 (by decide) rfl dX12_hearsFirst_119 ?_
      refine lv_iload_n hx hb dX12_hearsFirst_122 rfl (lv_at hl 1 rfl) ?_
      refine lv_aload_n hx hb dX12_hearsFirst_123 rfl (lv_at hl 0 rfl) ?_
      refine hq_getA (o := 0) C hs fX12_hearsFirst_114 tkM_0 (by decide) rfl dX12_hearsFirst_124 ?_
      refine lv_iload_n hx hb dX12_hearsFirst_127 rfl (lv_at hl 1 rfl) ?_
      refine hq_iconst C dX12_hearsFirst_128 ?_
      obtain ⟨g12, hw⟩ := hw
      refine hq_iadd C dX12_hearsFirst_129 ?_
      obtain ⟨g13, hw⟩ := hw
      refine hq_iald (o := 33) C hs tkM_33 g12 g13 dX12_hearsFirst_130 (fun g14 => ?_)
      obtain ⟨g15, hw⟩ := hw
      refine hq_iast (o := 33) C hs tkM_33 rv2 g15 g14 dX12_hearsFirst_131 (fun M16 eM16 H locs hs => ?_)
      have hw := hw M16 eM16
      obtain ⟨g18, hw⟩ := hw
      refine hq_iinc (k := 1) C dX12_hearsFirst_132 hl rfl (by decide) (fun x17 ex17 ls hl => ?_)
      have hw := hw x17 ex17
      have rx17 : rg x17 := by rw [ex17]; exact g18
      have hl : lv_has ls 3 [(2, .int (w3 x17)), (0, .ref (B + 0))] := hl
      refine hq_goto (tgt := 82) C dX12_hearsFirst_135 (by decide) ?_
      exact ih x17 rx17 _ _ _ _ hw hs (lv_sub hl [1, 0] rfl)
set_option maxHeartbeats 4000000 in
set_option maxRecDepth 100000 in
theorem cb_X12_hearsFirst_70 {p : Program} {l : Launch} {e : Env} {s : State} {m : MethodId} {args : Array Value} {below : List Frame} {meth : Method} {c : Code} {D : va_G} {cA : Nat → ClassId} {B : Nat} {Z : State → Prop}   {k : hq_M → Prop} {M : hq_M} {H : Heap} {locs : List Loc} {ls : Array Slot} (C : hq_C vwCl p m c cX12_hearsFirst 3 s args wsX12_hearsFirst RX12 meth none D cA (hq_in B YM.length) Z)
    (hw : b_X12_hearsFirst_70 k M) (hs : hq_S vwCl SLx D cA YM B s.heap M H locs) (hl : lv_has ls 3 [(0, .ref (B + 0))])
     : W p l e ({ frames := 1, cells := 0, slots := 0, locals := 21 } : Room) s m args below meth c H locs 0 0 (MQ below (hq_Q vwCl SLx D cA YM B (hq_qv k)) args s 0 0 (hq_in B YM.length)) (F0 m 70 ls []) := by
  have hx := C.1.1
  have hb := C.1.2.1
  unfold b_X12_hearsFirst_70 at hw
  refine lv_aload_n hx hb dX12_hearsFirst_70 rfl (lv_at hl 0 rfl) ?_
  refine lv_dup hx hb dX12_hearsFirst_71 rfl ?_
  refine hq_getI (o := 0) C hs fX12_hearsFirst_364 tkM_0 (by decide) rfl dX12_hearsFirst_72 (fun g1 => ?_)
  refine hq_iconst C dX12_hearsFirst_75 ?_
  obtain ⟨g2, hw⟩ := hw
  refine hq_isub C dX12_hearsFirst_76 ?_
  refine hq_putI (o := 0) C hs fX12_hearsFirst_364 tkM_0 (by decide) rfl g2 dX12_hearsFirst_77 (fun M3 eM3 H locs hs => ?_)
  have hw := hw M3 eM3
  refine hq_iconst C dX12_hearsFirst_80 ?_
  refine lv_istore_n (lv' := [(2, .int (w3 0)), (0, .ref (B + 0))]) hx hb dX12_hearsFirst_81 rfl hl (by decide) rfl (fun ls hl => ?_)
  obtain ⟨n9, hw⟩ := hw
  refine cl_X12_hearsFirst_82  C  n9 0 (by decide : rg 0) _ _ _ _ hw hs (lv_sub hl [1, 0] rfl)
set_option maxHeartbeats 4000000 in
set_option maxRecDepth 100000 in
theorem cb_X12_hearsFirst_67 {p : Program} {l : Launch} {e : Env} {s : State} {m : MethodId} {args : Array Value} {below : List Frame} {meth : Method} {c : Code} {D : va_G} {cA : Nat → ClassId} {B : Nat} {Z : State → Prop} (t1 : Int) (rt1 : rg t1)  {k : hq_M → Prop} {M : hq_M} {H : Heap} {locs : List Loc} {ls : Array Slot} (C : hq_C vwCl p m c cX12_hearsFirst 3 s args wsX12_hearsFirst RX12 meth none D cA (hq_in B YM.length) Z)
    (hw : b_X12_hearsFirst_67 t1 k M) (hs : hq_S vwCl SLx D cA YM B s.heap M H locs) (hl : lv_has ls 3 [(0, .ref (B + 0))])
     : W p l e ({ frames := 1, cells := 0, slots := 0, locals := 21 } : Room) s m args below meth c H locs 0 0 (MQ below (hq_Q vwCl SLx D cA YM B (hq_qv k)) args s 0 0 (hq_in B YM.length)) (F0 m 67 ls [.int (w3 t1), .ref (B + 0)]) := by
  have hx := C.1.1
  have hb := C.1.2.1
  unfold b_X12_hearsFirst_67 at hw
  refine hq_putI (o := 0) C hs fX12_hearsFirst_258 tkM_0 (by decide) rfl rt1 dX12_hearsFirst_67 (fun M1 eM1 H locs hs => ?_)
  have hw := hw M1 eM1
  refine cb_X12_hearsFirst_70  C hw hs (lv_sub hl [0] rfl) 
set_option maxHeartbeats 4000000 in
set_option maxRecDepth 100000 in
theorem c_X12_hearsFirst (l : Launch) {D : va_G} {cA : Nat → ClassId} {B : Nat} {Z : State → Prop} (hZ : hq_Zo Z (hq_in B YM.length))  (M : hq_M) (k : hq_M → Prop) (hw : w_X12_hearsFirst  M k) : hq_T vwCl SLx l yX12_hearsFirst wsX12_hearsFirst ({ frames := 1, cells := 0, slots := 0, locals := 21 } : Room) D cA YM B Z [.ref (B + 0)] M (hq_qv k) := by
  refine hq_meth (cc := cX12_hearsFirst) (maxL := 3) (ret := none) (own := RX12) hZ rfl (by decide +kernel) rfl (Nat.le_of_ble_eq_true rfl) ?_
  intro p e s m below meth c ls C hs hl
  have hx := C.1.1
  have hb := C.1.2.1
  unfold w_X12_hearsFirst at hw
  have hl : lv_has ls 3 [(0, .ref (B + 0))] := hl
  refine lv_aload_n hx hb dX12_hearsFirst_0 rfl (lv_at hl 0 rfl) ?_
  refine hq_getA (o := 0) C hs fX12_hearsFirst_111 tkM_0 (by decide) rfl dX12_hearsFirst_1 ?_
  refine hq_iconst C dX12_hearsFirst_4 ?_
  obtain ⟨g1, hw⟩ := hw
  refine hq_iald (o := 32) C hs tkM_32 (by decide : rg 0) g1 dX12_hearsFirst_5 (fun g2 => ?_)
  refine hq_nm (fun x3 ex3 => ?_)
  have hw := hw x3 ex3
  have rx3 : rg x3 := by rw [ex3]; exact g2
  refine lv_istore_n (lv' := [(1, .int (w3 x3)), (0, .ref (B + 0))]) hx hb dX12_hearsFirst_6 rfl hl (by decide) rfl (fun ls hl => ?_)
  refine lv_aload_n hx hb dX12_hearsFirst_7 rfl (lv_at hl 1 rfl) ?_
  refine hq_getA (o := 0) C hs fX12_hearsFirst_108 tkM_0 (by decide) rfl dX12_hearsFirst_8 ?_
  refine hq_iconst C dX12_hearsFirst_11 ?_
  obtain ⟨g4, hw⟩ := hw
  refine hq_iald (o := 31) C hs tkM_31 (by decide : rg 0) g4 dX12_hearsFirst_12 (fun g5 => ?_)
  refine hq_iconst C dX12_hearsFirst_13 ?_
  refine hq_icmp_ne (tgt := 30) C g5 (by decide : rg 2) dX12_hearsFirst_14 (by decide) (fun h => ?_) (fun h => ?_)
  · have hw := hw.1 h
    refine lv_aload_n hx hb dX12_hearsFirst_30 rfl (lv_at hl 1 rfl) ?_
    refine hq_getA (o := 0) C hs fX12_hearsFirst_62 tkM_0 (by decide) rfl dX12_hearsFirst_31 ?_
    refine lv_iload_n hx hb dX12_hearsFirst_34 rfl (lv_at hl 0 rfl) ?_
    refine hq_iconst C dX12_hearsFirst_35 ?_
    obtain ⟨g6, hw⟩ := hw
    refine hq_zast (o := 16) C hs tkM_16 rx3 g6 (by decide) dX12_hearsFirst_36 (fun M7 eM7 H locs hs => ?_)
    have hw := hw M7 eM7
    refine lv_aload_n hx hb dX12_hearsFirst_37 rfl (lv_at hl 1 rfl) ?_
    refine lv_aload_n hx hb dX12_hearsFirst_38 rfl (lv_at hl 1 rfl) ?_
    refine hq_getA (o := 0) C hs fX12_hearsFirst_108 tkM_0 (by decide) rfl dX12_hearsFirst_39 ?_
    refine hq_iconst C dX12_hearsFirst_42 ?_
    obtain ⟨g8, hw⟩ := hw
    refine hq_iald (o := 31) C hs tkM_31 (by decide : rg 0) g8 dX12_hearsFirst_43 (fun g9 => ?_)
    refine hq_if_ne (tgt := 63) C g9 dX12_hearsFirst_44 (by decide) (fun h => ?_) (fun h => ?_)
    · have hw := hw.1 h
      refine lv_aload_n hx hb dX12_hearsFirst_63 rfl (lv_at hl 1 rfl) ?_
      refine hq_getI (o := 0) C hs fX12_hearsFirst_258 tkM_0 (by decide) rfl dX12_hearsFirst_64 (fun g10 => ?_)
      refine cb_X12_hearsFirst_67 (M7 0 23) g10 C hw hs (lv_sub hl [1] rfl) 
    · have hw := hw.2 h
      refine lv_aload_n hx hb dX12_hearsFirst_47 rfl (lv_at hl 1 rfl) ?_
      refine hq_getI (o := 0) C hs fX12_hearsFirst_258 tkM_0 (by decide) rfl dX12_hearsFirst_48 (fun g11 => ?_)
      refine lv_aload_n hx hb dX12_hearsFirst_51 rfl (lv_at hl 1 rfl) ?_
      refine hq_getA (o := 0) C hs fX12_hearsFirst_47 tkM_0 (by decide) rfl dX12_hearsFirst_52 ?_
      refine lv_iload_n hx hb dX12_hearsFirst_55 rfl (lv_at hl 0 rfl) ?_
      obtain ⟨g12, hw⟩ := hw
      refine hq_iald (o := 11) C hs tkM_11 rx3 g12 dX12_hearsFirst_56 (fun g13 => ?_)
      refine hq_cS (n := 2) C hs (c_X12_greater l C.2.2.2.2.1 (M7 0 23) g11 (M7 11 x3.toNat) g13 _ _ hw) gX12_hearsFirst_X12_greater rfl ⟨rfl, rfl⟩ (by decide +kernel) ⟨Nat.le_of_ble_eq_true rfl, Nat.le_of_ble_eq_true rfl⟩ rfl hl.1 rfl (Nat.le_of_ble_eq_true rfl) dX12_hearsFirst_57 (hq_ki (fun x14 M9 H locs rx14 hw hs => ?_))
      obtain ⟨e9, hw⟩ := hw; rw [e9] at hs
      refine hq_goto (tgt := 67) C dX12_hearsFirst_60 (by decide) ?_
      refine cb_X12_hearsFirst_67 x14 rx14 C hw hs (lv_sub hl [1] rfl) 
  · have hw := hw.2 h
    refine lv_aload_n hx hb dX12_hearsFirst_17 rfl (lv_at hl 1 rfl) ?_
    refine lv_dup hx hb dX12_hearsFirst_18 rfl ?_
    refine hq_getI (o := 0) C hs fX12_hearsFirst_258 tkM_0 (by decide) rfl dX12_hearsFirst_19 (fun g15 => ?_)
    refine lv_iload_n hx hb dX12_hearsFirst_22 rfl (lv_at hl 0 rfl) ?_
    obtain ⟨g16, hw⟩ := hw
    refine hq_iadd C dX12_hearsFirst_23 ?_
    refine hq_putI (o := 0) C hs fX12_hearsFirst_258 tkM_0 (by decide) rfl g16 dX12_hearsFirst_24 (fun M17 eM17 H locs hs => ?_)
    have hw := hw M17 eM17
    refine hq_goto (tgt := 70) C dX12_hearsFirst_27 (by decide) ?_
    refine cb_X12_hearsFirst_70  C hw hs (lv_sub hl [1] rfl) 
theorem iX12_hears_12 : ∀ w ∈ u_ws RX12 TX12 57, w ∈ wsX12_hears := fun w h => List.mem_cons_of_mem _ (List.mem_append_right _ h)
set_option maxRecDepth 20000 in
theorem fX12_hears_105 : hq_fl vwCl wsX12_hears RX12 105 12 51 true (.array .int) := ⟨RX12, TX12, 57, tyX12, rfl, by decide, iX12_hears_12, by decide +kernel, rfl, tyX12_ok 51 (by decide), tyX12_ok, nmX12⟩
set_option maxRecDepth 20000 in
theorem fX12_hears_114 : hq_fl vwCl wsX12_hears RX12 114 12 55 true (.array .int) := ⟨RX12, TX12, 57, tyX12, rfl, by decide, iX12_hears_12, by decide +kernel, rfl, tyX12_ok 55 (by decide), tyX12_ok, nmX12⟩
set_option maxRecDepth 20000 in
theorem fX12_hears_361 : hq_fl vwCl wsX12_hears RX12 361 12 52 false .int := ⟨RX12, TX12, 57, tyX12, rfl, by decide, iX12_hears_12, by decide +kernel, rfl, tyX12_ok 52 (by decide), tyX12_ok, nmX12⟩
set_option maxRecDepth 20000 in
theorem kX12_hears_382 : Cond.constantLong RX12 382 99 ∈ wsX12_hears := by decide +kernel
set_option maxHeartbeats 4000000 in
set_option maxRecDepth 100000 in
theorem cb_X12_hears_60 {p : Program} {l : Launch} {e : Env} {s : State} {m : MethodId} {args : Array Value} {below : List Frame} {meth : Method} {c : Code} {D : va_G} {cA : Nat → ClassId} {B : Nat} {Z : State → Prop} (v2 : Int) (rv2 : rg v2) (v3 : Int) (rv3 : rg v3) (v4 : Int) (rv4 : rg v4) {k_28 : Int → Int → hq_M → Prop} {k : Int → hq_M → Prop} {M : hq_M} {H : Heap} {locs : List Loc} {ls : Array Slot} (C : hq_C vwCl p m c cX12_hears 5 s args wsX12_hears RX12 meth (some .int) D cA (hq_in B YM.length) Z)
    (hw : b_X12_hears_60 v2 v3 v4 k_28 k M) (hs : hq_S vwCl SLx D cA YM B s.heap M H locs) (hl : lv_has ls 5 [(0, .ref (B + 0)), (2, .int (w3 v2)), (3, .int (w3 v3)), (4, .int (w3 v4))])
    (hk_28 : ∀ (y2 : Int) (ry2 : rg y2) (y4 : Int) (ry4 : rg y4) (M1 : hq_M) (H : Heap) (locs : List Loc) (ls : Array Slot), k_28 y2 y4 M1 → hq_S vwCl SLx D cA YM B s.heap M1 H locs → lv_has ls 5 [(0, .ref (B + 0)), (2, .int (w3 y2)), (3, .int (w3 v3)), (4, .int (w3 y4))] → W p l e ({ frames := 2, cells := 0, slots := 0, locals := 43 } : Room) s m args below meth c H locs 0 0 (MQ below (hq_Q vwCl SLx D cA YM B (hq_qi k)) args s 0 0 (hq_in B YM.length)) (F0 m 28 ls [])) : W p l e ({ frames := 2, cells := 0, slots := 0, locals := 43 } : Room) s m args below meth c H locs 0 0 (MQ below (hq_Q vwCl SLx D cA YM B (hq_qi k)) args s 0 0 (hq_in B YM.length)) (F0 m 60 ls []) := by
  have hx := C.1.1
  have hb := C.1.2.1
  unfold b_X12_hears_60 at hw
  obtain ⟨g2, hw⟩ := hw
  refine hq_iinc (k := 3) C dX12_hears_60 hl rfl (by decide) (fun x1 ex1 ls hl => ?_)
  have hw := hw x1 ex1
  have rx1 : rg x1 := by rw [ex1]; exact g2
  have hl : lv_has ls 5 [(4, .int (w3 x1)), (0, .ref (B + 0)), (2, .int (w3 v2)), (3, .int (w3 v3))] := hl
  refine hq_goto (tgt := 28) C dX12_hears_63 (by decide) ?_
  exact hk_28 v2 rv2 x1 rx1 _ _ _ _ hw hs (lv_sub hl [1, 2, 3, 0] rfl)
set_option maxHeartbeats 4000000 in
set_option maxRecDepth 100000 in
theorem cl_X12_hears_28 {p : Program} {l : Launch} {e : Env} {s : State} {m : MethodId} {args : Array Value} {below : List Frame} {meth : Method} {c : Code} {D : va_G} {cA : Nat → ClassId} {B : Nat} {Z : State → Prop} (v3 : Int) (rv3 : rg v3) {k_66 : Int → hq_M → Prop} {k : Int → hq_M → Prop} (C : hq_C vwCl p m c cX12_hears 5 s args wsX12_hears RX12 meth (some .int) D cA (hq_in B YM.length) Z)
    (hk_66 : ∀ (y2 : Int) (ry2 : rg y2) (M1 : hq_M) (H : Heap) (locs : List Loc) (ls : Array Slot), k_66 y2 M1 → hq_S vwCl SLx D cA YM B s.heap M1 H locs → lv_has ls 5 [(0, .ref (B + 0)), (2, .int (w3 y2)), (3, .int (w3 v3))] → W p l e ({ frames := 2, cells := 0, slots := 0, locals := 43 } : Room) s m args below meth c H locs 0 0 (MQ below (hq_Q vwCl SLx D cA YM B (hq_qi k)) args s 0 0 (hq_in B YM.length)) (F0 m 66 ls [])) : ∀ (n : Nat) (v2 : Int) (rv2 : rg v2) (v4 : Int) (rv4 : rg v4) (M : hq_M) (H : Heap) (locs : List Loc) (ls : Array Slot), l_X12_hears_28 v3 k_66 k n v2 v4 M → hq_S vwCl SLx D cA YM B s.heap M H locs → lv_has ls 5 [(0, .ref (B + 0)), (2, .int (w3 v2)), (3, .int (w3 v3)), (4, .int (w3 v4))] → W p l e ({ frames := 2, cells := 0, slots := 0, locals := 43 } : Room) s m args below meth c H locs 0 0 (MQ below (hq_Q vwCl SLx D cA YM B (hq_qi k)) args s 0 0 (hq_in B YM.length)) (F0 m 28 ls []) := by
  have hx := C.1.1
  have hb := C.1.2.1
  intro n
  induction n with
  | zero => intro v2 rv2 v4 rv4 M H locs ls hw hs hl; exact hw.elim
  | succ n ih =>
    intro v2 rv2 v4 rv4 M H locs ls hw hs hl
    unfold l_X12_hears_28 at hw
    refine lv_iload hx hb dX12_hears_28 (lv_at hl 3 rfl) ?_
    refine lv_iload_n hx hb dX12_hears_30 rfl (lv_at hl 2 rfl) ?_
    refine hq_icmp_ge (tgt := 66) C rv4 rv3 dX12_hears_31 (by decide) (fun h => ?_) (fun h => ?_)
    · have hw := hw.1 h
      exact hk_66 v2 rv2 _ _ _ _ hw hs (lv_sub hl [0, 1, 2] rfl)
    · have hw := hw.2 h
      refine lv_aload_n hx hb dX12_hears_34 rfl (lv_at hl 0 rfl) ?_
      refine hq_getA (o := 0) C hs fX12_hears_114 tkM_0 (by decide) rfl dX12_hears_35 ?_
      refine hq_iconst C dX12_hears_38 ?_
      refine lv_dup2_11 hx hb dX12_hears_39 rfl rfl ?_
      obtain ⟨g1, hw⟩ := hw
      refine hq_iald (o := 33) C hs tkM_33 (by decide : rg 0) g1 dX12_hears_40 (fun g2 => ?_)
      refine hq_iconst C dX12_hears_41 ?_
      obtain ⟨g3, hw⟩ := hw
      refine hq_isub C dX12_hears_42 ?_
      obtain ⟨g4, hw⟩ := hw
      refine hq_iast (o := 33) C hs tkM_33 (by decide : rg 0) g4 g3 dX12_hears_43 (fun M5 eM5 H locs hs => ?_)
      have hw := hw M5 eM5
      refine lv_aload_n hx hb dX12_hears_44 rfl (lv_at hl 0 rfl) ?_
      refine hq_getA (o := 0) C hs fX12_hears_114 tkM_0 (by decide) rfl dX12_hears_45 ?_
      refine hq_iconst C dX12_hears_48 ?_
      obtain ⟨g6, hw⟩ := hw
      refine hq_iald (o := 33) C hs tkM_33 (by decide : rg 0) g6 dX12_hears_49 (fun g7 => ?_)
      refine hq_if_ne (tgt := 60) C g7 dX12_hears_50 (by decide) (fun h => ?_) (fun h => ?_)
      · have hw := hw.1 h
        refine cb_X12_hears_60 v2 rv2 v3 rv3 v4 rv4 C hw hs (lv_sub hl [0, 1, 2, 3] rfl) ?_
        · intro y2 ry2 y4 ry4 M H locs ls hw hs hl
          exact ih y2 ry2 y4 ry4 _ _ _ _ hw hs (lv_sub hl [0, 1, 2, 3] rfl)
      · have hw := hw.2 h
        refine lv_aload_n hx hb dX12_hears_53 rfl (lv_at hl 0 rfl) ?_
        refine hq_cV (n := 0) (ci := 12) (o := 0) (qc := (TX12, 57)) C hs (c_X12_hearsFirst l C.2.2.2.2.1 _ _ hw) gX12_hears_X12_hearsFirst rfl ⟨rfl, rfl⟩ (by decide +kernel) ⟨Nat.le_of_ble_eq_true rfl, Nat.le_of_ble_eq_true rfl⟩ tkM_0 (by decide) rfl rfl hl.1 rfl (Nat.le_of_ble_eq_true rfl) dX12_hears_54 (hq_kv (fun M8 H locs hw hs => ?_))
        obtain ⟨g10, hw⟩ := hw
        refine hq_iinc (k := 1) C dX12_hears_57 hl rfl (by decide) (fun x9 ex9 ls hl => ?_)
        have hw := hw x9 ex9
        have rx9 : rg x9 := by rw [ex9]; exact g10
        have hl : lv_has ls 5 [(2, .int (w3 x9)), (0, .ref (B + 0)), (3, .int (w3 v3)), (4, .int (w3 v4))] := hl
        refine cb_X12_hears_60 x9 rx9 v3 rv3 v4 rv4 C hw hs (lv_sub hl [1, 0, 2, 3] rfl) ?_
        · intro y2 ry2 y4 ry4 M H locs ls hw hs hl
          exact ih y2 ry2 y4 ry4 _ _ _ _ hw hs (lv_sub hl [0, 1, 2, 3] rfl)
set_option maxHeartbeats 4000000 in
set_option maxRecDepth 100000 in
theorem cl_X12_hears_79 {p : Program} {l : Launch} {e : Env} {s : State} {m : MethodId} {args : Array Value} {below : List Frame} {meth : Method} {c : Code} {D : va_G} {cA : Nat → ClassId} {B : Nat} {Z : State → Prop} (v2 : Int) (rv2 : rg v2) (v3 : Int) (rv3 : rg v3)  {k : Int → hq_M → Prop} (C : hq_C vwCl p m c cX12_hears 5 s args wsX12_hears RX12 meth (some .int) D cA (hq_in B YM.length) Z)
     : ∀ (n : Nat) (v4 : Int) (rv4 : rg v4) (M : hq_M) (H : Heap) (locs : List Loc) (ls : Array Slot), l_X12_hears_79 v2 v3 k n v4 M → hq_S vwCl SLx D cA YM B s.heap M H locs → lv_has ls 5 [(0, .ref (B + 0)), (2, .int (w3 v2)), (3, .int (w3 v3)), (4, .int (w3 v4))] → W p l e ({ frames := 2, cells := 0, slots := 0, locals := 43 } : Room) s m args below meth c H locs 0 0 (MQ below (hq_Q vwCl SLx D cA YM B (hq_qi k)) args s 0 0 (hq_in B YM.length)) (F0 m 79 ls []) := by
  have hx := C.1.1
  have hb := C.1.2.1
  intro n
  induction n with
  | zero => intro v4 rv4 M H locs ls hw hs hl; exact hw.elim
  | succ n ih =>
    intro v4 rv4 M H locs ls hw hs hl
    unfold l_X12_hears_79 at hw
    refine lv_iload hx hb dX12_hears_79 (lv_at hl 3 rfl) ?_
    refine lv_aload_n hx hb dX12_hears_81 rfl (lv_at hl 0 rfl) ?_
    refine hq_getI (o := 0) C hs fX12_hears_361 tkM_0 (by decide) rfl dX12_hears_82 (fun g1 => ?_)
    refine hq_icmp_ge (tgt := 110) C rv4 g1 dX12_hears_85 (by decide) (fun h => ?_) (fun h => ?_)
    · have hw := hw.1 h
      refine lv_iload_n hx hb dX12_hears_110 rfl (lv_at hl 1 rfl) ?_
      exact hq_iret C hs rv2 hw dX12_hears_111
    · have hw := hw.2 h
      refine lv_aload_n hx hb dX12_hears_88 rfl (lv_at hl 0 rfl) ?_
      refine hq_getA (o := 0) C hs fX12_hears_105 tkM_0 (by decide) rfl dX12_hears_89 ?_
      refine lv_iload hx hb dX12_hears_92 (lv_at hl 3 rfl) ?_
      refine lv_aload_n hx hb dX12_hears_94 rfl (lv_at hl 0 rfl) ?_
      refine hq_getA (o := 0) C hs fX12_hears_105 tkM_0 (by decide) rfl dX12_hears_95 ?_
      refine lv_iload hx hb dX12_hears_98 (lv_at hl 3 rfl) ?_
      refine lv_iload_n hx hb dX12_hears_100 rfl (lv_at hl 2 rfl) ?_
      obtain ⟨g2, hw⟩ := hw
      refine hq_iadd C dX12_hears_101 ?_
      obtain ⟨g3, hw⟩ := hw
      refine hq_iald (o := 30) C hs tkM_30 g2 g3 dX12_hears_102 (fun g4 => ?_)
      obtain ⟨g5, hw⟩ := hw
      refine hq_iast (o := 30) C hs tkM_30 rv4 g5 g4 dX12_hears_103 (fun M6 eM6 H locs hs => ?_)
      have hw := hw M6 eM6
      obtain ⟨g8, hw⟩ := hw
      refine hq_iinc (k := 3) C dX12_hears_104 hl rfl (by decide) (fun x7 ex7 ls hl => ?_)
      have hw := hw x7 ex7
      have rx7 : rg x7 := by rw [ex7]; exact g8
      have hl : lv_has ls 5 [(4, .int (w3 x7)), (0, .ref (B + 0)), (2, .int (w3 v2)), (3, .int (w3 v3))] := hl
      refine hq_goto (tgt := 79) C dX12_hears_107 (by decide) ?_
      exact ih x7 rx7 _ _ _ _ hw hs (lv_sub hl [1, 2, 3, 0] rfl)
set_option maxHeartbeats 4000000 in
set_option maxRecDepth 100000 in
theorem c_X12_hears (l : Launch) {D : va_G} {cA : Nat → ClassId} {B : Nat} {Z : State → Prop} (hZ : hq_Zo Z (hq_in B YM.length)) (v1 : Int) (rv1 : rg v1) (M : hq_M) (k : Int → hq_M → Prop) (hw : w_X12_hears v1 M k) : hq_T vwCl SLx l yX12_hears wsX12_hears ({ frames := 2, cells := 0, slots := 0, locals := 43 } : Room) D cA YM B Z [.ref (B + 0), .int (w3 v1)] M (hq_qi k) := by
  refine hq_meth (cc := cX12_hears) (maxL := 5) (ret := (some .int)) (own := RX12) hZ rfl (by decide +kernel) rfl (Nat.le_of_ble_eq_true rfl) ?_
  intro p e s m below meth c ls C hs hl
  have hx := C.1.1
  have hb := C.1.2.1
  unfold w_X12_hears at hw
  have hl : lv_has ls 5 [(0, .ref (B + 0)), (1, .int (w3 v1))] := hl
  refine lv_iload_n hx hb dX12_hears_0 rfl (lv_at hl 1 rfl) ?_
  refine hq_i2l (y := 0) C rv1 dX12_hears_1 ?_
  refine hq_lconst (z := 1) C dX12_hears_2 rfl ?_
  refine hq_ldc2 (z := 99) C kX12_hears_382 (by decide) dX12_hears_3 ?_
  refine hq_cS (n := 3) C hs (c_X12_in l C.2.2.2.2.1 v1 (rg_rl rv1) 1 (by decide : rl 1) 99 (by decide : rl 99) _ _ hw) gX12_hears_X12_in rfl ⟨rfl, rfl⟩ (by decide +kernel) ⟨Nat.le_of_ble_eq_true rfl, Nat.le_of_ble_eq_true rfl⟩ rfl hl.1 rfl (Nat.le_of_ble_eq_true rfl) dX12_hears_6 (hq_kz (fun x1 M9 H locs rx1 hw hs => ?_))
  obtain ⟨e9, hw⟩ := hw; rw [e9] at hs
  refine hq_if_ne (tgt := 14) C (rb_rg rx1) dX12_hears_9 (by decide) (fun h => ?_) (fun h => ?_)
  · have hw := hw.1 h
    refine hq_iconst C dX12_hears_14 ?_
    refine lv_istore_n (lv' := [(2, .int (w3 0)), (0, .ref (B + 0)), (1, .int (w3 v1))]) hx hb dX12_hears_15 rfl hl (by decide) rfl (fun ls hl => ?_)
    refine lv_iload_n hx hb dX12_hears_16 rfl (lv_at hl 2 rfl) ?_
    refine lv_aload_n hx hb dX12_hears_17 rfl (lv_at hl 1 rfl) ?_
    refine hq_getI (o := 0) C hs fX12_hears_361 tkM_0 (by decide) rfl dX12_hears_18 (fun g2 => ?_)
    refine hq_cS (n := 2) C hs (c_X12_lesser l C.2.2.2.2.1 v1 rv1 (M 0 52) g2 _ _ hw) gX12_hears_X12_lesser rfl ⟨rfl, rfl⟩ (by decide +kernel) ⟨Nat.le_of_ble_eq_true rfl, Nat.le_of_ble_eq_true rfl⟩ rfl hl.1 rfl (Nat.le_of_ble_eq_true rfl) dX12_hears_21 (hq_ki (fun x3 M9 H locs rx3 hw hs => ?_))
    obtain ⟨e9, hw⟩ := hw; rw [e9] at hs
    refine lv_istore_n (lv' := [(3, .int (w3 x3)), (2, .int (w3 0)), (0, .ref (B + 0)), (1, .int (w3 v1))]) hx hb dX12_hears_24 rfl hl (by decide) rfl (fun ls hl => ?_)
    refine hq_iconst C dX12_hears_25 ?_
    refine lv_istore (lv' := [(4, .int (w3 0)), (3, .int (w3 x3)), (2, .int (w3 0)), (0, .ref (B + 0)), (1, .int (w3 v1))]) hx hb dX12_hears_26 hl (by decide) rfl (fun ls hl => ?_)
    obtain ⟨n9, hw⟩ := hw
    refine cl_X12_hears_28 x3 rx3 C ?_ n9 0 (by decide : rg 0) 0 (by decide : rg 0) _ _ _ _ hw hs (lv_sub hl [3, 2, 1, 0] rfl)
    · intro x5 rx5 M4 H locs ls hw hs hl
      refine lv_aload_n hx hb dX12_hears_66 rfl (lv_at hl 0 rfl) ?_
      refine lv_dup hx hb dX12_hears_67 rfl ?_
      refine hq_getI (o := 0) C hs fX12_hears_361 tkM_0 (by decide) rfl dX12_hears_68 (fun g6 => ?_)
      refine lv_iload_n hx hb dX12_hears_71 rfl (lv_at hl 2 rfl) ?_
      obtain ⟨g7, hw⟩ := hw
      refine hq_isub C dX12_hears_72 ?_
      refine hq_putI (o := 0) C hs fX12_hears_361 tkM_0 (by decide) rfl g7 dX12_hears_73 (fun M8 eM8 H locs hs => ?_)
      have hw := hw M8 eM8
      refine hq_iconst C dX12_hears_76 ?_
      refine lv_istore (lv' := [(4, .int (w3 0)), (0, .ref (B + 0)), (2, .int (w3 x5)), (3, .int (w3 x3))]) hx hb dX12_hears_77 hl (by decide) rfl (fun ls hl => ?_)
      obtain ⟨n9, hw⟩ := hw
      refine cl_X12_hears_79 x5 rx5 x3 rx3 C  n9 0 (by decide : rg 0) _ _ _ _ hw hs (lv_sub hl [1, 2, 3, 0] rfl)
  · have hw := hw.2 h
    refine hq_iconst C dX12_hears_12 ?_
    exact hq_iret C hs (by decide : rg (-1)) hw dX12_hears_13
theorem iX12_table_12 : ∀ w ∈ u_ws RX12 TX12 57, w ∈ wsX12_table := fun w h => List.mem_cons_of_mem _ (List.mem_append_right _ h)
set_option maxRecDepth 20000 in
theorem fX12_table_32 : hq_fl vwCl wsX12_table RX12 32 12 18 true (.array .int) := ⟨RX12, TX12, 57, tyX12, rfl, by decide, iX12_table_12, by decide +kernel, rfl, tyX12_ok 18 (by decide), tyX12_ok, nmX12⟩
set_option maxRecDepth 20000 in
theorem fX12_table_35 : hq_fl vwCl wsX12_table RX12 35 12 19 true (.array .int) := ⟨RX12, TX12, 57, tyX12, rfl, by decide, iX12_table_12, by decide +kernel, rfl, tyX12_ok 19 (by decide), tyX12_ok, nmX12⟩
set_option maxRecDepth 20000 in
theorem fX12_table_38 : hq_fl vwCl wsX12_table RX12 38 12 20 true (.array .int) := ⟨RX12, TX12, 57, tyX12, rfl, by decide, iX12_table_12, by decide +kernel, rfl, tyX12_ok 20 (by decide), tyX12_ok, nmX12⟩
set_option maxRecDepth 20000 in
theorem fX12_table_41 : hq_fl vwCl wsX12_table RX12 41 12 21 true (.array .int) := ⟨RX12, TX12, 57, tyX12, rfl, by decide, iX12_table_12, by decide +kernel, rfl, tyX12_ok 21 (by decide), tyX12_ok, nmX12⟩
set_option maxHeartbeats 4000000 in
set_option maxRecDepth 100000 in
theorem c_X12_table (l : Launch) {D : va_G} {cA : Nat → ClassId} {B : Nat} {Z : State → Prop} (hZ : hq_Zo Z (hq_in B YM.length)) (v1 : Int) (rv1 : rg v1) (v2 : Int) (rv2 : rg v2) (M : hq_M) (k : Int → Prop) (hw : w_X12_table v1 v2 M k) : hq_T vwCl SLx l yX12_table wsX12_table ({ frames := 1, cells := 0, slots := 0, locals := 25 } : Room) D cA YM B Z [.ref (B + 0), .int (w3 v1), .int (w3 v2)] M (hq_qi (fun z M' => M' = M ∧ k z)) := by
  refine hq_meth (cc := cX12_table) (maxL := 3) (ret := (some .int)) (own := RX12) hZ rfl (by decide +kernel) rfl (Nat.le_of_ble_eq_true rfl) ?_
  intro p e s m below meth c ls C hs hl
  have hx := C.1.1
  have hb := C.1.2.1
  unfold w_X12_table at hw
  have hl : lv_has ls 3 [(0, .ref (B + 0)), (1, .int (w3 v1)), (2, .int (w3 v2))] := hl
  refine lv_iload_n hx hb dX12_table_0 rfl (lv_at hl 1 rfl) ?_
  refine hq_i2l (y := 0) C rv1 dX12_table_1 ?_
  refine hq_lconst (z := 0) C dX12_table_2 rfl ?_
  refine hq_lconst (z := 1) C dX12_table_3 rfl ?_
  refine hq_cS (n := 3) C hs (c_X12_in l C.2.2.2.2.1 v1 (rg_rl rv1) 0 (by decide : rl 0) 1 (by decide : rl 1) _ _ hw) gX12_table_X12_in rfl ⟨rfl, rfl⟩ (by decide +kernel) ⟨Nat.le_of_ble_eq_true rfl, Nat.le_of_ble_eq_true rfl⟩ rfl hl.1 rfl (Nat.le_of_ble_eq_true rfl) dX12_table_4 (hq_kz (fun x1 M9 H locs rx1 hw hs => ?_))
  obtain ⟨e9, hw⟩ := hw; rw [e9] at hs
  refine hq_if_ne (tgt := 12) C (rb_rg rx1) dX12_table_7 (by decide) (fun h => ?_) (fun h => ?_)
  · have hw := hw.1 h
    refine lv_iload_n hx hb dX12_table_12 rfl (lv_at hl 2 rfl) ?_
    rcases Decidable.em (v2 = 0) with h | h0
    · obtain ⟨hw, -⟩ := hw
      have hw := hw h
      refine hq_tabIn (tgt := 48) 0 (by decide) C h dX12_table_13 (by decide) (by decide) rfl (by decide) ?_
      refine lv_aload_n hx hb dX12_table_48 rfl (lv_at hl 0 rfl) ?_
      refine hq_getA (o := 0) C hs fX12_table_32 tkM_0 (by decide) rfl dX12_table_49 ?_
      refine lv_iload_n hx hb dX12_table_52 rfl (lv_at hl 1 rfl) ?_
      obtain ⟨g2, hw⟩ := hw
      refine hq_iald (o := 6) C hs tkM_6 rv1 g2 dX12_table_53 (fun g3 => ?_)
      exact hq_iret C hs g3 ⟨rfl, hw⟩ dX12_table_54
    obtain ⟨-, hw⟩ := hw
    rcases Decidable.em (v2 = 1) with h | h1
    · obtain ⟨hw, -⟩ := hw
      have hw := hw h
      refine hq_tabIn (tgt := 55) 1 (by decide) C h dX12_table_13 (by decide) (by decide) rfl (by decide) ?_
      refine lv_aload_n hx hb dX12_table_55 rfl (lv_at hl 0 rfl) ?_
      refine hq_getA (o := 0) C hs fX12_table_32 tkM_0 (by decide) rfl dX12_table_56 ?_
      refine lv_iload_n hx hb dX12_table_59 rfl (lv_at hl 1 rfl) ?_
      obtain ⟨g4, hw⟩ := hw
      refine hq_iald (o := 6) C hs tkM_6 rv1 g4 dX12_table_60 (fun g5 => ?_)
      refine lv_aload_n hx hb dX12_table_61 rfl (lv_at hl 0 rfl) ?_
      refine hq_getA (o := 0) C hs fX12_table_35 tkM_0 (by decide) rfl dX12_table_62 ?_
      refine lv_iload_n hx hb dX12_table_65 rfl (lv_at hl 1 rfl) ?_
      obtain ⟨g6, hw⟩ := hw
      refine hq_iald (o := 7) C hs tkM_7 rv1 g6 dX12_table_66 (fun g7 => ?_)
      obtain ⟨g8, hw⟩ := hw
      refine hq_isub C dX12_table_67 ?_
      exact hq_iret C hs g8 ⟨rfl, hw⟩ dX12_table_68
    obtain ⟨-, hw⟩ := hw
    rcases Decidable.em (v2 = 2) with h | h2
    · obtain ⟨hw, -⟩ := hw
      have hw := hw h
      refine hq_tabIn (tgt := 69) 2 (by decide) C h dX12_table_13 (by decide) (by decide) rfl (by decide) ?_
      refine lv_aload_n hx hb dX12_table_69 rfl (lv_at hl 0 rfl) ?_
      refine hq_getA (o := 0) C hs fX12_table_41 tkM_0 (by decide) rfl dX12_table_70 ?_
      refine lv_iload_n hx hb dX12_table_73 rfl (lv_at hl 1 rfl) ?_
      obtain ⟨g9, hw⟩ := hw
      refine hq_iald (o := 9) C hs tkM_9 rv1 g9 dX12_table_74 (fun g10 => ?_)
      exact hq_iret C hs g10 ⟨rfl, hw⟩ dX12_table_75
    obtain ⟨-, hw⟩ := hw
    rcases Decidable.em (v2 = 3) with h | h3
    · obtain ⟨hw, -⟩ := hw
      have hw := hw h
      refine hq_tabIn (tgt := 76) 3 (by decide) C h dX12_table_13 (by decide) (by decide) rfl (by decide) ?_
      refine lv_aload_n hx hb dX12_table_76 rfl (lv_at hl 0 rfl) ?_
      refine hq_getA (o := 0) C hs fX12_table_38 tkM_0 (by decide) rfl dX12_table_77 ?_
      refine lv_iload_n hx hb dX12_table_80 rfl (lv_at hl 1 rfl) ?_
      obtain ⟨g11, hw⟩ := hw
      refine hq_iald (o := 8) C hs tkM_8 rv1 g11 dX12_table_81 (fun g12 => ?_)
      exact hq_iret C hs g12 ⟨rfl, hw⟩ dX12_table_82
    obtain ⟨-, hw⟩ := hw
    rcases Decidable.em (v2 = 4) with h | h4
    · obtain ⟨hw, -⟩ := hw
      have hw := hw h
      refine hq_tabIn (tgt := 83) 4 (by decide) C h dX12_table_13 (by decide) (by decide) rfl (by decide) ?_
      refine lv_aload_n hx hb dX12_table_83 rfl (lv_at hl 0 rfl) ?_
      refine hq_getA (o := 0) C hs fX12_table_35 tkM_0 (by decide) rfl dX12_table_84 ?_
      refine lv_iload_n hx hb dX12_table_87 rfl (lv_at hl 1 rfl) ?_
      obtain ⟨g13, hw⟩ := hw
      refine hq_iald (o := 7) C hs tkM_7 rv1 g13 dX12_table_88 (fun g14 => ?_)
      refine lv_aload_n hx hb dX12_table_89 rfl (lv_at hl 0 rfl) ?_
      refine hq_getA (o := 0) C hs fX12_table_32 tkM_0 (by decide) rfl dX12_table_90 ?_
      refine lv_iload_n hx hb dX12_table_93 rfl (lv_at hl 1 rfl) ?_
      obtain ⟨g15, hw⟩ := hw
      refine hq_iald (o := 6) C hs tkM_6 rv1 g15 dX12_table_94 (fun g16 => ?_)
      refine hq_icmp_ge (tgt := 107) C g14 g16 dX12_table_95 (by decide) (fun h => ?_) (fun h => ?_)
      · have hw := hw.1 h
        refine hq_bipush C dX12_table_107 (by decide) ?_
        exact hq_iret C hs (by decide : rg (-9)) ⟨rfl, hw⟩ dX12_table_109
      · have hw := hw.2 h
        refine lv_aload_n hx hb dX12_table_98 rfl (lv_at hl 0 rfl) ?_
        refine hq_getA (o := 0) C hs fX12_table_35 tkM_0 (by decide) rfl dX12_table_99 ?_
        refine lv_iload_n hx hb dX12_table_102 rfl (lv_at hl 1 rfl) ?_
        obtain ⟨g17, hw⟩ := hw
        refine hq_iald (o := 7) C hs tkM_7 rv1 g17 dX12_table_103 (fun g18 => ?_)
        refine hq_goto (tgt := 109) C dX12_table_104 (by decide) ?_
        exact hq_iret C hs g18 ⟨rfl, hw⟩ dX12_table_109
    obtain ⟨-, hw⟩ := hw
    have hd9 : v2 < 0 ∨ 4 < v2 := by omega
    have hw := hw hd9
    refine hq_tabOut (tgt := 110) C rv2 dX12_table_13 hd9 (by decide) ?_
    refine hq_iconst C dX12_table_110 ?_
    exact hq_iret C hs (by decide : rg (-1)) ⟨rfl, hw⟩ dX12_table_111
  · have hw := hw.2 h
    refine hq_iconst C dX12_table_10 ?_
    exact hq_iret C hs (by decide : rg (-1)) ⟨rfl, hw⟩ dX12_table_11
set_option maxHeartbeats 4000000 in
set_option maxRecDepth 100000 in
theorem c_X12_entry (l : Launch) {D : va_G} {cA : Nat → ClassId} {B : Nat} {Z : State → Prop} (hZ : hq_Zo Z (hq_in B YM.length)) (v1 : Int) (rv1 : rg v1) (v2 : Int) (rv2 : rg v2) (v3 : Int) (rv3 : rg v3) (M : hq_M) (k : Int → Prop) (hw : w_X12_entry v1 v2 v3 M k) : hq_T vwCl SLx l yX12_entry wsX12_entry ({ frames := 2, cells := 0, slots := 0, locals := 47 } : Room) D cA YM B Z [.ref (B + 0), .int (w3 v1), .int (w3 v2), .int (w3 v3)] M (hq_qi (fun z M' => M' = M ∧ k z)) := by
  refine hq_meth (cc := cX12_entry) (maxL := 4) (ret := (some .int)) (own := RX12) hZ rfl (by decide +kernel) rfl (Nat.le_of_ble_eq_true rfl) ?_
  intro p e s m below meth c ls C hs hl
  have hx := C.1.1
  have hb := C.1.2.1
  unfold w_X12_entry at hw
  have hl : lv_has ls 4 [(0, .ref (B + 0)), (1, .int (w3 v1)), (2, .int (w3 v2)), (3, .int (w3 v3))] := hl
  refine lv_iload_n hx hb dX12_entry_0 rfl (lv_at hl 1 rfl) ?_
  refine hq_i2l (y := 0) C rv1 dX12_entry_1 ?_
  refine hq_lconst (z := 0) C dX12_entry_2 rfl ?_
  refine hq_lconst (z := 1) C dX12_entry_3 rfl ?_
  refine hq_cS (n := 3) C hs (c_X12_in l C.2.2.2.2.1 v1 (rg_rl rv1) 0 (by decide : rl 0) 1 (by decide : rl 1) _ _ hw) gX12_entry_X12_in rfl ⟨rfl, rfl⟩ (by decide +kernel) ⟨Nat.le_of_ble_eq_true rfl, Nat.le_of_ble_eq_true rfl⟩ rfl hl.1 rfl (Nat.le_of_ble_eq_true rfl) dX12_entry_4 (hq_kz (fun x1 M9 H locs rx1 hw hs => ?_))
  obtain ⟨e9, hw⟩ := hw; rw [e9] at hs
  refine hq_if_eq (tgt := 24) C (rb_rg rx1) dX12_entry_7 (by decide) (fun h => ?_) (fun h => ?_)
  · have hw := hw.1 h
    refine hq_iconst C dX12_entry_24 ?_
    exact hq_iret C hs (by decide : rg (-1)) ⟨rfl, hw⟩ dX12_entry_25
  · have hw := hw.2 h
    refine lv_iload_n hx hb dX12_entry_10 rfl (lv_at hl 2 rfl) ?_
    refine hq_if_lt (tgt := 24) C rv2 dX12_entry_11 (by decide) (fun h => ?_) (fun h => ?_)
    · have hw := hw.1 h
      refine hq_iconst C dX12_entry_24 ?_
      exact hq_iret C hs (by decide : rg (-1)) ⟨rfl, hw⟩ dX12_entry_25
    · have hw := hw.2 h
      refine lv_iload_n hx hb dX12_entry_14 rfl (lv_at hl 3 rfl) ?_
      refine hq_i2l (y := 0) C rv3 dX12_entry_15 ?_
      refine hq_lconst (z := 0) C dX12_entry_16 rfl ?_
      refine hq_lconst (z := 1) C dX12_entry_17 rfl ?_
      refine hq_cS (n := 3) C hs (c_X12_in l C.2.2.2.2.1 v3 (rg_rl rv3) 0 (by decide : rl 0) 1 (by decide : rl 1) _ _ hw) gX12_entry_X12_in rfl ⟨rfl, rfl⟩ (by decide +kernel) ⟨Nat.le_of_ble_eq_true rfl, Nat.le_of_ble_eq_true rfl⟩ rfl hl.1 rfl (Nat.le_of_ble_eq_true rfl) dX12_entry_18 (hq_kz (fun x2 M9 H locs rx2 hw hs => ?_))
      obtain ⟨e9, hw⟩ := hw; rw [e9] at hs
      refine hq_if_ne (tgt := 26) C (rb_rg rx2) dX12_entry_21 (by decide) (fun h => ?_) (fun h => ?_)
      · have hw := hw.1 h
        refine lv_aload_n hx hb dX12_entry_26 rfl (lv_at hl 0 rfl) ?_
        refine lv_iload_n hx hb dX12_entry_27 rfl (lv_at hl 1 rfl) ?_
        refine lv_iload_n hx hb dX12_entry_28 rfl (lv_at hl 2 rfl) ?_
        refine hq_cV (n := 2) (ci := 12) (o := 0) (qc := (TX12, 57)) C hs (c_X12_isThere l C.2.2.2.2.1 v1 rv1 v2 rv2 _ _ hw) gX12_entry_X12_isThere rfl ⟨rfl, rfl⟩ (by decide +kernel) ⟨Nat.le_of_ble_eq_true rfl, Nat.le_of_ble_eq_true rfl⟩ tkM_0 (by decide) rfl rfl hl.1 rfl (Nat.le_of_ble_eq_true rfl) dX12_entry_29 (hq_kz (fun x3 M9 H locs rx3 hw hs => ?_))
        obtain ⟨e9, hw⟩ := hw; rw [e9] at hs
        refine hq_if_ne (tgt := 38) C (rb_rg rx3) dX12_entry_32 (by decide) (fun h => ?_) (fun h => ?_)
        · have hw := hw.1 h
          refine lv_iload_n hx hb dX12_entry_38 rfl (lv_at hl 3 rfl) ?_
          refine hq_if_ne (tgt := 55) C rv3 dX12_entry_39 (by decide) (fun h => ?_) (fun h => ?_)
          · have hw := hw.1 h
            refine lv_aload_n hx hb dX12_entry_55 rfl (lv_at hl 0 rfl) ?_
            refine lv_iload_n hx hb dX12_entry_56 rfl (lv_at hl 1 rfl) ?_
            refine lv_iload_n hx hb dX12_entry_57 rfl (lv_at hl 2 rfl) ?_
            refine hq_cV (n := 2) (ci := 12) (o := 0) (qc := (TX12, 57)) C hs (c_X12_fieldAt l C.2.2.2.2.1 v1 rv1 v2 rv2 _ _ hw) gX12_entry_X12_fieldAt rfl ⟨rfl, rfl⟩ (by decide +kernel) ⟨Nat.le_of_ble_eq_true rfl, Nat.le_of_ble_eq_true rfl⟩ tkM_0 (by decide) rfl rfl hl.1 rfl (Nat.le_of_ble_eq_true rfl) dX12_entry_58 (hq_ki (fun x4 M9 H locs rx4 hw hs => ?_))
            obtain ⟨e9, hw⟩ := hw; rw [e9] at hs
            exact hq_iret C hs rx4 ⟨rfl, hw⟩ dX12_entry_61
          · have hw := hw.2 h
            refine lv_aload_n hx hb dX12_entry_42 rfl (lv_at hl 0 rfl) ?_
            refine lv_aload_n hx hb dX12_entry_43 rfl (lv_at hl 0 rfl) ?_
            refine lv_iload_n hx hb dX12_entry_44 rfl (lv_at hl 1 rfl) ?_
            refine lv_iload_n hx hb dX12_entry_45 rfl (lv_at hl 2 rfl) ?_
            refine hq_cV (n := 2) (ci := 12) (o := 0) (qc := (TX12, 57)) C hs (c_X12_fieldAt l C.2.2.2.2.1 v1 rv1 v2 rv2 _ _ hw) gX12_entry_X12_fieldAt rfl ⟨rfl, rfl⟩ (by decide +kernel) ⟨Nat.le_of_ble_eq_true rfl, Nat.le_of_ble_eq_true rfl⟩ tkM_0 (by decide) rfl rfl hl.1 rfl (Nat.le_of_ble_eq_true rfl) dX12_entry_46 (hq_ki (fun x5 M9 H locs rx5 hw hs => ?_))
            obtain ⟨e9, hw⟩ := hw; rw [e9] at hs
            refine hq_cV (n := 1) (ci := 12) (o := 0) (qc := (TX12, 57)) C hs (c_X12_sizeOf l C.2.2.2.2.1 x5 rx5 _ _ hw) gX12_entry_X12_sizeOf rfl ⟨rfl, rfl⟩ (by decide +kernel) ⟨Nat.le_of_ble_eq_true rfl, Nat.le_of_ble_eq_true rfl⟩ tkM_0 (by decide) rfl rfl hl.1 rfl (Nat.le_of_ble_eq_true rfl) dX12_entry_49 (hq_ki (fun x6 M9 H locs rx6 hw hs => ?_))
            obtain ⟨e9, hw⟩ := hw; rw [e9] at hs
            refine hq_goto (tgt := 61) C dX12_entry_52 (by decide) ?_
            exact hq_iret C hs rx6 ⟨rfl, hw⟩ dX12_entry_61
        · have hw := hw.2 h
          refine hq_bipush C dX12_entry_35 (by decide) ?_
          exact hq_iret C hs (by decide : rg (-9)) ⟨rfl, hw⟩ dX12_entry_37
      · have hw := hw.2 h
        refine hq_iconst C dX12_entry_24 ?_
        exact hq_iret C hs (by decide : rg (-1)) ⟨rfl, hw⟩ dX12_entry_25
theorem iX12_holds_12 : ∀ w ∈ u_ws RX12 TX12 57, w ∈ wsX12_holds := fun w h => List.mem_cons_of_mem _ (List.mem_append_right _ h)
set_option maxRecDepth 20000 in
theorem fX12_holds_252 : hq_fl vwCl wsX12_holds RX12 252 12 25 false .int := ⟨RX12, TX12, 57, tyX12, rfl, by decide, iX12_holds_12, by decide +kernel, rfl, tyX12_ok 25 (by decide), tyX12_ok, nmX12⟩
set_option maxRecDepth 20000 in
theorem kX12_holds_393 : Cond.constantLong RX12 393 (-1) ∈ wsX12_holds := by decide +kernel
set_option maxHeartbeats 4000000 in
set_option maxRecDepth 100000 in
theorem cb_X12_holds_46 {p : Program} {l : Launch} {e : Env} {s : State} {m : MethodId} {args : Array Value} {below : List Frame} {meth : Method} {c : Code} {D : va_G} {cA : Nat → ClassId} {B : Nat} {Z : State → Prop} (v1 : Int) (rv1 : rg v1) (v4 : Int) (rv4 : rg v4) (t0 : Int) (rt0 : rl t0) (t1 : Int) (rt1 : rl t1) {k_18 : Int → Int → Prop} {k : Int → Prop} {M : hq_M} {H : Heap} {locs : List Loc} {ls : Array Slot} (C : hq_C vwCl p m c cX12_holds 5 s args wsX12_holds RX12 meth (some .long) D cA (hq_in B YM.length) Z)
    (hw : b_X12_holds_46 v1 v4 t0 t1 k_18 k M) (hs : hq_S vwCl SLx D cA YM B s.heap M H locs) (hl : lv_has ls 5 [(0, .ref (B + 0)), (1, .int (w3 v1)), (4, .int (w3 v4))])
    (hk_18 : ∀ (y2 : Int) (ry2 : rl y2) (y4 : Int) (ry4 : rg y4) (H : Heap) (locs : List Loc) (ls : Array Slot), k_18 y2 y4 → hq_S vwCl SLx D cA YM B s.heap M H locs → lv_has ls 5 [(0, .ref (B + 0)), (1, .int (w3 v1)), (2, .long (w6 y2)), (4, .int (w3 y4))] → W p l e ({ frames := 2, cells := 0, slots := 0, locals := 47 } : Room) s m args below meth c H locs 0 0 (MQ below (hq_Q vwCl SLx D cA YM B (hq_ql (fun z M' => M' = M ∧ k z))) args s 0 0 (hq_in B YM.length)) (F0 m 18 ls [])) : W p l e ({ frames := 2, cells := 0, slots := 0, locals := 47 } : Room) s m args below meth c H locs 0 0 (MQ below (hq_Q vwCl SLx D cA YM B (hq_ql (fun z M' => M' = M ∧ k z))) args s 0 0 (hq_in B YM.length)) (F0 m 46 ls [.long (w6 t1), .long (w6 t0)]) := by
  have hx := C.1.1
  have hb := C.1.2.1
  unfold b_X12_holds_46 at hw
  refine hq_lor C dX12_holds_46 ?_
  refine hq_nmL (fun x1 ex1 => ?_)
  have hw := hw x1 ex1
  have rx1 : rl x1 := by rw [ex1]; exact (w6_rl _)
  refine lv_lstore_n (lv' := [(2, .long (w6 x1)), (0, .ref (B + 0)), (1, .int (w3 v1)), (4, .int (w3 v4))]) hx hb dX12_holds_47 rfl hl (by decide) rfl (fun ls hl => ?_)
  obtain ⟨g3, hw⟩ := hw
  refine hq_iinc (k := 3) C dX12_holds_48 hl rfl (by decide) (fun x2 ex2 ls hl => ?_)
  have hw := hw x2 ex2
  have rx2 : rg x2 := by rw [ex2]; exact g3
  have hl : lv_has ls 5 [(4, .int (w3 x2)), (2, .long (w6 x1)), (0, .ref (B + 0)), (1, .int (w3 v1))] := hl
  refine hq_goto (tgt := 18) C dX12_holds_51 (by decide) ?_
  exact hk_18 x1 rx1 x2 rx2 _ _ _ hw hs (lv_sub hl [2, 3, 1, 0] rfl)
set_option maxHeartbeats 4000000 in
set_option maxRecDepth 100000 in
theorem cl_X12_holds_18 {p : Program} {l : Launch} {e : Env} {s : State} {m : MethodId} {args : Array Value} {below : List Frame} {meth : Method} {c : Code} {D : va_G} {cA : Nat → ClassId} {B : Nat} {Z : State → Prop} (v1 : Int) (rv1 : rg v1)  {k : Int → Prop} {M : hq_M} (C : hq_C vwCl p m c cX12_holds 5 s args wsX12_holds RX12 meth (some .long) D cA (hq_in B YM.length) Z)
     : ∀ (n : Nat) (v2 : Int) (rv2 : rl v2) (v4 : Int) (rv4 : rg v4) (H : Heap) (locs : List Loc) (ls : Array Slot), l_X12_holds_18 v1 k M n v2 v4 → hq_S vwCl SLx D cA YM B s.heap M H locs → lv_has ls 5 [(0, .ref (B + 0)), (1, .int (w3 v1)), (2, .long (w6 v2)), (4, .int (w3 v4))] → W p l e ({ frames := 2, cells := 0, slots := 0, locals := 47 } : Room) s m args below meth c H locs 0 0 (MQ below (hq_Q vwCl SLx D cA YM B (hq_ql (fun z M' => M' = M ∧ k z))) args s 0 0 (hq_in B YM.length)) (F0 m 18 ls []) := by
  have hx := C.1.1
  have hb := C.1.2.1
  intro n
  induction n with
  | zero => intro v2 rv2 v4 rv4 H locs ls hw hs hl; exact hw.elim
  | succ n ih =>
    intro v2 rv2 v4 rv4 H locs ls hw hs hl
    unfold l_X12_holds_18 at hw
    refine lv_iload hx hb dX12_holds_18 (lv_at hl 3 rfl) ?_
    refine lv_aload_n hx hb dX12_holds_20 rfl (lv_at hl 0 rfl) ?_
    refine hq_getI (o := 0) C hs fX12_holds_252 tkM_0 (by decide) rfl dX12_holds_21 (fun g1 => ?_)
    refine hq_icmp_ge (tgt := 54) C rv4 g1 dX12_holds_24 (by decide) (fun h => ?_) (fun h => ?_)
    · have hw := hw.1 h
      refine lv_lload_n hx hb dX12_holds_54 rfl (lv_at hl 2 rfl) ?_
      exact hq_lret C hs rv2 ⟨rfl, hw⟩ dX12_holds_55
    · have hw := hw.2 h
      refine lv_lload_n hx hb dX12_holds_27 rfl (lv_at hl 2 rfl) ?_
      refine lv_aload_n hx hb dX12_holds_28 rfl (lv_at hl 0 rfl) ?_
      refine lv_iload hx hb dX12_holds_29 (lv_at hl 3 rfl) ?_
      refine lv_iload_n hx hb dX12_holds_31 rfl (lv_at hl 1 rfl) ?_
      refine hq_cV (n := 2) (ci := 12) (o := 0) (qc := (TX12, 57)) C hs (c_X12_isHeldBy l C.2.2.2.2.1 v4 rv4 v1 rv1 _ _ hw) gX12_holds_X12_isHeldBy rfl ⟨rfl, rfl⟩ (by decide +kernel) ⟨Nat.le_of_ble_eq_true rfl, Nat.le_of_ble_eq_true rfl⟩ tkM_0 (by decide) rfl rfl hl.1 rfl (Nat.le_of_ble_eq_true rfl) dX12_holds_32 (hq_kz (fun x2 M9 H locs rx2 hw hs => ?_))
      obtain ⟨e9, hw⟩ := hw; rw [e9] at hs
      refine hq_if_eq (tgt := 45) C (rb_rg rx2) dX12_holds_35 (by decide) (fun h => ?_) (fun h => ?_)
      · have hw := hw.1 h
        refine hq_lconst (z := 0) C dX12_holds_45 rfl ?_
        refine cb_X12_holds_46 v1 rv1 v4 rv4 v2 rv2 0 (by decide : rl 0) C hw hs (lv_sub hl [0, 1, 3] rfl) ?_
        · intro y2 ry2 y4 ry4 H locs ls hw hs hl
          exact ih y2 ry2 y4 ry4 _ _ _ hw hs (lv_sub hl [0, 1, 2, 3] rfl)
      · have hw := hw.2 h
        refine hq_lconst (z := 1) C dX12_holds_38 rfl ?_
        refine lv_iload hx hb dX12_holds_39 (lv_at hl 3 rfl) ?_
        refine hq_lshl C dX12_holds_41 ?_
        refine hq_goto (tgt := 46) C dX12_holds_42 (by decide) ?_
        refine cb_X12_holds_46 v1 rv1 v4 rv4 v2 rv2 (hq_lsh 1 v4) (w6_rl _) C hw hs (lv_sub hl [0, 1, 3] rfl) ?_
        · intro y2 ry2 y4 ry4 H locs ls hw hs hl
          exact ih y2 ry2 y4 ry4 _ _ _ hw hs (lv_sub hl [0, 1, 2, 3] rfl)
set_option maxHeartbeats 4000000 in
set_option maxRecDepth 100000 in
theorem c_X12_holds (l : Launch) {D : va_G} {cA : Nat → ClassId} {B : Nat} {Z : State → Prop} (hZ : hq_Zo Z (hq_in B YM.length)) (v1 : Int) (rv1 : rg v1) (M : hq_M) (k : Int → Prop) (hw : w_X12_holds v1 M k) : hq_T vwCl SLx l yX12_holds wsX12_holds ({ frames := 2, cells := 0, slots := 0, locals := 47 } : Room) D cA YM B Z [.ref (B + 0), .int (w3 v1)] M (hq_ql (fun z M' => M' = M ∧ k z)) := by
  refine hq_meth (cc := cX12_holds) (maxL := 5) (ret := (some .long)) (own := RX12) hZ rfl (by decide +kernel) rfl (Nat.le_of_ble_eq_true rfl) ?_
  intro p e s m below meth c ls C hs hl
  have hx := C.1.1
  have hb := C.1.2.1
  unfold w_X12_holds at hw
  have hl : lv_has ls 5 [(0, .ref (B + 0)), (1, .int (w3 v1))] := hl
  refine lv_aload_n hx hb dX12_holds_0 rfl (lv_at hl 0 rfl) ?_
  refine hq_iconst C dX12_holds_1 ?_
  refine lv_iload_n hx hb dX12_holds_2 rfl (lv_at hl 1 rfl) ?_
  refine hq_cV (n := 2) (ci := 12) (o := 0) (qc := (TX12, 57)) C hs (c_X12_isThere l C.2.2.2.2.1 0 (by decide : rg 0) v1 rv1 _ _ hw) gX12_holds_X12_isThere rfl ⟨rfl, rfl⟩ (by decide +kernel) ⟨Nat.le_of_ble_eq_true rfl, Nat.le_of_ble_eq_true rfl⟩ tkM_0 (by decide) rfl rfl hl.1 rfl (Nat.le_of_ble_eq_true rfl) dX12_holds_3 (hq_kz (fun x1 M9 H locs rx1 hw hs => ?_))
  obtain ⟨e9, hw⟩ := hw; rw [e9] at hs
  refine hq_if_ne (tgt := 13) C (rb_rg rx1) dX12_holds_6 (by decide) (fun h => ?_) (fun h => ?_)
  · have hw := hw.1 h
    refine hq_lconst (z := 0) C dX12_holds_13 rfl ?_
    refine lv_lstore_n (lv' := [(2, .long (w6 0)), (0, .ref (B + 0)), (1, .int (w3 v1))]) hx hb dX12_holds_14 rfl hl (by decide) rfl (fun ls hl => ?_)
    refine hq_iconst C dX12_holds_15 ?_
    refine lv_istore (lv' := [(4, .int (w3 0)), (2, .long (w6 0)), (0, .ref (B + 0)), (1, .int (w3 v1))]) hx hb dX12_holds_16 hl (by decide) rfl (fun ls hl => ?_)
    obtain ⟨n9, hw⟩ := hw
    refine cl_X12_holds_18 v1 rv1 C  n9 0 (by decide : rl 0) 0 (by decide : rg 0) _ _ _ hw hs (lv_sub hl [2, 3, 1, 0] rfl)
  · have hw := hw.2 h
    refine hq_ldc2 (z := (-1)) C kX12_holds_393 (by decide) dX12_holds_9 ?_
    exact hq_lret C hs (by decide : rl (-1)) ⟨rfl, hw⟩ dX12_holds_12
theorem iX12_letter_12 : ∀ w ∈ u_ws RX12 TX12 57, w ∈ wsX12_letter := fun w h => List.mem_cons_of_mem _ (List.mem_append_right _ h)
set_option maxRecDepth 20000 in
theorem fX12_letter_47 : hq_fl vwCl wsX12_letter RX12 47 12 26 true (.array .int) := ⟨RX12, TX12, 57, tyX12, rfl, by decide, iX12_letter_12, by decide +kernel, rfl, tyX12_ok 26 (by decide), tyX12_ok, nmX12⟩
set_option maxRecDepth 20000 in
theorem fX12_letter_50 : hq_fl vwCl wsX12_letter RX12 50 12 27 true (.array .int) := ⟨RX12, TX12, 57, tyX12, rfl, by decide, iX12_letter_12, by decide +kernel, rfl, tyX12_ok 27 (by decide), tyX12_ok, nmX12⟩
set_option maxRecDepth 20000 in
theorem fX12_letter_53 : hq_fl vwCl wsX12_letter RX12 53 12 28 true (.array .int) := ⟨RX12, TX12, 57, tyX12, rfl, by decide, iX12_letter_12, by decide +kernel, rfl, tyX12_ok 28 (by decide), tyX12_ok, nmX12⟩
set_option maxRecDepth 20000 in
theorem fX12_letter_56 : hq_fl vwCl wsX12_letter RX12 56 12 29 true (.array .int) := ⟨RX12, TX12, 57, tyX12, rfl, by decide, iX12_letter_12, by decide +kernel, rfl, tyX12_ok 29 (by decide), tyX12_ok, nmX12⟩
set_option maxRecDepth 20000 in
theorem fX12_letter_59 : hq_fl vwCl wsX12_letter RX12 59 12 30 true (.array .int) := ⟨RX12, TX12, 57, tyX12, rfl, by decide, iX12_letter_12, by decide +kernel, rfl, tyX12_ok 30 (by decide), tyX12_ok, nmX12⟩
set_option maxRecDepth 20000 in
theorem fX12_letter_62 : hq_fl vwCl wsX12_letter RX12 62 12 31 true (.array .boolean) := ⟨RX12, TX12, 57, tyX12, rfl, by decide, iX12_letter_12, by decide +kernel, rfl, tyX12_ok 31 (by decide), tyX12_ok, nmX12⟩
set_option maxRecDepth 20000 in
theorem fX12_letter_66 : hq_fl vwCl wsX12_letter RX12 66 12 32 true (.array .int) := ⟨RX12, TX12, 57, tyX12, rfl, by decide, iX12_letter_12, by decide +kernel, rfl, tyX12_ok 32 (by decide), tyX12_ok, nmX12⟩
set_option maxHeartbeats 4000000 in
set_option maxRecDepth 100000 in
theorem c_X12_letter (l : Launch) {D : va_G} {cA : Nat → ClassId} {B : Nat} {Z : State → Prop} (hZ : hq_Zo Z (hq_in B YM.length)) (v1 : Int) (rv1 : rg v1) (v2 : Int) (rv2 : rg v2) (M : hq_M) (k : Int → Prop) (hw : w_X12_letter v1 v2 M k) : hq_T vwCl SLx l yX12_letter wsX12_letter ({ frames := 2, cells := 0, slots := 0, locals := 46 } : Room) D cA YM B Z [.ref (B + 0), .int (w3 v1), .int (w3 v2)] M (hq_qi (fun z M' => M' = M ∧ k z)) := by
  refine hq_meth (cc := cX12_letter) (maxL := 3) (ret := (some .int)) (own := RX12) hZ rfl (by decide +kernel) rfl (Nat.le_of_ble_eq_true rfl) ?_
  intro p e s m below meth c ls C hs hl
  have hx := C.1.1
  have hb := C.1.2.1
  unfold w_X12_letter at hw
  have hl : lv_has ls 3 [(0, .ref (B + 0)), (1, .int (w3 v1)), (2, .int (w3 v2))] := hl
  refine lv_aload_n hx hb dX12_letter_0 rfl (lv_at hl 0 rfl) ?_
  refine lv_iload_n hx hb dX12_letter_1 rfl (lv_at hl 1 rfl) ?_
  refine hq_cV (n := 1) (ci := 12) (o := 0) (qc := (TX12, 57)) C hs (c_X12_isLetter l C.2.2.2.2.1 v1 rv1 _ _ hw) gX12_letter_X12_isLetter rfl ⟨rfl, rfl⟩ (by decide +kernel) ⟨Nat.le_of_ble_eq_true rfl, Nat.le_of_ble_eq_true rfl⟩ tkM_0 (by decide) rfl rfl hl.1 rfl (Nat.le_of_ble_eq_true rfl) dX12_letter_2 (hq_kz (fun x1 M9 H locs rx1 hw hs => ?_))
  obtain ⟨e9, hw⟩ := hw; rw [e9] at hs
  refine hq_if_ne (tgt := 10) C (rb_rg rx1) dX12_letter_5 (by decide) (fun h => ?_) (fun h => ?_)
  · have hw := hw.1 h
    refine lv_iload_n hx hb dX12_letter_10 rfl (lv_at hl 2 rfl) ?_
    rcases Decidable.em (v2 = 0) with h | h0
    · obtain ⟨hw, -⟩ := hw
      have hw := hw h
      refine hq_tabIn (tgt := 52) 0 (by decide) C h dX12_letter_11 (by decide) (by decide) rfl (by decide) ?_
      refine lv_aload_n hx hb dX12_letter_52 rfl (lv_at hl 0 rfl) ?_
      refine hq_getA (o := 0) C hs fX12_letter_53 tkM_0 (by decide) rfl dX12_letter_53 ?_
      refine lv_iload_n hx hb dX12_letter_56 rfl (lv_at hl 1 rfl) ?_
      obtain ⟨g2, hw⟩ := hw
      refine hq_iald (o := 13) C hs tkM_13 rv1 g2 dX12_letter_57 (fun g3 => ?_)
      exact hq_iret C hs g3 ⟨rfl, hw⟩ dX12_letter_58
    obtain ⟨-, hw⟩ := hw
    rcases Decidable.em (v2 = 1) with h | h1
    · obtain ⟨hw, -⟩ := hw
      have hw := hw h
      refine hq_tabIn (tgt := 59) 1 (by decide) C h dX12_letter_11 (by decide) (by decide) rfl (by decide) ?_
      refine lv_aload_n hx hb dX12_letter_59 rfl (lv_at hl 0 rfl) ?_
      refine hq_getA (o := 0) C hs fX12_letter_47 tkM_0 (by decide) rfl dX12_letter_60 ?_
      refine lv_iload_n hx hb dX12_letter_63 rfl (lv_at hl 1 rfl) ?_
      obtain ⟨g4, hw⟩ := hw
      refine hq_iald (o := 11) C hs tkM_11 rv1 g4 dX12_letter_64 (fun g5 => ?_)
      exact hq_iret C hs g5 ⟨rfl, hw⟩ dX12_letter_65
    obtain ⟨-, hw⟩ := hw
    rcases Decidable.em (v2 = 2) with h | h2
    · obtain ⟨hw, -⟩ := hw
      have hw := hw h
      refine hq_tabIn (tgt := 66) 2 (by decide) C h dX12_letter_11 (by decide) (by decide) rfl (by decide) ?_
      refine lv_aload_n hx hb dX12_letter_66 rfl (lv_at hl 0 rfl) ?_
      refine hq_getA (o := 0) C hs fX12_letter_50 tkM_0 (by decide) rfl dX12_letter_67 ?_
      refine lv_iload_n hx hb dX12_letter_70 rfl (lv_at hl 1 rfl) ?_
      obtain ⟨g6, hw⟩ := hw
      refine hq_iald (o := 12) C hs tkM_12 rv1 g6 dX12_letter_71 (fun g7 => ?_)
      exact hq_iret C hs g7 ⟨rfl, hw⟩ dX12_letter_72
    obtain ⟨-, hw⟩ := hw
    rcases Decidable.em (v2 = 3) with h | h3
    · obtain ⟨hw, -⟩ := hw
      have hw := hw h
      refine hq_tabIn (tgt := 73) 3 (by decide) C h dX12_letter_11 (by decide) (by decide) rfl (by decide) ?_
      refine lv_aload_n hx hb dX12_letter_73 rfl (lv_at hl 0 rfl) ?_
      refine hq_getA (o := 0) C hs fX12_letter_56 tkM_0 (by decide) rfl dX12_letter_74 ?_
      refine lv_iload_n hx hb dX12_letter_77 rfl (lv_at hl 1 rfl) ?_
      obtain ⟨g8, hw⟩ := hw
      refine hq_iald (o := 14) C hs tkM_14 rv1 g8 dX12_letter_78 (fun g9 => ?_)
      exact hq_iret C hs g9 ⟨rfl, hw⟩ dX12_letter_79
    obtain ⟨-, hw⟩ := hw
    rcases Decidable.em (v2 = 4) with h | h4
    · obtain ⟨hw, -⟩ := hw
      have hw := hw h
      refine hq_tabIn (tgt := 80) 4 (by decide) C h dX12_letter_11 (by decide) (by decide) rfl (by decide) ?_
      refine lv_aload_n hx hb dX12_letter_80 rfl (lv_at hl 0 rfl) ?_
      refine hq_getA (o := 0) C hs fX12_letter_59 tkM_0 (by decide) rfl dX12_letter_81 ?_
      refine lv_iload_n hx hb dX12_letter_84 rfl (lv_at hl 1 rfl) ?_
      obtain ⟨g10, hw⟩ := hw
      refine hq_iald (o := 15) C hs tkM_15 rv1 g10 dX12_letter_85 (fun g11 => ?_)
      exact hq_iret C hs g11 ⟨rfl, hw⟩ dX12_letter_86
    obtain ⟨-, hw⟩ := hw
    rcases Decidable.em (v2 = 5) with h | h5
    · obtain ⟨hw, -⟩ := hw
      have hw := hw h
      refine hq_tabIn (tgt := 87) 5 (by decide) C h dX12_letter_11 (by decide) (by decide) rfl (by decide) ?_
      refine lv_aload_n hx hb dX12_letter_87 rfl (lv_at hl 0 rfl) ?_
      refine hq_getA (o := 0) C hs fX12_letter_62 tkM_0 (by decide) rfl dX12_letter_88 ?_
      refine lv_iload_n hx hb dX12_letter_91 rfl (lv_at hl 1 rfl) ?_
      obtain ⟨g12, hw⟩ := hw
      refine hq_zald (o := 16) C hs tkM_16 rv1 g12 dX12_letter_92 (fun g13 => ?_)
      refine hq_if_eq (tgt := 100) C (rb_rg g13) dX12_letter_93 (by decide) (fun h => ?_) (fun h => ?_)
      · have hw := hw.1 h
        refine hq_iconst C dX12_letter_100 ?_
        exact hq_iret C hs (by decide : rg 0) ⟨rfl, hw⟩ dX12_letter_101
      · have hw := hw.2 h
        refine hq_iconst C dX12_letter_96 ?_
        refine hq_goto (tgt := 101) C dX12_letter_97 (by decide) ?_
        exact hq_iret C hs (by decide : rg 1) ⟨rfl, hw⟩ dX12_letter_101
    obtain ⟨-, hw⟩ := hw
    rcases Decidable.em (v2 = 6) with h | h6
    · obtain ⟨hw, -⟩ := hw
      have hw := hw h
      refine hq_tabIn (tgt := 102) 6 (by decide) C h dX12_letter_11 (by decide) (by decide) rfl (by decide) ?_
      refine lv_aload_n hx hb dX12_letter_102 rfl (lv_at hl 0 rfl) ?_
      refine hq_getA (o := 0) C hs fX12_letter_66 tkM_0 (by decide) rfl dX12_letter_103 ?_
      refine lv_iload_n hx hb dX12_letter_106 rfl (lv_at hl 1 rfl) ?_
      obtain ⟨g14, hw⟩ := hw
      refine hq_iald (o := 17) C hs tkM_17 rv1 g14 dX12_letter_107 (fun g15 => ?_)
      exact hq_iret C hs g15 ⟨rfl, hw⟩ dX12_letter_108
    obtain ⟨-, hw⟩ := hw
    have hd9 : v2 < 0 ∨ 6 < v2 := by omega
    have hw := hw hd9
    refine hq_tabOut (tgt := 109) C rv2 dX12_letter_11 hd9 (by decide) ?_
    refine hq_iconst C dX12_letter_109 ?_
    exact hq_iret C hs (by decide : rg (-1)) ⟨rfl, hw⟩ dX12_letter_110
  · have hw := hw.2 h
    refine hq_iconst C dX12_letter_8 ?_
    exact hq_iret C hs (by decide : rg (-1)) ⟨rfl, hw⟩ dX12_letter_9
theorem iX12_got_12 : ∀ w ∈ u_ws RX12 TX12 57, w ∈ wsX12_got := fun w h => List.mem_cons_of_mem _ (List.mem_append_right _ h)
set_option maxRecDepth 20000 in
theorem fX12_got_59 : hq_fl vwCl wsX12_got RX12 59 12 30 true (.array .int) := ⟨RX12, TX12, 57, tyX12, rfl, by decide, iX12_got_12, by decide +kernel, rfl, tyX12_ok 30 (by decide), tyX12_ok, nmX12⟩
set_option maxRecDepth 20000 in
theorem fX12_got_66 : hq_fl vwCl wsX12_got RX12 66 12 32 true (.array .int) := ⟨RX12, TX12, 57, tyX12, rfl, by decide, iX12_got_12, by decide +kernel, rfl, tyX12_ok 32 (by decide), tyX12_ok, nmX12⟩
set_option maxRecDepth 20000 in
theorem fX12_got_69 : hq_fl vwCl wsX12_got RX12 69 12 33 true (.array .int) := ⟨RX12, TX12, 57, tyX12, rfl, by decide, iX12_got_12, by decide +kernel, rfl, tyX12_ok 33 (by decide), tyX12_ok, nmX12⟩
set_option maxHeartbeats 4000000 in
set_option maxRecDepth 100000 in
theorem c_X12_got (l : Launch) {D : va_G} {cA : Nat → ClassId} {B : Nat} {Z : State → Prop} (hZ : hq_Zo Z (hq_in B YM.length)) (v1 : Int) (rv1 : rg v1) (v2 : Int) (rv2 : rg v2) (M : hq_M) (k : Int → Prop) (hw : w_X12_got v1 v2 M k) : hq_T vwCl SLx l yX12_got wsX12_got ({ frames := 2, cells := 0, slots := 0, locals := 46 } : Room) D cA YM B Z [.ref (B + 0), .int (w3 v1), .int (w3 v2)] M (hq_qi (fun z M' => M' = M ∧ k z)) := by
  refine hq_meth (cc := cX12_got) (maxL := 3) (ret := (some .int)) (own := RX12) hZ rfl (by decide +kernel) rfl (Nat.le_of_ble_eq_true rfl) ?_
  intro p e s m below meth c ls C hs hl
  have hx := C.1.1
  have hb := C.1.2.1
  unfold w_X12_got at hw
  have hl : lv_has ls 3 [(0, .ref (B + 0)), (1, .int (w3 v1)), (2, .int (w3 v2))] := hl
  refine lv_aload_n hx hb dX12_got_0 rfl (lv_at hl 0 rfl) ?_
  refine lv_iload_n hx hb dX12_got_1 rfl (lv_at hl 1 rfl) ?_
  refine hq_cV (n := 1) (ci := 12) (o := 0) (qc := (TX12, 57)) C hs (c_X12_isLetter l C.2.2.2.2.1 v1 rv1 _ _ hw) gX12_got_X12_isLetter rfl ⟨rfl, rfl⟩ (by decide +kernel) ⟨Nat.le_of_ble_eq_true rfl, Nat.le_of_ble_eq_true rfl⟩ tkM_0 (by decide) rfl rfl hl.1 rfl (Nat.le_of_ble_eq_true rfl) dX12_got_2 (hq_kz (fun x1 M9 H locs rx1 hw hs => ?_))
  obtain ⟨e9, hw⟩ := hw; rw [e9] at hs
  refine hq_if_eq (tgt := 26) C (rb_rg rx1) dX12_got_5 (by decide) (fun h => ?_) (fun h => ?_)
  · have hw := hw.1 h
    refine hq_iconst C dX12_got_26 ?_
    exact hq_iret C hs (by decide : rg (-1)) ⟨rfl, hw⟩ dX12_got_27
  · have hw := hw.2 h
    refine lv_iload_n hx hb dX12_got_8 rfl (lv_at hl 2 rfl) ?_
    refine hq_i2l (y := 0) C rv2 dX12_got_9 ?_
    refine hq_lconst (z := 0) C dX12_got_10 rfl ?_
    refine lv_aload_n hx hb dX12_got_11 rfl (lv_at hl 0 rfl) ?_
    refine hq_getA (o := 0) C hs fX12_got_66 tkM_0 (by decide) rfl dX12_got_12 ?_
    refine lv_iload_n hx hb dX12_got_15 rfl (lv_at hl 1 rfl) ?_
    obtain ⟨g2, hw⟩ := hw
    refine hq_iald (o := 17) C hs tkM_17 rv1 g2 dX12_got_16 (fun g3 => ?_)
    refine hq_iconst C dX12_got_17 ?_
    obtain ⟨g4, hw⟩ := hw
    refine hq_isub C dX12_got_18 ?_
    refine hq_i2l (y := 0) C g4 dX12_got_19 ?_
    refine hq_cS (n := 3) C hs (c_X12_in l C.2.2.2.2.1 v2 (rg_rl rv2) 0 (by decide : rl 0) ((M 17 v1.toNat) - 1) (rg_rl g4) _ _ hw) gX12_got_X12_in rfl ⟨rfl, rfl⟩ (by decide +kernel) ⟨Nat.le_of_ble_eq_true rfl, Nat.le_of_ble_eq_true rfl⟩ rfl hl.1 rfl (Nat.le_of_ble_eq_true rfl) dX12_got_20 (hq_kz (fun x5 M9 H locs rx5 hw hs => ?_))
    obtain ⟨e9, hw⟩ := hw; rw [e9] at hs
    refine hq_if_ne (tgt := 28) C (rb_rg rx5) dX12_got_23 (by decide) (fun h => ?_) (fun h => ?_)
    · have hw := hw.1 h
      refine lv_aload_n hx hb dX12_got_28 rfl (lv_at hl 0 rfl) ?_
      refine hq_getA (o := 0) C hs fX12_got_59 tkM_0 (by decide) rfl dX12_got_29 ?_
      refine lv_iload_n hx hb dX12_got_32 rfl (lv_at hl 1 rfl) ?_
      obtain ⟨g6, hw⟩ := hw
      refine hq_iald (o := 15) C hs tkM_15 rv1 g6 dX12_got_33 (fun g7 => ?_)
      refine hq_iconst C dX12_got_34 ?_
      refine hq_icmp_ne (tgt := 52) C g7 (by decide : rg 2) dX12_got_35 (by decide) (fun h => ?_) (fun h => ?_)
      · have hw := hw.1 h
        refine hq_bipush C dX12_got_52 (by decide) ?_
        exact hq_iret C hs (by decide : rg (-2)) ⟨rfl, hw⟩ dX12_got_54
      · have hw := hw.2 h
        refine lv_aload_n hx hb dX12_got_38 rfl (lv_at hl 0 rfl) ?_
        refine hq_getA (o := 0) C hs fX12_got_69 tkM_0 (by decide) rfl dX12_got_39 ?_
        refine hq_bipush C dX12_got_42 (by decide) ?_
        refine lv_iload_n hx hb dX12_got_44 rfl (lv_at hl 1 rfl) ?_
        obtain ⟨g8, hw⟩ := hw
        refine hq_imul C dX12_got_45 ?_
        refine lv_iload_n hx hb dX12_got_46 rfl (lv_at hl 2 rfl) ?_
        obtain ⟨g9, hw⟩ := hw
        refine hq_iadd C dX12_got_47 ?_
        obtain ⟨g10, hw⟩ := hw
        refine hq_iald (o := 18) C hs tkM_18 g9 g10 dX12_got_48 (fun g11 => ?_)
        refine hq_goto (tgt := 54) C dX12_got_49 (by decide) ?_
        exact hq_iret C hs g11 ⟨rfl, hw⟩ dX12_got_54
    · have hw := hw.2 h
      refine hq_iconst C dX12_got_26 ?_
      exact hq_iret C hs (by decide : rg (-1)) ⟨rfl, hw⟩ dX12_got_27
set_option maxHeartbeats 4000000 in
set_option maxRecDepth 100000 in
theorem c_X12_waits (l : Launch) {D : va_G} {cA : Nat → ClassId} {B : Nat} {Z : State → Prop} (hZ : hq_Zo Z (hq_in B YM.length)) (v1 : Int) (rv1 : rg v1) (M : hq_M) (k : Int → Prop) (hw : w_X12_waits v1 M k) : hq_T vwCl SLx l yX12_waits wsX12_waits ({ frames := 1, cells := 0, slots := 0, locals := 24 } : Room) D cA YM B Z [.ref (B + 0), .int (w3 v1)] M (hq_qi (fun z M' => M' = M ∧ k z)) := by
  refine hq_meth (cc := cX12_waits) (maxL := 2) (ret := (some .int)) (own := RX12) hZ rfl (by decide +kernel) rfl (Nat.le_of_ble_eq_true rfl) ?_
  intro p e s m below meth c ls C hs hl
  have hx := C.1.1
  have hb := C.1.2.1
  unfold w_X12_waits at hw
  have hl : lv_has ls 2 [(0, .ref (B + 0)), (1, .int (w3 v1))] := hl
  refine lv_iload_n hx hb dX12_waits_0 rfl (lv_at hl 1 rfl) ?_
  refine hq_if_ge (tgt := 8) C rv1 dX12_waits_1 (by decide) (fun h => ?_) (fun h => ?_)
  · have hw := hw.1 h
    refine lv_aload_n hx hb dX12_waits_8 rfl (lv_at hl 0 rfl) ?_
    refine lv_iload_n hx hb dX12_waits_9 rfl (lv_at hl 1 rfl) ?_
    refine hq_cV (n := 1) (ci := 12) (o := 0) (qc := (TX12, 57)) C hs (c_X12_waiting l C.2.2.2.2.1 v1 rv1 _ _ hw) gX12_waits_X12_waiting rfl ⟨rfl, rfl⟩ (by decide +kernel) ⟨Nat.le_of_ble_eq_true rfl, Nat.le_of_ble_eq_true rfl⟩ tkM_0 (by decide) rfl rfl hl.1 rfl (Nat.le_of_ble_eq_true rfl) dX12_waits_10 (hq_ki (fun x1 M9 H locs rx1 hw hs => ?_))
    obtain ⟨e9, hw⟩ := hw; rw [e9] at hs
    exact hq_iret C hs rx1 ⟨rfl, hw⟩ dX12_waits_13
  · have hw := hw.2 h
    refine hq_iconst C dX12_waits_4 ?_
    refine hq_goto (tgt := 13) C dX12_waits_5 (by decide) ?_
    exact hq_iret C hs (by decide : rg (-1)) ⟨rfl, hw⟩ dX12_waits_13
theorem iX12_octet_12 : ∀ w ∈ u_ws RX12 TX12 57, w ∈ wsX12_octet := fun w h => List.mem_cons_of_mem _ (List.mem_append_right _ h)
set_option maxRecDepth 20000 in
theorem fX12_octet_53 : hq_fl vwCl wsX12_octet RX12 53 12 28 true (.array .int) := ⟨RX12, TX12, 57, tyX12, rfl, by decide, iX12_octet_12, by decide +kernel, rfl, tyX12_ok 28 (by decide), tyX12_ok, nmX12⟩
set_option maxRecDepth 20000 in
theorem fX12_octet_75 : hq_fl vwCl wsX12_octet RX12 75 12 35 true (.array .int) := ⟨RX12, TX12, 57, tyX12, rfl, by decide, iX12_octet_12, by decide +kernel, rfl, tyX12_ok 35 (by decide), tyX12_ok, nmX12⟩
set_option maxRecDepth 20000 in
theorem fX12_octet_87 : hq_fl vwCl wsX12_octet RX12 87 12 42 true (.array .int) := ⟨RX12, TX12, 57, tyX12, rfl, by decide, iX12_octet_12, by decide +kernel, rfl, tyX12_ok 42 (by decide), tyX12_ok, nmX12⟩
set_option maxRecDepth 20000 in
theorem fX12_octet_105 : hq_fl vwCl wsX12_octet RX12 105 12 51 true (.array .int) := ⟨RX12, TX12, 57, tyX12, rfl, by decide, iX12_octet_12, by decide +kernel, rfl, tyX12_ok 51 (by decide), tyX12_ok, nmX12⟩
set_option maxRecDepth 20000 in
theorem fX12_octet_277 : hq_fl vwCl wsX12_octet RX12 277 12 43 false .int := ⟨RX12, TX12, 57, tyX12, rfl, by decide, iX12_octet_12, by decide +kernel, rfl, tyX12_ok 43 (by decide), tyX12_ok, nmX12⟩
set_option maxRecDepth 20000 in
theorem fX12_octet_361 : hq_fl vwCl wsX12_octet RX12 361 12 52 false .int := ⟨RX12, TX12, 57, tyX12, rfl, by decide, iX12_octet_12, by decide +kernel, rfl, tyX12_ok 52 (by decide), tyX12_ok, nmX12⟩
set_option maxHeartbeats 4000000 in
set_option maxRecDepth 100000 in
theorem cb_X12_octet_25 {p : Program} {l : Launch} {e : Env} {s : State} {m : MethodId} {args : Array Value} {below : List Frame} {meth : Method} {c : Code} {D : va_G} {cA : Nat → ClassId} {B : Nat} {Z : State → Prop} (v1 : Int) (rv1 : rg v1) (v2 : Int) (rv2 : rg v2) (t0 : Int) (rt0 : rb t0)  {k : Int → Prop} {M : hq_M} {H : Heap} {locs : List Loc} {ls : Array Slot} (C : hq_C vwCl p m c cX12_octet 4 s args wsX12_octet RX12 meth (some .int) D cA (hq_in B YM.length) Z)
    (hw : b_X12_octet_25 v1 v2 t0 k M) (hs : hq_S vwCl SLx D cA YM B s.heap M H locs) (hl : lv_has ls 4 [(0, .ref (B + 0)), (1, .int (w3 v1)), (2, .int (w3 v2))])
     : W p l e ({ frames := 2, cells := 0, slots := 0, locals := 46 } : Room) s m args below meth c H locs 0 0 (MQ below (hq_Q vwCl SLx D cA YM B (hq_qi (fun z M' => M' = M ∧ k z))) args s 0 0 (hq_in B YM.length)) (F0 m 25 ls [.int (w3 t0)]) := by
  have hx := C.1.1
  have hb := C.1.2.1
  unfold b_X12_octet_25 at hw
  refine lv_istore_n (lv' := [(3, .int (w3 t0)), (0, .ref (B + 0)), (1, .int (w3 v1)), (2, .int (w3 v2))]) hx hb dX12_octet_25 rfl hl (by decide) rfl (fun ls hl => ?_)
  refine lv_iload_n hx hb dX12_octet_26 rfl (lv_at hl 0 rfl) ?_
  refine hq_if_eq (tgt := 34) C (rb_rg rt0) dX12_octet_27 (by decide) (fun h => ?_) (fun h => ?_)
  · have hw := hw.1 h
    refine hq_iconst C dX12_octet_34 ?_
    exact hq_iret C hs (by decide : rg (-1)) ⟨rfl, hw⟩ dX12_octet_35
  · have hw := hw.2 h
    refine lv_iload_n hx hb dX12_octet_30 rfl (lv_at hl 3 rfl) ?_
    refine hq_if_ge (tgt := 36) C rv2 dX12_octet_31 (by decide) (fun h => ?_) (fun h => ?_)
    · have hw := hw.1 h
      refine lv_iload_n hx hb dX12_octet_36 rfl (lv_at hl 2 rfl) ?_
      refine hq_bipush C dX12_octet_37 (by decide) ?_
      refine hq_icmp_ne (tgt := 62) C rv1 (by decide : rg 40) dX12_octet_39 (by decide) (fun h => ?_) (fun h => ?_)
      · have hw := hw.1 h
        refine lv_iload_n hx hb dX12_octet_62 rfl (lv_at hl 2 rfl) ?_
        refine hq_bipush C dX12_octet_63 (by decide) ?_
        refine hq_icmp_ne (tgt := 88) C rv1 (by decide : rg 41) dX12_octet_65 (by decide) (fun h => ?_) (fun h => ?_)
        · have hw := hw.1 h
          refine lv_iload_n hx hb dX12_octet_88 rfl (lv_at hl 3 rfl) ?_
          refine lv_aload_n hx hb dX12_octet_89 rfl (lv_at hl 1 rfl) ?_
          refine hq_getA (o := 0) C hs fX12_octet_53 tkM_0 (by decide) rfl dX12_octet_90 ?_
          refine lv_iload_n hx hb dX12_octet_93 rfl (lv_at hl 2 rfl) ?_
          obtain ⟨g1, hw⟩ := hw
          refine hq_iald (o := 13) C hs tkM_13 rv1 g1 dX12_octet_94 (fun g2 => ?_)
          refine hq_icmp_ge (tgt := 112) C rv2 g2 dX12_octet_95 (by decide) (fun h => ?_) (fun h => ?_)
          · have hw := hw.1 h
            refine hq_bipush C dX12_octet_112 (by decide) ?_
            exact hq_iret C hs (by decide : rg (-9)) ⟨rfl, hw⟩ dX12_octet_114
          · have hw := hw.2 h
            refine lv_aload_n hx hb dX12_octet_98 rfl (lv_at hl 1 rfl) ?_
            refine hq_getA (o := 0) C hs fX12_octet_75 tkM_0 (by decide) rfl dX12_octet_99 ?_
            refine hq_bipush C dX12_octet_102 (by decide) ?_
            refine lv_iload_n hx hb dX12_octet_104 rfl (lv_at hl 2 rfl) ?_
            obtain ⟨g3, hw⟩ := hw
            refine hq_imul C dX12_octet_105 ?_
            refine lv_iload_n hx hb dX12_octet_106 rfl (lv_at hl 3 rfl) ?_
            obtain ⟨g4, hw⟩ := hw
            refine hq_iadd C dX12_octet_107 ?_
            obtain ⟨g5, hw⟩ := hw
            refine hq_iald (o := 20) C hs tkM_20 g4 g5 dX12_octet_108 (fun g6 => ?_)
            refine hq_goto (tgt := 114) C dX12_octet_109 (by decide) ?_
            exact hq_iret C hs g6 ⟨rfl, hw⟩ dX12_octet_114
        · have hw := hw.2 h
          refine lv_iload_n hx hb dX12_octet_68 rfl (lv_at hl 3 rfl) ?_
          refine lv_aload_n hx hb dX12_octet_69 rfl (lv_at hl 1 rfl) ?_
          refine hq_getI (o := 0) C hs fX12_octet_361 tkM_0 (by decide) rfl dX12_octet_70 (fun g7 => ?_)
          refine hq_icmp_ge (tgt := 85) C rv2 g7 dX12_octet_73 (by decide) (fun h => ?_) (fun h => ?_)
          · have hw := hw.1 h
            refine hq_bipush C dX12_octet_85 (by decide) ?_
            exact hq_iret C hs (by decide : rg (-9)) ⟨rfl, hw⟩ dX12_octet_87
          · have hw := hw.2 h
            refine lv_aload_n hx hb dX12_octet_76 rfl (lv_at hl 1 rfl) ?_
            refine hq_getA (o := 0) C hs fX12_octet_105 tkM_0 (by decide) rfl dX12_octet_77 ?_
            refine lv_iload_n hx hb dX12_octet_80 rfl (lv_at hl 3 rfl) ?_
            obtain ⟨g8, hw⟩ := hw
            refine hq_iald (o := 30) C hs tkM_30 rv2 g8 dX12_octet_81 (fun g9 => ?_)
            refine hq_goto (tgt := 87) C dX12_octet_82 (by decide) ?_
            exact hq_iret C hs g9 ⟨rfl, hw⟩ dX12_octet_87
      · have hw := hw.2 h
        refine lv_iload_n hx hb dX12_octet_42 rfl (lv_at hl 3 rfl) ?_
        refine lv_aload_n hx hb dX12_octet_43 rfl (lv_at hl 1 rfl) ?_
        refine hq_getI (o := 0) C hs fX12_octet_277 tkM_0 (by decide) rfl dX12_octet_44 (fun g10 => ?_)
        refine hq_icmp_ge (tgt := 59) C rv2 g10 dX12_octet_47 (by decide) (fun h => ?_) (fun h => ?_)
        · have hw := hw.1 h
          refine hq_bipush C dX12_octet_59 (by decide) ?_
          exact hq_iret C hs (by decide : rg (-9)) ⟨rfl, hw⟩ dX12_octet_61
        · have hw := hw.2 h
          refine lv_aload_n hx hb dX12_octet_50 rfl (lv_at hl 1 rfl) ?_
          refine hq_getA (o := 0) C hs fX12_octet_87 tkM_0 (by decide) rfl dX12_octet_51 ?_
          refine lv_iload_n hx hb dX12_octet_54 rfl (lv_at hl 3 rfl) ?_
          obtain ⟨g11, hw⟩ := hw
          refine hq_iald (o := 24) C hs tkM_24 rv2 g11 dX12_octet_55 (fun g12 => ?_)
          refine hq_goto (tgt := 61) C dX12_octet_56 (by decide) ?_
          exact hq_iret C hs g12 ⟨rfl, hw⟩ dX12_octet_61
    · have hw := hw.2 h
      refine hq_iconst C dX12_octet_34 ?_
      exact hq_iret C hs (by decide : rg (-1)) ⟨rfl, hw⟩ dX12_octet_35
set_option maxHeartbeats 4000000 in
set_option maxRecDepth 100000 in
theorem cb_X12_octet_20 {p : Program} {l : Launch} {e : Env} {s : State} {m : MethodId} {args : Array Value} {below : List Frame} {meth : Method} {c : Code} {D : va_G} {cA : Nat → ClassId} {B : Nat} {Z : State → Prop} (v1 : Int) (rv1 : rg v1) (v2 : Int) (rv2 : rg v2)  {k : Int → Prop} {M : hq_M} {H : Heap} {locs : List Loc} {ls : Array Slot} (C : hq_C vwCl p m c cX12_octet 4 s args wsX12_octet RX12 meth (some .int) D cA (hq_in B YM.length) Z)
    (hw : b_X12_octet_20 v1 v2 k M) (hs : hq_S vwCl SLx D cA YM B s.heap M H locs) (hl : lv_has ls 4 [(0, .ref (B + 0)), (1, .int (w3 v1)), (2, .int (w3 v2))])
     : W p l e ({ frames := 2, cells := 0, slots := 0, locals := 46 } : Room) s m args below meth c H locs 0 0 (MQ below (hq_Q vwCl SLx D cA YM B (hq_qi (fun z M' => M' = M ∧ k z))) args s 0 0 (hq_in B YM.length)) (F0 m 20 ls []) := by
  have hx := C.1.1
  have hb := C.1.2.1
  unfold b_X12_octet_20 at hw
  refine hq_iconst C dX12_octet_20 ?_
  refine hq_goto (tgt := 25) C dX12_octet_21 (by decide) ?_
  refine cb_X12_octet_25 v1 rv1 v2 rv2 1 (by decide) C hw hs (lv_sub hl [0, 1, 2] rfl) 
set_option maxHeartbeats 4000000 in
set_option maxRecDepth 100000 in
theorem c_X12_octet (l : Launch) {D : va_G} {cA : Nat → ClassId} {B : Nat} {Z : State → Prop} (hZ : hq_Zo Z (hq_in B YM.length)) (v1 : Int) (rv1 : rg v1) (v2 : Int) (rv2 : rg v2) (M : hq_M) (k : Int → Prop) (hw : w_X12_octet v1 v2 M k) : hq_T vwCl SLx l yX12_octet wsX12_octet ({ frames := 2, cells := 0, slots := 0, locals := 46 } : Room) D cA YM B Z [.ref (B + 0), .int (w3 v1), .int (w3 v2)] M (hq_qi (fun z M' => M' = M ∧ k z)) := by
  refine hq_meth (cc := cX12_octet) (maxL := 4) (ret := (some .int)) (own := RX12) hZ rfl (by decide +kernel) rfl (Nat.le_of_ble_eq_true rfl) ?_
  intro p e s m below meth c ls C hs hl
  have hx := C.1.1
  have hb := C.1.2.1
  unfold w_X12_octet at hw
  have hl : lv_has ls 4 [(0, .ref (B + 0)), (1, .int (w3 v1)), (2, .int (w3 v2))] := hl
  refine lv_aload_n hx hb dX12_octet_0 rfl (lv_at hl 0 rfl) ?_
  refine lv_iload_n hx hb dX12_octet_1 rfl (lv_at hl 1 rfl) ?_
  refine hq_cV (n := 1) (ci := 12) (o := 0) (qc := (TX12, 57)) C hs (c_X12_isLetter l C.2.2.2.2.1 v1 rv1 _ _ hw) gX12_octet_X12_isLetter rfl ⟨rfl, rfl⟩ (by decide +kernel) ⟨Nat.le_of_ble_eq_true rfl, Nat.le_of_ble_eq_true rfl⟩ tkM_0 (by decide) rfl rfl hl.1 rfl (Nat.le_of_ble_eq_true rfl) dX12_octet_2 (hq_kz (fun x1 M9 H locs rx1 hw hs => ?_))
  obtain ⟨e9, hw⟩ := hw; rw [e9] at hs
  refine hq_if_ne (tgt := 20) C (rb_rg rx1) dX12_octet_5 (by decide) (fun h => ?_) (fun h => ?_)
  · have hw := hw.1 h
    refine cb_X12_octet_20 v1 rv1 v2 rv2 C hw hs (lv_sub hl [0, 1, 2] rfl) 
  · have hw := hw.2 h
    refine lv_iload_n hx hb dX12_octet_8 rfl (lv_at hl 1 rfl) ?_
    refine hq_bipush C dX12_octet_9 (by decide) ?_
    refine hq_icmp_eq (tgt := 20) C rv1 (by decide : rg 40) dX12_octet_11 (by decide) (fun h => ?_) (fun h => ?_)
    · have hw := hw.1 h
      refine cb_X12_octet_20 v1 rv1 v2 rv2 C hw hs (lv_sub hl [0, 1, 2] rfl) 
    · have hw := hw.2 h
      refine lv_iload_n hx hb dX12_octet_14 rfl (lv_at hl 1 rfl) ?_
      refine hq_bipush C dX12_octet_15 (by decide) ?_
      refine hq_icmp_ne (tgt := 24) C rv1 (by decide : rg 41) dX12_octet_17 (by decide) (fun h => ?_) (fun h => ?_)
      · have hw := hw.1 h
        refine hq_iconst C dX12_octet_24 ?_
        refine cb_X12_octet_25 v1 rv1 v2 rv2 0 (by decide) C hw hs (lv_sub hl [0, 1, 2] rfl) 
      · have hw := hw.2 h
        refine cb_X12_octet_20 v1 rv1 v2 rv2 C hw hs (lv_sub hl [0, 1, 2] rfl) 
theorem iX12_coded_12 : ∀ w ∈ u_ws RX12 TX12 57, w ∈ wsX12_coded := fun w h => List.mem_cons_of_mem _ (List.mem_append_right _ h)
set_option maxRecDepth 20000 in
theorem fX12_coded_99 : hq_fl vwCl wsX12_coded RX12 99 12 48 true (.array .int) := ⟨RX12, TX12, 57, tyX12, rfl, by decide, iX12_coded_12, by decide +kernel, rfl, tyX12_ok 48 (by decide), tyX12_ok, nmX12⟩
set_option maxRecDepth 20000 in
theorem fX12_coded_267 : hq_fl vwCl wsX12_coded RX12 267 12 49 false .int := ⟨RX12, TX12, 57, tyX12, rfl, by decide, iX12_coded_12, by decide +kernel, rfl, tyX12_ok 49 (by decide), tyX12_ok, nmX12⟩
set_option maxRecDepth 20000 in
theorem kX12_coded_151 : Cond.constantLong RX12 151 256 ∈ wsX12_coded := by decide +kernel
set_option maxRecDepth 20000 in
theorem kX12_coded_393 : Cond.constantLong RX12 393 (-1) ∈ wsX12_coded := by decide +kernel
set_option maxRecDepth 20000 in
theorem kX12_coded_395 : Cond.constantLong RX12 395 8 ∈ wsX12_coded := by decide +kernel
set_option maxHeartbeats 4000000 in
set_option maxRecDepth 100000 in
theorem cl_X12_coded_37 {p : Program} {l : Launch} {e : Env} {s : State} {m : MethodId} {args : Array Value} {below : List Frame} {meth : Method} {c : Code} {D : va_G} {cA : Nat → ClassId} {B : Nat} {Z : State → Prop}   {k : Int → hq_M → Prop} (C : hq_C vwCl p m c cX12_coded 6 s args wsX12_coded RX12 meth (some .long) D cA (hq_in B YM.length) Z)
     : ∀ (n : Nat) (v3 : Int) (rv3 : rl v3) (v5 : Int) (rv5 : rg v5) (M : hq_M) (H : Heap) (locs : List Loc) (ls : Array Slot), l_X12_coded_37 k n v3 v5 M → hq_S vwCl SLx D cA YM B s.heap M H locs → lv_has ls 6 [(0, .ref (B + 0)), (3, .long (w6 v3)), (5, .int (w3 v5))] → W p l e ({ frames := 2, cells := 0, slots := 0, locals := 46 } : Room) s m args below meth c H locs 0 0 (MQ below (hq_Q vwCl SLx D cA YM B (hq_ql k)) args s 0 0 (hq_in B YM.length)) (F0 m 37 ls []) := by
  have hx := C.1.1
  have hb := C.1.2.1
  intro n
  induction n with
  | zero => intro v3 rv3 v5 rv5 M H locs ls hw hs hl; exact hw.elim
  | succ n ih =>
    intro v3 rv3 v5 rv5 M H locs ls hw hs hl
    unfold l_X12_coded_37 at hw
    refine lv_iload hx hb dX12_coded_37 (lv_at hl 2 rfl) ?_
    refine lv_aload_n hx hb dX12_coded_39 rfl (lv_at hl 0 rfl) ?_
    refine hq_getI (o := 0) C hs fX12_coded_267 tkM_0 (by decide) rfl dX12_coded_40 (fun g1 => ?_)
    refine hq_icmp_ge (tgt := 67) C rv5 g1 dX12_coded_43 (by decide) (fun h => ?_) (fun h => ?_)
    · have hw := hw.1 h
      refine lv_lload_n hx hb dX12_coded_67 rfl (lv_at hl 1 rfl) ?_
      exact hq_lret C hs rv3 hw dX12_coded_68
    · have hw := hw.2 h
      refine hq_ldc2 (z := 256) C kX12_coded_151 (by decide) dX12_coded_46 ?_
      refine lv_lload_n hx hb dX12_coded_49 rfl (lv_at hl 1 rfl) ?_
      obtain ⟨g2, hw⟩ := hw
      refine hq_lmul C dX12_coded_50 ?_
      refine lv_aload_n hx hb dX12_coded_51 rfl (lv_at hl 0 rfl) ?_
      refine hq_getA (o := 0) C hs fX12_coded_99 tkM_0 (by decide) rfl dX12_coded_52 ?_
      refine lv_iload hx hb dX12_coded_55 (lv_at hl 2 rfl) ?_
      obtain ⟨g3, hw⟩ := hw
      refine hq_iald (o := 28) C hs tkM_28 rv5 g3 dX12_coded_57 (fun g4 => ?_)
      refine hq_i2l (y := 0) C g4 dX12_coded_58 ?_
      obtain ⟨g5, hw⟩ := hw
      refine hq_ladd C dX12_coded_59 ?_
      refine hq_nmL (fun x6 ex6 => ?_)
      have hw := hw x6 ex6
      have rx6 : rl x6 := by rw [ex6]; exact g5
      refine lv_lstore_n (lv' := [(3, .long (w6 x6)), (0, .ref (B + 0)), (5, .int (w3 v5))]) hx hb dX12_coded_60 rfl hl (by decide) rfl (fun ls hl => ?_)
      obtain ⟨g8, hw⟩ := hw
      refine hq_iinc (k := 2) C dX12_coded_61 hl rfl (by decide) (fun x7 ex7 ls hl => ?_)
      have hw := hw x7 ex7
      have rx7 : rg x7 := by rw [ex7]; exact g8
      have hl : lv_has ls 6 [(5, .int (w3 x7)), (3, .long (w6 x6)), (0, .ref (B + 0))] := hl
      refine hq_goto (tgt := 37) C dX12_coded_64 (by decide) ?_
      exact ih x6 rx6 x7 rx7 _ _ _ _ hw hs (lv_sub hl [2, 1, 0] rfl)
set_option maxHeartbeats 4000000 in
set_option maxRecDepth 100000 in
theorem c_X12_coded (l : Launch) {D : va_G} {cA : Nat → ClassId} {B : Nat} {Z : State → Prop} (hZ : hq_Zo Z (hq_in B YM.length)) (v1 : Int) (rv1 : rg v1) (v2 : Int) (rv2 : rg v2) (M : hq_M) (k : Int → hq_M → Prop) (hw : w_X12_coded v1 v2 M k) : hq_T vwCl SLx l yX12_coded wsX12_coded ({ frames := 2, cells := 0, slots := 0, locals := 46 } : Room) D cA YM B Z [.ref (B + 0), .int (w3 v1), .int (w3 v2)] M (hq_ql k) := by
  refine hq_meth (cc := cX12_coded) (maxL := 6) (ret := (some .long)) (own := RX12) hZ rfl (by decide +kernel) rfl (Nat.le_of_ble_eq_true rfl) ?_
  intro p e s m below meth c ls C hs hl
  have hx := C.1.1
  have hb := C.1.2.1
  unfold w_X12_coded at hw
  have hl : lv_has ls 6 [(0, .ref (B + 0)), (1, .int (w3 v1)), (2, .int (w3 v2))] := hl
  refine lv_iload_n hx hb dX12_coded_0 rfl (lv_at hl 1 rfl) ?_
  refine hq_i2l (y := 0) C rv1 dX12_coded_1 ?_
  refine hq_lconst (z := 1) C dX12_coded_2 rfl ?_
  refine hq_ldc2 (z := 8) C kX12_coded_395 (by decide) dX12_coded_3 ?_
  refine hq_cS (n := 3) C hs (c_X12_in l C.2.2.2.2.1 v1 (rg_rl rv1) 1 (by decide : rl 1) 8 (by decide : rl 8) _ _ hw) gX12_coded_X12_in rfl ⟨rfl, rfl⟩ (by decide +kernel) ⟨Nat.le_of_ble_eq_true rfl, Nat.le_of_ble_eq_true rfl⟩ rfl hl.1 rfl (Nat.le_of_ble_eq_true rfl) dX12_coded_6 (hq_kz (fun x1 M9 H locs rx1 hw hs => ?_))
  obtain ⟨e9, hw⟩ := hw; rw [e9] at hs
  refine hq_if_eq (tgt := 16) C (rb_rg rx1) dX12_coded_9 (by decide) (fun h => ?_) (fun h => ?_)
  · have hw := hw.1 h
    refine hq_ldc2 (z := (-1)) C kX12_coded_393 (by decide) dX12_coded_16 ?_
    exact hq_lret C hs (by decide : rl (-1)) hw dX12_coded_19
  · have hw := hw.2 h
    refine lv_iload_n hx hb dX12_coded_12 rfl (lv_at hl 2 rfl) ?_
    refine hq_if_ge (tgt := 20) C rv2 dX12_coded_13 (by decide) (fun h => ?_) (fun h => ?_)
    · have hw := hw.1 h
      refine lv_aload_n hx hb dX12_coded_20 rfl (lv_at hl 0 rfl) ?_
      refine hq_iconst C dX12_coded_21 ?_
      refine hq_putI (o := 0) C hs fX12_coded_267 tkM_0 (by decide) rfl (by decide : rg 0) dX12_coded_22 (fun M2 eM2 H locs hs => ?_)
      have hw := hw M2 eM2
      refine lv_aload_n hx hb dX12_coded_25 rfl (lv_at hl 0 rfl) ?_
      refine hq_iconst C dX12_coded_26 ?_
      refine lv_iload_n hx hb dX12_coded_27 rfl (lv_at hl 1 rfl) ?_
      refine lv_iload_n hx hb dX12_coded_28 rfl (lv_at hl 2 rfl) ?_
      refine hq_cV (n := 3) (ci := 12) (o := 0) (qc := (TX12, 57)) C hs (c_X12_laysNumber l C.2.2.2.2.1 0 (by decide : rg 0) v1 rv1 v2 rv2 _ _ hw) gX12_coded_X12_laysNumber rfl ⟨rfl, rfl⟩ (by decide +kernel) ⟨Nat.le_of_ble_eq_true rfl, Nat.le_of_ble_eq_true rfl⟩ tkM_0 (by decide) rfl rfl hl.1 rfl (Nat.le_of_ble_eq_true rfl) dX12_coded_29 (hq_kv (fun M3 H locs hw hs => ?_))
      refine hq_lconst (z := 0) C dX12_coded_32 rfl ?_
      refine lv_lstore_n (lv' := [(3, .long (w6 0)), (0, .ref (B + 0)), (1, .int (w3 v1)), (2, .int (w3 v2))]) hx hb dX12_coded_33 rfl hl (by decide) rfl (fun ls hl => ?_)
      refine hq_iconst C dX12_coded_34 ?_
      refine lv_istore (lv' := [(5, .int (w3 0)), (3, .long (w6 0)), (0, .ref (B + 0)), (1, .int (w3 v1)), (2, .int (w3 v2))]) hx hb dX12_coded_35 hl (by decide) rfl (fun ls hl => ?_)
      obtain ⟨n9, hw⟩ := hw
      refine cl_X12_coded_37  C  n9 0 (by decide : rl 0) 0 (by decide : rg 0) _ _ _ _ hw hs (lv_sub hl [2, 1, 0] rfl)
    · have hw := hw.2 h
      refine hq_ldc2 (z := (-1)) C kX12_coded_393 (by decide) dX12_coded_16 ?_
      exact hq_lret C hs (by decide : rl (-1)) hw dX12_coded_19
theorem iX12_number_12 : ∀ w ∈ u_ws RX12 TX12 57, w ∈ wsX12_number := fun w h => List.mem_cons_of_mem _ (List.mem_append_right _ h)
set_option maxRecDepth 20000 in
theorem fX12_number_29 : hq_fl vwCl wsX12_number RX12 29 12 8 true (.array .int) := ⟨RX12, TX12, 57, tyX12, rfl, by decide, iX12_number_12, by decide +kernel, rfl, tyX12_ok 8 (by decide), tyX12_ok, nmX12⟩
set_option maxRecDepth 20000 in
theorem fX12_number_135 : hq_fl vwCl wsX12_number RX12 135 12 9 false .int := ⟨RX12, TX12, 57, tyX12, rfl, by decide, iX12_number_12, by decide +kernel, rfl, tyX12_ok 9 (by decide), tyX12_ok, nmX12⟩
set_option maxRecDepth 20000 in
theorem kX12_number_395 : Cond.constantLong RX12 395 8 ∈ wsX12_number := by decide +kernel
set_option maxRecDepth 20000 in
theorem kX12_number_397 : Cond.constantLong RX12 397 2147483647 ∈ wsX12_number := by decide +kernel
set_option maxRecDepth 20000 in
theorem kX12_number_399 : Cond.constantLong RX12 399 4294967296 ∈ wsX12_number := by decide +kernel
set_option maxRecDepth 20000 in
theorem kX12_number_401 : Cond.constantLong RX12 401 128 ∈ wsX12_number := by decide +kernel
set_option maxHeartbeats 4000000 in
set_option maxRecDepth 100000 in
theorem cb_X12_number_152 {p : Program} {l : Launch} {e : Env} {s : State} {m : MethodId} {args : Array Value} {below : List Frame} {meth : Method} {c : Code} {D : va_G} {cA : Nat → ClassId} {B : Nat} {Z : State → Prop} (v4 : Int) (rv4 : rl v4) (v8 : Int) (rv8 : rg v8) (t0 : Int) (rt0 : rl t0) {k_71 : Int → Int → Int → Prop} {k : Int → Prop} {M : hq_M} {H : Heap} {locs : List Loc} {ls : Array Slot} (C : hq_C vwCl p m c cX12_number 9 s args wsX12_number RX12 meth (some .int) D cA (hq_in B YM.length) Z)
    (hw : b_X12_number_152 v4 v8 t0 k_71 k M) (hs : hq_S vwCl SLx D cA YM B s.heap M H locs) (hl : lv_has ls 9 [(0, .ref (B + 0)), (4, .long (w6 v4)), (8, .int (w3 v8))])
    (hk_71 : ∀ (y4 : Int) (ry4 : rl y4) (y6 : Int) (ry6 : rl y6) (y8 : Int) (ry8 : rg y8) (H : Heap) (locs : List Loc) (ls : Array Slot), k_71 y4 y6 y8 → hq_S vwCl SLx D cA YM B s.heap M H locs → lv_has ls 9 [(0, .ref (B + 0)), (4, .long (w6 y4)), (6, .long (w6 y6)), (8, .int (w3 y8))] → W p l e ({ frames := 1, cells := 0, slots := 0, locals := 25 } : Room) s m args below meth c H locs 0 0 (MQ below (hq_Q vwCl SLx D cA YM B (hq_qi (fun z M' => M' = M ∧ k z))) args s 0 0 (hq_in B YM.length)) (F0 m 71 ls [])) : W p l e ({ frames := 1, cells := 0, slots := 0, locals := 25 } : Room) s m args below meth c H locs 0 0 (MQ below (hq_Q vwCl SLx D cA YM B (hq_qi (fun z M' => M' = M ∧ k z))) args s 0 0 (hq_in B YM.length)) (F0 m 152 ls [.long (w6 t0)]) := by
  have hx := C.1.1
  have hb := C.1.2.1
  unfold b_X12_number_152 at hw
  refine lv_lstore (lv' := [(6, .long (w6 t0)), (0, .ref (B + 0)), (4, .long (w6 v4)), (8, .int (w3 v8))]) hx hb dX12_number_152 hl (by decide) rfl (fun ls hl => ?_)
  obtain ⟨g2, hw⟩ := hw
  refine hq_iinc (k := 3) C dX12_number_154 hl rfl (by decide) (fun x1 ex1 ls hl => ?_)
  have hw := hw x1 ex1
  have rx1 : rg x1 := by rw [ex1]; exact g2
  have hl : lv_has ls 9 [(8, .int (w3 x1)), (6, .long (w6 t0)), (0, .ref (B + 0)), (4, .long (w6 v4))] := hl
  refine hq_goto (tgt := 71) C dX12_number_157 (by decide) ?_
  exact hk_71 v4 rv4 t0 rt0 x1 rx1 _ _ _ hw hs (lv_sub hl [2, 3, 1, 0] rfl)
set_option maxHeartbeats 4000000 in
set_option maxRecDepth 100000 in
theorem cb_X12_number_129 {p : Program} {l : Launch} {e : Env} {s : State} {m : MethodId} {args : Array Value} {below : List Frame} {meth : Method} {c : Code} {D : va_G} {cA : Nat → ClassId} {B : Nat} {Z : State → Prop} (v6 : Int) (rv6 : rl v6) (v8 : Int) (rv8 : rg v8) (t0 : Int) (rt0 : rl t0) {k_71 : Int → Int → Int → Prop} {k : Int → Prop} {M : hq_M} {H : Heap} {locs : List Loc} {ls : Array Slot} (C : hq_C vwCl p m c cX12_number 9 s args wsX12_number RX12 meth (some .int) D cA (hq_in B YM.length) Z)
    (hw : b_X12_number_129 v6 v8 t0 k_71 k M) (hs : hq_S vwCl SLx D cA YM B s.heap M H locs) (hl : lv_has ls 9 [(0, .ref (B + 0)), (6, .long (w6 v6)), (8, .int (w3 v8))])
    (hk_71 : ∀ (y4 : Int) (ry4 : rl y4) (y6 : Int) (ry6 : rl y6) (y8 : Int) (ry8 : rg y8) (H : Heap) (locs : List Loc) (ls : Array Slot), k_71 y4 y6 y8 → hq_S vwCl SLx D cA YM B s.heap M H locs → lv_has ls 9 [(0, .ref (B + 0)), (4, .long (w6 y4)), (6, .long (w6 y6)), (8, .int (w3 y8))] → W p l e ({ frames := 1, cells := 0, slots := 0, locals := 25 } : Room) s m args below meth c H locs 0 0 (MQ below (hq_Q vwCl SLx D cA YM B (hq_qi (fun z M' => M' = M ∧ k z))) args s 0 0 (hq_in B YM.length)) (F0 m 71 ls [])) : W p l e ({ frames := 1, cells := 0, slots := 0, locals := 25 } : Room) s m args below meth c H locs 0 0 (MQ below (hq_Q vwCl SLx D cA YM B (hq_qi (fun z M' => M' = M ∧ k z))) args s 0 0 (hq_in B YM.length)) (F0 m 129 ls [.long (w6 t0)]) := by
  have hx := C.1.1
  have hb := C.1.2.1
  unfold b_X12_number_129 at hw
  refine lv_lstore (lv' := [(4, .long (w6 t0)), (0, .ref (B + 0)), (6, .long (w6 v6)), (8, .int (w3 v8))]) hx hb dX12_number_129 hl (by decide) rfl (fun ls hl => ?_)
  refine lv_lload hx hb dX12_number_131 (lv_at hl 2 rfl) ?_
  refine hq_ldc2 (z := 2147483647) C kX12_number_397 (by decide) dX12_number_133 ?_
  refine hq_lcmp_le (tgt := 146) C rv6 (by decide : rl 2147483647) dX12_number_136 dX12_number_137 (by decide) (fun h => ?_) (fun h => ?_)
  · have hw := hw.1 h
    refine hq_ldc2 (z := 128) C kX12_number_401 (by decide) dX12_number_146 ?_
    refine lv_lload hx hb dX12_number_149 (lv_at hl 2 rfl) ?_
    obtain ⟨g1, hw⟩ := hw
    refine hq_lmul C dX12_number_151 ?_
    refine cb_X12_number_152 t0 rt0 v8 rv8 (128 * v6) g1 C hw hs (lv_sub hl [1, 0, 3] rfl) hk_71
  · have hw := hw.2 h
    refine hq_ldc2 (z := 4294967296) C kX12_number_399 (by decide) dX12_number_140 ?_
    refine hq_goto (tgt := 152) C dX12_number_143 (by decide) ?_
    refine cb_X12_number_152 t0 rt0 v8 rv8 4294967296 (by decide : rl 4294967296) C hw hs (lv_sub hl [1, 0, 3] rfl) hk_71
set_option maxHeartbeats 4000000 in
set_option maxRecDepth 100000 in
theorem cl_X12_number_71 {p : Program} {l : Launch} {e : Env} {s : State} {m : MethodId} {args : Array Value} {below : List Frame} {meth : Method} {c : Code} {D : va_G} {cA : Nat → ClassId} {B : Nat} {Z : State → Prop}  {k_160 : Int → Int → Int → Prop} {k : Int → Prop} {M : hq_M} (C : hq_C vwCl p m c cX12_number 9 s args wsX12_number RX12 meth (some .int) D cA (hq_in B YM.length) Z)
    (hk_160 : ∀ (y4 : Int) (ry4 : rl y4) (y6 : Int) (ry6 : rl y6) (y8 : Int) (ry8 : rg y8) (H : Heap) (locs : List Loc) (ls : Array Slot), k_160 y4 y6 y8 → hq_S vwCl SLx D cA YM B s.heap M H locs → lv_has ls 9 [(0, .ref (B + 0)), (4, .long (w6 y4)), (6, .long (w6 y6)), (8, .int (w3 y8))] → W p l e ({ frames := 1, cells := 0, slots := 0, locals := 25 } : Room) s m args below meth c H locs 0 0 (MQ below (hq_Q vwCl SLx D cA YM B (hq_qi (fun z M' => M' = M ∧ k z))) args s 0 0 (hq_in B YM.length)) (F0 m 160 ls [])) : ∀ (n : Nat) (v4 : Int) (rv4 : rl v4) (v6 : Int) (rv6 : rl v6) (v8 : Int) (rv8 : rg v8) (H : Heap) (locs : List Loc) (ls : Array Slot), l_X12_number_71 k_160 k M n v4 v6 v8 → hq_S vwCl SLx D cA YM B s.heap M H locs → lv_has ls 9 [(0, .ref (B + 0)), (4, .long (w6 v4)), (6, .long (w6 v6)), (8, .int (w3 v8))] → W p l e ({ frames := 1, cells := 0, slots := 0, locals := 25 } : Room) s m args below meth c H locs 0 0 (MQ below (hq_Q vwCl SLx D cA YM B (hq_qi (fun z M' => M' = M ∧ k z))) args s 0 0 (hq_in B YM.length)) (F0 m 71 ls []) := by
  have hx := C.1.1
  have hb := C.1.2.1
  intro n
  induction n with
  | zero => intro v4 rv4 v6 rv6 v8 rv8 H locs ls hw hs hl; exact hw.elim
  | succ n ih =>
    intro v4 rv4 v6 rv6 v8 rv8 H locs ls hw hs hl
    unfold l_X12_number_71 at hw
    refine lv_iload hx hb dX12_number_71 (lv_at hl 3 rfl) ?_
    refine lv_aload_n hx hb dX12_number_73 rfl (lv_at hl 0 rfl) ?_
    refine hq_getI (o := 0) C hs fX12_number_135 tkM_0 (by decide) rfl dX12_number_74 (fun g1 => ?_)
    refine hq_icmp_ge (tgt := 160) C rv8 g1 dX12_number_77 (by decide) (fun h => ?_) (fun h => ?_)
    · have hw := hw.1 h
      exact hk_160 v4 rv4 v6 rv6 v8 rv8 _ _ _ hw hs (lv_sub hl [0, 1, 2, 3] rfl)
    · have hw := hw.2 h
      refine lv_aload_n hx hb dX12_number_80 rfl (lv_at hl 0 rfl) ?_
      refine hq_getA (o := 0) C hs fX12_number_29 tkM_0 (by decide) rfl dX12_number_81 ?_
      refine lv_iload hx hb dX12_number_84 (lv_at hl 3 rfl) ?_
      obtain ⟨g2, hw⟩ := hw
      refine hq_iald (o := 5) C hs tkM_5 rv8 g2 dX12_number_86 (fun g3 => ?_)
      refine hq_bipush C dX12_number_87 (by decide) ?_
      refine hq_icmp_le (tgt := 160) C g3 (by decide : rg 127) dX12_number_89 (by decide) (fun h => ?_) (fun h => ?_)
      · have hw := hw.1 h
        exact hk_160 v4 rv4 v6 rv6 v8 rv8 _ _ _ hw hs (lv_sub hl [0, 1, 2, 3] rfl)
      · have hw := hw.2 h
        refine lv_lload hx hb dX12_number_92 (lv_at hl 1 rfl) ?_
        refine lv_aload_n hx hb dX12_number_94 rfl (lv_at hl 0 rfl) ?_
        refine hq_getA (o := 0) C hs fX12_number_29 tkM_0 (by decide) rfl dX12_number_95 ?_
        refine lv_iload hx hb dX12_number_98 (lv_at hl 3 rfl) ?_
        obtain ⟨g4, hw⟩ := hw
        refine hq_iald (o := 5) C hs tkM_5 rv8 g4 dX12_number_100 (fun g5 => ?_)
        refine hq_sipush C dX12_number_101 (by decide) ?_
        obtain ⟨g6, hw⟩ := hw
        refine hq_isub C dX12_number_104 ?_
        refine hq_i2l (y := 0) C g6 dX12_number_105 ?_
        refine lv_lload hx hb dX12_number_106 (lv_at hl 2 rfl) ?_
        obtain ⟨g7, hw⟩ := hw
        refine hq_lmul C dX12_number_108 ?_
        obtain ⟨g8, hw⟩ := hw
        refine hq_ladd C dX12_number_109 ?_
        refine hq_nmL (fun x9 ex9 => ?_)
        have hw := hw x9 ex9
        have rx9 : rl x9 := by rw [ex9]; exact g8
        refine lv_lstore (lv' := [(4, .long (w6 x9)), (0, .ref (B + 0)), (6, .long (w6 v6)), (8, .int (w3 v8))]) hx hb dX12_number_110 hl (by decide) rfl (fun ls hl => ?_)
        refine lv_lload hx hb dX12_number_112 (lv_at hl 0 rfl) ?_
        refine hq_ldc2 (z := 2147483647) C kX12_number_397 (by decide) dX12_number_114 ?_
        refine hq_lcmp_le (tgt := 127) C rx9 (by decide : rl 2147483647) dX12_number_117 dX12_number_118 (by decide) (fun h => ?_) (fun h => ?_)
        · have hw := hw.1 h
          refine lv_lload hx hb dX12_number_127 (lv_at hl 0 rfl) ?_
          refine cb_X12_number_129 v6 rv6 v8 rv8 x9 rx9 C hw hs (lv_sub hl [1, 2, 3] rfl) ?_
          · intro y4 ry4 y6 ry6 y8 ry8 H locs ls hw hs hl
            exact ih y4 ry4 y6 ry6 y8 ry8 _ _ _ hw hs (lv_sub hl [0, 1, 2, 3] rfl)
        · have hw := hw.2 h
          refine hq_ldc2 (z := 4294967296) C kX12_number_399 (by decide) dX12_number_121 ?_
          refine hq_goto (tgt := 129) C dX12_number_124 (by decide) ?_
          refine cb_X12_number_129 v6 rv6 v8 rv8 4294967296 (by decide : rl 4294967296) C hw hs (lv_sub hl [1, 2, 3] rfl) ?_
          · intro y4 ry4 y6 ry6 y8 ry8 H locs ls hw hs hl
            exact ih y4 ry4 y6 ry6 y8 ry8 _ _ _ hw hs (lv_sub hl [0, 1, 2, 3] rfl)
set_option maxHeartbeats 4000000 in
set_option maxRecDepth 100000 in
theorem c_X12_number (l : Launch) {D : va_G} {cA : Nat → ClassId} {B : Nat} {Z : State → Prop} (hZ : hq_Zo Z (hq_in B YM.length)) (v1 : Int) (rv1 : rg v1) (M : hq_M) (k : Int → Prop) (hw : w_X12_number v1 M k) : hq_T vwCl SLx l yX12_number wsX12_number ({ frames := 1, cells := 0, slots := 0, locals := 25 } : Room) D cA YM B Z [.ref (B + 0), .int (w3 v1)] M (hq_qi (fun z M' => M' = M ∧ k z)) := by
  refine hq_meth (cc := cX12_number) (maxL := 9) (ret := (some .int)) (own := RX12) hZ rfl (by decide +kernel) rfl (Nat.le_of_ble_eq_true rfl) ?_
  intro p e s m below meth c ls C hs hl
  have hx := C.1.1
  have hb := C.1.2.1
  unfold w_X12_number at hw
  have hl : lv_has ls 9 [(0, .ref (B + 0)), (1, .int (w3 v1))] := hl
  refine lv_iload_n hx hb dX12_number_0 rfl (lv_at hl 1 rfl) ?_
  refine hq_i2l (y := 0) C rv1 dX12_number_1 ?_
  refine hq_lconst (z := 1) C dX12_number_2 rfl ?_
  refine hq_ldc2 (z := 8) C kX12_number_395 (by decide) dX12_number_3 ?_
  refine hq_cS (n := 3) C hs (c_X12_in l C.2.2.2.2.1 v1 (rg_rl rv1) 1 (by decide : rl 1) 8 (by decide : rl 8) _ _ hw) gX12_number_X12_in rfl ⟨rfl, rfl⟩ (by decide +kernel) ⟨Nat.le_of_ble_eq_true rfl, Nat.le_of_ble_eq_true rfl⟩ rfl hl.1 rfl (Nat.le_of_ble_eq_true rfl) dX12_number_6 (hq_kz (fun x1 M9 H locs rx1 hw hs => ?_))
  obtain ⟨e9, hw⟩ := hw; rw [e9] at hs
  refine hq_if_ne (tgt := 14) C (rb_rg rx1) dX12_number_9 (by decide) (fun h => ?_) (fun h => ?_)
  · have hw := hw.1 h
    refine lv_aload_n hx hb dX12_number_14 rfl (lv_at hl 0 rfl) ?_
    refine hq_getI (o := 0) C hs fX12_number_135 tkM_0 (by decide) rfl dX12_number_15 (fun g2 => ?_)
    refine hq_if_ne (tgt := 24) C g2 dX12_number_18 (by decide) (fun h => ?_) (fun h => ?_)
    · have hw := hw.1 h
      refine hq_iconst C dX12_number_24 ?_
      refine lv_iload_n hx hb dX12_number_25 rfl (lv_at hl 1 rfl) ?_
      obtain ⟨g3, g4, hw⟩ := hw
      refine hq_ishl C g3 dX12_number_26 ?_
      refine hq_iconst C dX12_number_27 ?_
      obtain ⟨g5, hw⟩ := hw
      refine hq_isub C dX12_number_28 ?_
      refine hq_nm (fun x6 ex6 => ?_)
      have hw := hw x6 ex6
      have rx6 : rg x6 := by rw [ex6]; exact g5
      refine lv_istore_n (lv' := [(2, .int (w3 x6)), (0, .ref (B + 0)), (1, .int (w3 v1))]) hx hb dX12_number_29 rfl hl (by decide) rfl (fun ls hl => ?_)
      refine lv_aload_n hx hb dX12_number_30 rfl (lv_at hl 1 rfl) ?_
      refine hq_getA (o := 0) C hs fX12_number_29 tkM_0 (by decide) rfl dX12_number_31 ?_
      refine hq_iconst C dX12_number_34 ?_
      obtain ⟨g7, hw⟩ := hw
      refine hq_iald (o := 5) C hs tkM_5 (by decide : rg 0) g7 dX12_number_35 (fun g8 => ?_)
      refine lv_iload_n hx hb dX12_number_36 rfl (lv_at hl 0 rfl) ?_
      refine hq_iconst C dX12_number_37 ?_
      obtain ⟨g9, hw⟩ := hw
      refine hq_iadd C dX12_number_38 ?_
      obtain ⟨g10, hw⟩ := hw
      refine hq_irem C g8 g9 g10 dX12_number_39 ?_
      refine hq_nm (fun x11 ex11 => ?_)
      have hw := hw x11 ex11
      have rx11 : rg x11 := by rw [ex11]; exact (hq_rrem g8 g9 g10)
      refine lv_istore_n (lv' := [(3, .int (w3 x11)), (2, .int (w3 x6)), (0, .ref (B + 0)), (1, .int (w3 v1))]) hx hb dX12_number_40 rfl hl (by decide) rfl (fun ls hl => ?_)
      refine lv_iload_n hx hb dX12_number_41 rfl (lv_at hl 0 rfl) ?_
      refine lv_iload_n hx hb dX12_number_42 rfl (lv_at hl 1 rfl) ?_
      refine hq_icmp_ge (tgt := 61) C rx11 rx6 dX12_number_43 (by decide) (fun h => ?_) (fun h => ?_)
      · have hw := hw.1 h
        refine lv_iload_n hx hb dX12_number_61 rfl (lv_at hl 1 rfl) ?_
        refine hq_i2l (y := 0) C rx6 dX12_number_62 ?_
        refine lv_lstore (lv' := [(4, .long (w6 x6)), (3, .int (w3 x11)), (2, .int (w3 x6)), (0, .ref (B + 0)), (1, .int (w3 v1))]) hx hb dX12_number_63 hl (by decide) rfl (fun ls hl => ?_)
        refine hq_lconst (z := 1) C dX12_number_65 rfl ?_
        refine lv_lstore (lv' := [(6, .long (w6 1)), (4, .long (w6 x6)), (3, .int (w3 x11)), (2, .int (w3 x6)), (0, .ref (B + 0)), (1, .int (w3 v1))]) hx hb dX12_number_66 hl (by decide) rfl (fun ls hl => ?_)
        refine hq_iconst C dX12_number_68 ?_
        refine lv_istore (lv' := [(8, .int (w3 1)), (6, .long (w6 1)), (4, .long (w6 x6)), (3, .int (w3 x11)), (2, .int (w3 x6)), (0, .ref (B + 0)), (1, .int (w3 v1))]) hx hb dX12_number_69 hl (by decide) rfl (fun ls hl => ?_)
        obtain ⟨n9, hw⟩ := hw
        refine cl_X12_number_71  C ?_ n9 x6 (rg_rl rx6) 1 (by decide : rl 1) 1 (by decide : rg 1) _ _ _ hw hs (lv_sub hl [5, 2, 1, 0] rfl)
        · intro x12 rx12 x13 rx13 x14 rx14 H locs ls hw hs hl
          refine lv_iload hx hb dX12_number_160 (lv_at hl 3 rfl) ?_
          refine lv_aload_n hx hb dX12_number_162 rfl (lv_at hl 0 rfl) ?_
          refine hq_getI (o := 0) C hs fX12_number_135 tkM_0 (by decide) rfl dX12_number_163 (fun g15 => ?_)
          refine hq_iconst C dX12_number_166 ?_
          obtain ⟨g16, hw⟩ := hw
          refine hq_isub C dX12_number_167 ?_
          refine hq_icmp_eq (tgt := 174) C rx14 g16 dX12_number_168 (by decide) (fun h => ?_) (fun h => ?_)
          · have hw := hw.1 h
            refine lv_lload hx hb dX12_number_174 (lv_at hl 1 rfl) ?_
            refine lv_aload_n hx hb dX12_number_176 rfl (lv_at hl 0 rfl) ?_
            refine hq_getA (o := 0) C hs fX12_number_29 tkM_0 (by decide) rfl dX12_number_177 ?_
            refine lv_iload hx hb dX12_number_180 (lv_at hl 3 rfl) ?_
            obtain ⟨g17, hw⟩ := hw
            refine hq_iald (o := 5) C hs tkM_5 rx14 g17 dX12_number_182 (fun g18 => ?_)
            refine hq_i2l (y := 0) C g18 dX12_number_183 ?_
            refine lv_lload hx hb dX12_number_184 (lv_at hl 2 rfl) ?_
            obtain ⟨g19, hw⟩ := hw
            refine hq_lmul C dX12_number_186 ?_
            obtain ⟨g20, hw⟩ := hw
            refine hq_ladd C dX12_number_187 ?_
            refine hq_nmL (fun x21 ex21 => ?_)
            have hw := hw x21 ex21
            have rx21 : rl x21 := by rw [ex21]; exact g20
            refine lv_lstore (lv' := [(4, .long (w6 x21)), (0, .ref (B + 0)), (6, .long (w6 x13)), (8, .int (w3 x14))]) hx hb dX12_number_188 hl (by decide) rfl (fun ls hl => ?_)
            refine lv_lload hx hb dX12_number_190 (lv_at hl 0 rfl) ?_
            refine hq_ldc2 (z := 2147483647) C kX12_number_397 (by decide) dX12_number_192 ?_
            refine hq_lcmp_le (tgt := 204) C rx21 (by decide : rl 2147483647) dX12_number_195 dX12_number_196 (by decide) (fun h => ?_) (fun h => ?_)
            · have hw := hw.1 h
              refine lv_lload hx hb dX12_number_204 (lv_at hl 0 rfl) ?_
              obtain ⟨g22, hw⟩ := hw
              refine hq_l2i (y := 0) C g22 dX12_number_206 ?_
              exact hq_iret C hs g22 ⟨rfl, hw⟩ dX12_number_207
            · have hw := hw.2 h
              refine hq_bipush C dX12_number_199 (by decide) ?_
              refine hq_goto (tgt := 207) C dX12_number_201 (by decide) ?_
              exact hq_iret C hs (by decide : rg (-3)) ⟨rfl, hw⟩ dX12_number_207
          · have hw := hw.2 h
            refine hq_bipush C dX12_number_171 (by decide) ?_
            exact hq_iret C hs (by decide : rg (-2)) ⟨rfl, hw⟩ dX12_number_173
      · have hw := hw.2 h
        refine lv_aload_n hx hb dX12_number_46 rfl (lv_at hl 2 rfl) ?_
        refine hq_getI (o := 0) C hs fX12_number_135 tkM_0 (by decide) rfl dX12_number_47 (fun g23 => ?_)
        refine hq_iconst C dX12_number_50 ?_
        refine hq_icmp_ne (tgt := 58) C g23 (by decide : rg 1) dX12_number_51 (by decide) (fun h => ?_) (fun h => ?_)
        · have hw := hw.1 h
          refine hq_bipush C dX12_number_58 (by decide) ?_
          exact hq_iret C hs (by decide : rg (-2)) ⟨rfl, hw⟩ dX12_number_60
        · have hw := hw.2 h
          refine lv_iload_n hx hb dX12_number_54 rfl (lv_at hl 0 rfl) ?_
          refine hq_goto (tgt := 60) C dX12_number_55 (by decide) ?_
          exact hq_iret C hs rx11 ⟨rfl, hw⟩ dX12_number_60
    · have hw := hw.2 h
      refine hq_bipush C dX12_number_21 (by decide) ?_
      exact hq_iret C hs (by decide : rg (-2)) ⟨rfl, hw⟩ dX12_number_23
  · have hw := hw.2 h
    refine hq_iconst C dX12_number_12 ?_
    exact hq_iret C hs (by decide : rg (-1)) ⟨rfl, hw⟩ dX12_number_13
