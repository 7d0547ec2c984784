theorem iX11_quits_0 : ∀ w ∈ u_ws RX0 TX0 8, w ∈ wsX11_quits := fun w h => List.mem_cons_of_mem _ (List.mem_append_left _ (List.mem_append_left _ (List.mem_append_left _ (List.mem_append_right _ h))))
theorem iX11_quits_11 : ∀ w ∈ u_ws RX11 TX11 11, w ∈ wsX11_quits := fun w h => List.mem_cons_of_mem _ (List.mem_append_left _ (List.mem_append_left _ (List.mem_append_left _ (List.mem_append_left _ (List.mem_append_right _ h)))))
set_option maxRecDepth 20000 in
theorem fX11_quits_46 : hq_fl vwCl wsX11_quits RX11 46 11 4 true (.object "HeadTables$Letters") := ⟨RX11, TX11, 11, tyX11, rfl, by decide, iX11_quits_11, by decide +kernel, rfl, tyX11_ok 4 (by decide), tyX11_ok, nmX11⟩
set_option maxRecDepth 20000 in
theorem fX11_quits_62 : hq_fl vwCl wsX11_quits RX11 62 11 6 true (.object "HeadTables$Reader") := ⟨RX11, TX11, 11, tyX11, rfl, by decide, iX11_quits_11, by decide +kernel, rfl, tyX11_ok 6 (by decide), tyX11_ok, nmX11⟩
set_option maxRecDepth 20000 in
theorem fX11_quits_216 : hq_fl vwCl wsX11_quits RX11 216 0 6 false .int := ⟨RX0, TX0, 8, tyX0, rfl, by decide, iX11_quits_0, by decide +kernel, rfl, tyX0_ok 6 (by decide), tyX0_ok, nmX0⟩
set_option maxRecDepth 20000 in
theorem fX11_quits_219 : hq_fl vwCl wsX11_quits RX11 219 0 5 false .int := ⟨RX0, TX0, 8, tyX0, rfl, by decide, iX11_quits_0, by decide +kernel, rfl, tyX0_ok 5 (by decide), tyX0_ok, nmX0⟩
set_option maxHeartbeats 4000000 in
set_option maxRecDepth 100000 in
theorem c_X11_quits (l : Launch) {D : va_G} {cA : Nat → ClassId} {B : Nat} {Z : State → Prop} (hZ : hq_Zo Z (hq_in B YC.length)) (v1 : Int) (rv1 : rg v1) (M : hq_M) (k : Int → hq_M → Prop) (hw : w_X11_quits v1 M k) : hq_T vwCl SLx l yX11_quits wsX11_quits ({ frames := 3, cells := 0, slots := 0, locals := 68 } : Room) D cA YC B Z [.ref (B + 0), .int (w3 v1)] M (hq_qi k) := by
  refine hq_meth (cc := cX11_quits) (maxL := 3) (ret := (some .int)) (own := RX11) hZ rfl (by decide +kernel) rfl (Nat.le_of_ble_eq_true rfl) ?_
  intro p e s m below meth c ls C hs hl
  have hx := C.1.1
  have hb := C.1.2.1
  unfold w_X11_quits at hw
  have hl : lv_has ls 3 [(0, .ref (B + 0)), (1, .int (w3 v1))] := hl
  refine lv_aload_n hx hb dX11_quits_0 rfl (lv_at hl 0 rfl) ?_
  refine hq_getA (o := 0) C hs fX11_quits_46 tkC_0 (by decide) rfl dX11_quits_1 ?_
  refine lv_iload_n hx hb dX11_quits_4 rfl (lv_at hl 1 rfl) ?_
  refine hq_cV (n := 1) (ci := 1) (o := 168) (qc := (TX1, 2)) C hs (c_X1_at l C.2.2.2.2.1 v1 rv1 _ _ hw) gX11_quits_X1_at rfl ⟨rfl, rfl⟩ (by decide +kernel) ⟨Nat.le_of_ble_eq_true rfl, Nat.le_of_ble_eq_true rfl⟩ tkC_168 (by decide) rfl rfl hl.1 rfl (Nat.le_of_ble_eq_true rfl) dX11_quits_5 (hq_kr (fun M9 H locs hw hs => ?_) (fun o1 M9 H locs ho1 hw hs => ?_))
  · obtain ⟨e9, hw⟩ := hw; rw [e9] at hs
    have hw := hw.1 rfl
    refine lv_astore_nN (lv' := [(2, .null), (0, .ref (B + 0)), (1, .int (w3 v1))]) hx hb dX11_quits_8 rfl hl (by decide) rfl (fun ls hl => ?_)
    refine lv_aload_nN hx hb dX11_quits_9 rfl (lv_at hl 0 rfl) ?_
    refine lv_ifnonnullN hx hb dX11_quits_10 ?_
    refine hq_iconst C dX11_quits_13 ?_
    exact hq_iret C hs (by decide : rg (-1)) hw dX11_quits_14
  · obtain ⟨e9, hw⟩ := hw; rw [e9] at hs
    have hw := hw.2 o1 rfl
    refine lv_astore_n (lv' := [(2, .ref (B + o1)), (0, .ref (B + 0)), (1, .int (w3 v1))]) hx hb dX11_quits_8 rfl hl (by decide) rfl (fun ls hl => ?_)
    refine lv_aload_n hx hb dX11_quits_9 rfl (lv_at hl 0 rfl) ?_
    refine lv_ifnonnull (tgt := 15) hx hb dX11_quits_10 (by decide) ?_
    refine lv_aload_n hx hb dX11_quits_15 rfl (lv_at hl 0 rfl) ?_
    refine hq_getI (o := o1) C hs fX11_quits_216 ho1 (by decide) rfl dX11_quits_16 (fun g3 => ?_)
    refine hq_iconst C dX11_quits_19 ?_
    refine hq_icmp_eq (tgt := 31) C g3 (by decide : rg 2) dX11_quits_20 (by decide) (fun h => ?_) (fun h => ?_)
    · have hw := hw.1 h
      refine hq_bipush C dX11_quits_31 (by decide) ?_
      exact hq_iret C hs (by decide : rg (-2)) hw dX11_quits_33
    · have hw := hw.2 h
      refine lv_aload_n hx hb dX11_quits_23 rfl (lv_at hl 0 rfl) ?_
      refine hq_getI (o := o1) C hs fX11_quits_216 ho1 (by decide) rfl dX11_quits_24 (fun g4 => ?_)
      refine hq_iconst C dX11_quits_27 ?_
      refine hq_icmp_ne (tgt := 34) C g4 (by decide : rg 3) dX11_quits_28 (by decide) (fun h => ?_) (fun h => ?_)
      · have hw := hw.1 h
        refine lv_aload_n hx hb dX11_quits_34 rfl (lv_at hl 1 rfl) ?_
        refine hq_getA (o := 0) C hs fX11_quits_62 tkC_0 (by decide) rfl dX11_quits_35 ?_
        refine lv_aload_n hx hb dX11_quits_38 rfl (lv_at hl 0 rfl) ?_
        refine hq_cV (n := 1) (ci := 5) (o := 384) (qc := (TX5, 3)) C hs (c_X5_cancel l C.2.2.2.2.1 o1 ho1 _ _ hw) gX11_quits_X5_cancel rfl ⟨rfl, rfl⟩ (by decide +kernel) ⟨Nat.le_of_ble_eq_true rfl, Nat.le_of_ble_eq_true rfl⟩ tkC_384 (by decide) rfl rfl hl.1 rfl (Nat.le_of_ble_eq_true rfl) dX11_quits_39 (hq_kv (fun M5 H locs hw hs => ?_))
        refine lv_aload_n hx hb dX11_quits_42 rfl (lv_at hl 0 rfl) ?_
        refine hq_getI (o := o1) C hs fX11_quits_219 ho1 (by decide) rfl dX11_quits_43 (fun g6 => ?_)
        exact hq_iret C hs g6 hw dX11_quits_46
      · have hw := hw.2 h
        refine hq_bipush C dX11_quits_31 (by decide) ?_
        exact hq_iret C hs (by decide : rg (-2)) hw dX11_quits_33
theorem iX11_grows_5 : ∀ w ∈ u_ws RX5 TX5 3, w ∈ wsX11_grows := fun w h => List.mem_cons_of_mem _ (List.mem_append_left _ (List.mem_append_left _ (List.mem_append_right _ h)))
theorem iX11_grows_6 : ∀ w ∈ u_ws RX6 TX6 2, w ∈ wsX11_grows := fun w h => List.mem_cons_of_mem _ (List.mem_append_right _ h)
theorem iX11_grows_9 : ∀ w ∈ u_ws RX9 TX9 7, w ∈ wsX11_grows := fun w h => List.mem_cons_of_mem _ (List.mem_append_left _ (List.mem_append_right _ h))
theorem iX11_grows_11 : ∀ w ∈ u_ws RX11 TX11 11, w ∈ wsX11_grows := fun w h => List.mem_cons_of_mem _ (List.mem_append_left _ (List.mem_append_left _ (List.mem_append_left _ (List.mem_append_right _ h))))
set_option maxRecDepth 20000 in
theorem fX11_grows_62 : hq_fl vwCl wsX11_grows RX11 62 11 6 true (.object "HeadTables$Reader") := ⟨RX11, TX11, 11, tyX11, rfl, by decide, iX11_grows_11, by decide +kernel, rfl, tyX11_ok 6 (by decide), tyX11_ok, nmX11⟩
set_option maxRecDepth 20000 in
theorem fX11_grows_92 : hq_fl vwCl wsX11_grows RX11 92 6 1 false .int := ⟨RX6, TX6, 2, tyX6, rfl, by decide, iX11_grows_6, by decide +kernel, rfl, tyX6_ok 1 (by decide), tyX6_ok, nmX6⟩
set_option maxRecDepth 20000 in
theorem fX11_grows_201 : hq_fl vwCl wsX11_grows RX11 201 5 0 true (.object "HeadTables$Table") := ⟨RX5, TX5, 3, tyX5, rfl, by decide, iX11_grows_5, by decide +kernel, rfl, tyX5_ok 0 (by decide), tyX5_ok, nmX5⟩
set_option maxRecDepth 20000 in
theorem fX11_grows_229 : hq_fl vwCl wsX11_grows RX11 229 9 3 false .int := ⟨RX9, TX9, 7, tyX9, rfl, by decide, iX11_grows_9, by decide +kernel, rfl, tyX9_ok 3 (by decide), tyX9_ok, nmX9⟩
set_option maxRecDepth 20000 in
theorem fX11_grows_232 : hq_fl vwCl wsX11_grows RX11 232 5 2 false .int := ⟨RX5, TX5, 3, tyX5, rfl, by decide, iX11_grows_5, by decide +kernel, rfl, tyX5_ok 2 (by decide), tyX5_ok, nmX5⟩
set_option maxRecDepth 20000 in
theorem fX11_grows_235 : hq_fl vwCl wsX11_grows RX11 235 5 1 true (.object "HeadTables$Row") := ⟨RX5, TX5, 3, tyX5, rfl, by decide, iX11_grows_5, by decide +kernel, rfl, tyX5_ok 1 (by decide), tyX5_ok, nmX5⟩
set_option maxHeartbeats 4000000 in
set_option maxRecDepth 100000 in
theorem c_X11_grows (l : Launch) {D : va_G} {cA : Nat → ClassId} {B : Nat} {Z : State → Prop} (hZ : hq_Zo Z (hq_in B YC.length))  (M : hq_M) (k : Int → hq_M → Prop) (hw : w_X11_grows  M k) : hq_T vwCl SLx l yX11_grows wsX11_grows ({ frames := 2, cells := 0, slots := 0, locals := 47 } : Room) D cA YC B Z [.ref (B + 0)] M (hq_qi k) := by
  refine hq_meth (cc := cX11_grows) (maxL := 2) (ret := (some .int)) (own := RX11) hZ rfl (by decide +kernel) rfl (Nat.le_of_ble_eq_true rfl) ?_
  intro p e s m below meth c ls C hs hl
  have hx := C.1.1
  have hb := C.1.2.1
  unfold w_X11_grows at hw
  have hl : lv_has ls 2 [(0, .ref (B + 0))] := hl
  refine lv_aload_n hx hb dX11_grows_0 rfl (lv_at hl 0 rfl) ?_
  refine hq_getA (o := 0) C hs fX11_grows_62 tkC_0 (by decide) rfl dX11_grows_1 ?_
  refine hq_getR (o := 384) C hs fX11_grows_201 tkC_384 (by decide) rfl dX11_grows_4 ?_
  refine hq_getI (o := 385) C hs fX11_grows_229 tkC_385 (by decide) rfl dX11_grows_7 (fun g1 => ?_)
  refine lv_aload_n hx hb dX11_grows_10 rfl (lv_at hl 0 rfl) ?_
  refine hq_getA (o := 0) C hs fX11_grows_62 tkC_0 (by decide) rfl dX11_grows_11 ?_
  refine hq_getI (o := 384) C hs fX11_grows_232 tkC_384 (by decide) rfl dX11_grows_14 (fun g2 => ?_)
  obtain ⟨g3, hw⟩ := hw
  refine hq_isub C dX11_grows_17 ?_
  refine hq_nm (fun x4 ex4 => ?_)
  have hw := hw x4 ex4
  have rx4 : rg x4 := by rw [ex4]; exact g3
  refine lv_istore_n (lv' := [(1, .int (w3 x4)), (0, .ref (B + 0))]) hx hb dX11_grows_18 rfl hl (by decide) rfl (fun ls hl => ?_)
  refine lv_iload_n hx hb dX11_grows_19 rfl (lv_at hl 0 rfl) ?_
  refine hq_if_gt (tgt := 26) C rx4 dX11_grows_20 (by decide) (fun h => ?_) (fun h => ?_)
  · have hw := hw.1 h
    refine lv_aload_n hx hb dX11_grows_26 rfl (lv_at hl 1 rfl) ?_
    refine hq_getA (o := 0) C hs fX11_grows_62 tkC_0 (by decide) rfl dX11_grows_27 ?_
    refine hq_getR (o := 384) C hs fX11_grows_235 tkC_384 (by decide) rfl dX11_grows_30 ?_
    refine hq_getI (o := 389) C hs fX11_grows_92 tkC_389 (by decide) rfl dX11_grows_33 (fun g5 => ?_)
    refine hq_bipush C dX11_grows_36 (by decide) ?_
    refine hq_icmp_lt (tgt := 44) C g5 (by decide : rg 100) dX11_grows_38 (by decide) (fun h => ?_) (fun h => ?_)
    · have hw := hw.1 h
      refine lv_aload_n hx hb dX11_grows_44 rfl (lv_at hl 1 rfl) ?_
      refine hq_getA (o := 0) C hs fX11_grows_62 tkC_0 (by decide) rfl dX11_grows_45 ?_
      refine hq_getR (o := 384) C hs fX11_grows_235 tkC_384 (by decide) rfl dX11_grows_48 ?_
      refine hq_iconst C dX11_grows_51 ?_
      refine hq_bipush C dX11_grows_52 (by decide) ?_
      refine lv_iload_n hx hb dX11_grows_54 rfl (lv_at hl 0 rfl) ?_
      refine hq_cV (n := 3) (ci := 6) (o := 389) (qc := (TX6, 2)) C hs (c_X6_addInteger l C.2.2.2.2.1 389 tkC_389 0 (by decide : rg 0) 6 (by decide : rg 6) x4 rx4 _ _ hw) gX11_grows_X6_addInteger rfl ⟨rfl, rfl⟩ (by decide +kernel) ⟨Nat.le_of_ble_eq_true rfl, Nat.le_of_ble_eq_true rfl⟩ tkC_389 (by decide) rfl rfl hl.1 rfl (Nat.le_of_ble_eq_true rfl) dX11_grows_55 (hq_kv (fun M6 H locs hw hs => ?_))
      refine lv_aload_n hx hb dX11_grows_58 rfl (lv_at hl 1 rfl) ?_
      refine hq_getA (o := 0) C hs fX11_grows_62 tkC_0 (by decide) rfl dX11_grows_59 ?_
      refine lv_aload_n hx hb dX11_grows_62 rfl (lv_at hl 1 rfl) ?_
      refine hq_getA (o := 0) C hs fX11_grows_62 tkC_0 (by decide) rfl dX11_grows_63 ?_
      refine hq_getR (o := 384) C hs fX11_grows_201 tkC_384 (by decide) rfl dX11_grows_66 ?_
      refine hq_getI (o := 385) C hs fX11_grows_229 tkC_385 (by decide) rfl dX11_grows_69 (fun g7 => ?_)
      refine hq_putI (o := 384) C hs fX11_grows_232 tkC_384 (by decide) rfl g7 dX11_grows_72 (fun M8 eM8 H locs hs => ?_)
      have hw := hw M8 eM8
      refine lv_iload_n hx hb dX11_grows_75 rfl (lv_at hl 0 rfl) ?_
      exact hq_iret C hs rx4 hw dX11_grows_76
    · have hw := hw.2 h
      refine hq_bipush C dX11_grows_41 (by decide) ?_
      exact hq_iret C hs (by decide : rg (-3)) hw dX11_grows_43
  · have hw := hw.2 h
    refine hq_bipush C dX11_grows_23 (by decide) ?_
    exact hq_iret C hs (by decide : rg (-2)) hw dX11_grows_25
theorem iX11_hears_5 : ∀ w ∈ u_ws RX5 TX5 3, w ∈ wsX11_hears := fun w h => List.mem_cons_of_mem _ (List.mem_append_left _ (List.mem_append_left _ (List.mem_append_left _ (List.mem_append_left _ (List.mem_append_left _ (List.mem_append_right _ h))))))
theorem iX11_hears_6 : ∀ w ∈ u_ws RX6 TX6 2, w ∈ wsX11_hears := fun w h => List.mem_cons_of_mem _ (List.mem_append_left _ (List.mem_append_left _ (List.mem_append_left _ (List.mem_append_left _ (List.mem_append_right _ h)))))
theorem iX11_hears_11 : ∀ w ∈ u_ws RX11 TX11 11, w ∈ wsX11_hears := fun w h => List.mem_cons_of_mem _ (List.mem_append_left _ (List.mem_append_left _ (List.mem_append_left _ (List.mem_append_left _ (List.mem_append_left _ (List.mem_append_left _ (List.mem_append_right _ h)))))))
set_option maxRecDepth 20000 in
theorem fX11_hears_46 : hq_fl vwCl wsX11_hears RX11 46 11 4 true (.object "HeadTables$Letters") := ⟨RX11, TX11, 11, tyX11, rfl, by decide, iX11_hears_11, by decide +kernel, rfl, tyX11_ok 4 (by decide), tyX11_ok, nmX11⟩
set_option maxRecDepth 20000 in
theorem fX11_hears_55 : hq_fl vwCl wsX11_hears RX11 55 11 5 true (.object "HeadTables$Writer") := ⟨RX11, TX11, 11, tyX11, rfl, by decide, iX11_hears_11, by decide +kernel, rfl, tyX11_ok 5 (by decide), tyX11_ok, nmX11⟩
set_option maxRecDepth 20000 in
theorem fX11_hears_62 : hq_fl vwCl wsX11_hears RX11 62 11 6 true (.object "HeadTables$Reader") := ⟨RX11, TX11, 11, tyX11, rfl, by decide, iX11_hears_11, by decide +kernel, rfl, tyX11_ok 6 (by decide), tyX11_ok, nmX11⟩
set_option maxRecDepth 20000 in
theorem fX11_hears_92 : hq_fl vwCl wsX11_hears RX11 92 6 1 false .int := ⟨RX6, TX6, 2, tyX6, rfl, by decide, iX11_hears_6, by decide +kernel, rfl, tyX6_ok 1 (by decide), tyX6_ok, nmX6⟩
set_option maxRecDepth 20000 in
theorem fX11_hears_235 : hq_fl vwCl wsX11_hears RX11 235 5 1 true (.object "HeadTables$Row") := ⟨RX5, TX5, 3, tyX5, rfl, by decide, iX11_hears_5, by decide +kernel, rfl, tyX5_ok 1 (by decide), tyX5_ok, nmX5⟩
set_option maxRecDepth 20000 in
theorem mX11_hears_195 : Cond.methodLink RX11 195 Lib.Math.min.name ∈ wsX11_hears ∧ Cond.static Lib.Math.min.name ∈ wsX11_hears ∧ Cond.initialized "java/lang/Math" ∈ wsX11_hears ∧ Cond.code Lib.Math.min.name Lib.Math.min.code 2 (some .int) ∈ wsX11_hears := ⟨by decide +kernel, by decide +kernel, by decide +kernel, by decide +kernel⟩
set_option maxHeartbeats 4000000 in
set_option maxRecDepth 100000 in
theorem cl_X11_hears_30 {p : Program} {l : Launch} {e : Env} {s : State} {m : MethodId} {args : Array Value} {below : List Frame} {meth : Method} {c : Code} {D : va_G} {cA : Nat → ClassId} {B : Nat} {Z : State → Prop} (v2 : Int) (rv2 : rg v2) {k_63 : hq_M → Prop} {k : Int → hq_M → Prop} (C : hq_C vwCl p m c cX11_hears 4 s args wsX11_hears RX11 meth (some .int) D cA (hq_in B YC.length) Z)
    (hk_63 : ∀ (M1 : hq_M) (H : Heap) (locs : List Loc) (ls : Array Slot), k_63 M1 → hq_S vwCl SLx D cA YC B s.heap M1 H locs → lv_has ls 4 [(0, .ref (B + 0)), (2, .int (w3 v2))] → W p l e ({ frames := 2, cells := 0, slots := 0, locals := 45 } : Room) s m args below meth c H locs 0 0 (MQ below (hq_Q vwCl SLx D cA YC B (hq_qi k)) args s 0 0 (hq_in B YC.length)) (F0 m 63 ls [])) : ∀ (n : Nat) (v3 : Int) (rv3 : rg v3) (M : hq_M) (H : Heap) (locs : List Loc) (ls : Array Slot), l_X11_hears_30 v2 k_63 k n v3 M → hq_S vwCl SLx D cA YC B s.heap M H locs → lv_has ls 4 [(0, .ref (B + 0)), (2, .int (w3 v2)), (3, .int (w3 v3))] → W p l e ({ frames := 2, cells := 0, slots := 0, locals := 45 } : Room) s m args below meth c H locs 0 0 (MQ below (hq_Q vwCl SLx D cA YC B (hq_qi k)) args s 0 0 (hq_in B YC.length)) (F0 m 30 ls []) := by
  have hx := C.1.1
  have hb := C.1.2.1
  intro n
  induction n with
  | zero => intro v3 rv3 M H locs ls hw hs hl; exact hw.elim
  | succ n ih =>
    intro v3 rv3 M H locs ls hw hs hl
    unfold l_X11_hears_30 at hw
    refine lv_iload_n hx hb dX11_hears_30 rfl (lv_at hl 2 rfl) ?_
    refine lv_iload_n hx hb dX11_hears_31 rfl (lv_at hl 1 rfl) ?_
    refine hq_icmp_ge (tgt := 63) C rv3 rv2 dX11_hears_32 (by decide) (fun h => ?_) (fun h => ?_)
    · have hw := hw.1 h
      exact hk_63 _ _ _ _ hw hs (lv_sub hl [0, 1] rfl)
    · have hw := hw.2 h
      refine lv_aload_n hx hb dX11_hears_35 rfl (lv_at hl 0 rfl) ?_
      refine hq_getA (o := 0) C hs fX11_hears_55 tkC_0 (by decide) rfl dX11_hears_36 ?_
      refine lv_aload_n hx hb dX11_hears_39 rfl (lv_at hl 0 rfl) ?_
      refine hq_getA (o := 0) C hs fX11_hears_62 tkC_0 (by decide) rfl dX11_hears_40 ?_
      refine hq_getR (o := 384) C hs fX11_hears_235 tkC_384 (by decide) rfl dX11_hears_43 ?_
      refine lv_iload_n hx hb dX11_hears_46 rfl (lv_at hl 2 rfl) ?_
      refine hq_cV (n := 1) (ci := 6) (o := 389) (qc := (TX6, 2)) C hs (c_X6_at l C.2.2.2.2.1 389 tkC_389 v3 rv3 _ _ hw) gX11_hears_X6_at rfl ⟨rfl, rfl⟩ (by decide +kernel) ⟨Nat.le_of_ble_eq_true rfl, Nat.le_of_ble_eq_true rfl⟩ tkC_389 (by decide) rfl rfl hl.1 rfl (Nat.le_of_ble_eq_true rfl) dX11_hears_47 (hq_ki (fun x1 M9 H locs rx1 hw hs => ?_))
      obtain ⟨e9, hw⟩ := hw; rw [e9] at hs
      refine lv_aload_n hx hb dX11_hears_50 rfl (lv_at hl 0 rfl) ?_
      refine hq_getA (o := 0) C hs fX11_hears_46 tkC_0 (by decide) rfl dX11_hears_51 ?_
      refine hq_cV (n := 2) (ci := 10) (o := 370) (qc := (TX10, 8)) C hs (c_X10_hear l C.2.2.2.2.1 370 tkC_370 x1 rx1 _ _ hw) gX11_hears_X10_hear rfl ⟨rfl, rfl⟩ (by decide +kernel) ⟨Nat.le_of_ble_eq_true rfl, Nat.le_of_ble_eq_true rfl⟩ tkC_370 (by decide) rfl rfl hl.1 rfl (Nat.le_of_ble_eq_true rfl) dX11_hears_54 (hq_kv (fun M2 H locs hw hs => ?_))
      obtain ⟨g4, hw⟩ := hw
      refine hq_iinc (k := 2) C dX11_hears_57 hl rfl (by decide) (fun x3 ex3 ls hl => ?_)
      have hw := hw x3 ex3
      have rx3 : rg x3 := by rw [ex3]; exact g4
      have hl : lv_has ls 4 [(3, .int (w3 x3)), (0, .ref (B + 0)), (2, .int (w3 v2))] := hl
      refine hq_goto (tgt := 30) C dX11_hears_60 (by decide) ?_
      exact ih x3 rx3 _ _ _ _ hw hs (lv_sub hl [1, 2, 0] rfl)
set_option maxHeartbeats 4000000 in
set_option maxRecDepth 100000 in
theorem c_X11_hears (l : Launch) {D : va_G} {cA : Nat → ClassId} {B : Nat} {Z : State → Prop} (hZ : hq_Zo Z (hq_in B YC.length)) (v1 : Int) (rv1 : rg v1) (M : hq_M) (k : Int → hq_M → Prop) (hw : w_X11_hears v1 M k) : hq_T vwCl SLx l yX11_hears wsX11_hears ({ frames := 2, cells := 0, slots := 0, locals := 45 } : Room) D cA YC B Z [.ref (B + 0), .int (w3 v1)] M (hq_qi k) := by
  refine hq_meth (cc := cX11_hears) (maxL := 4) (ret := (some .int)) (own := RX11) hZ rfl (by decide +kernel) rfl (Nat.le_of_ble_eq_true rfl) ?_
  intro p e s m below meth c ls C hs hl
  have hx := C.1.1
  have hb := C.1.2.1
  unfold w_X11_hears at hw
  have hl : lv_has ls 4 [(0, .ref (B + 0)), (1, .int (w3 v1))] := hl
  refine lv_iload_n hx hb dX11_hears_0 rfl (lv_at hl 1 rfl) ?_
  refine hq_iconst C dX11_hears_1 ?_
  refine hq_icmp_lt (tgt := 11) C rv1 (by decide : rg 1) dX11_hears_2 (by decide) (fun h => ?_) (fun h => ?_)
  · have hw := hw.1 h
    refine hq_iconst C dX11_hears_11 ?_
    exact hq_iret C hs (by decide : rg (-1)) hw dX11_hears_12
  · have hw := hw.2 h
    refine lv_iload_n hx hb dX11_hears_5 rfl (lv_at hl 1 rfl) ?_
    refine hq_bipush C dX11_hears_6 (by decide) ?_
    refine hq_icmp_le (tgt := 13) C rv1 (by decide : rg 99) dX11_hears_8 (by decide) (fun h => ?_) (fun h => ?_)
    · have hw := hw.1 h
      refine lv_iload_n hx hb dX11_hears_13 rfl (lv_at hl 1 rfl) ?_
      refine lv_aload_n hx hb dX11_hears_14 rfl (lv_at hl 0 rfl) ?_
      refine hq_getA (o := 0) C hs fX11_hears_62 tkC_0 (by decide) rfl dX11_hears_15 ?_
      refine hq_getR (o := 384) C hs fX11_hears_235 tkC_384 (by decide) rfl dX11_hears_18 ?_
      refine hq_getI (o := 389) C hs fX11_hears_92 tkC_389 (by decide) rfl dX11_hears_21 (fun g1 => ?_)
      refine hq_mmin C mX11_hears_195 hl.1 ⟨Nat.le_of_ble_eq_true rfl, Nat.le_of_ble_eq_true rfl, Nat.zero_le _, Nat.zero_le _⟩ rv1 g1 dX11_hears_24 ?_
      refine hq_nm (fun x2 ex2 => ?_)
      have hw := hw x2 ex2
      have rx2 : rg x2 := by rw [ex2]; exact (hq_rmin rv1 g1)
      refine lv_istore_n (lv' := [(2, .int (w3 x2)), (0, .ref (B + 0)), (1, .int (w3 v1))]) hx hb dX11_hears_27 rfl hl (by decide) rfl (fun ls hl => ?_)
      refine hq_iconst C dX11_hears_28 ?_
      refine lv_istore_n (lv' := [(3, .int (w3 0)), (2, .int (w3 x2)), (0, .ref (B + 0)), (1, .int (w3 v1))]) hx hb dX11_hears_29 rfl hl (by decide) rfl (fun ls hl => ?_)
      obtain ⟨n9, hw⟩ := hw
      refine cl_X11_hears_30 x2 rx2 C ?_ n9 0 (by decide : rg 0) _ _ _ _ hw hs (lv_sub hl [2, 1, 0] rfl)
      · intro M3 H locs ls hw hs hl
        refine lv_aload_n hx hb dX11_hears_63 rfl (lv_at hl 0 rfl) ?_
        refine hq_getA (o := 0) C hs fX11_hears_62 tkC_0 (by decide) rfl dX11_hears_64 ?_
        refine hq_getR (o := 384) C hs fX11_hears_235 tkC_384 (by decide) rfl dX11_hears_67 ?_
        refine lv_iload_n hx hb dX11_hears_70 rfl (lv_at hl 1 rfl) ?_
        refine hq_cV (n := 1) (ci := 6) (o := 389) (qc := (TX6, 2)) C hs (c_X6_drop l C.2.2.2.2.1 389 tkC_389 x2 rx2 _ _ hw) gX11_hears_X6_drop rfl ⟨rfl, rfl⟩ (by decide +kernel) ⟨Nat.le_of_ble_eq_true rfl, Nat.le_of_ble_eq_true rfl⟩ tkC_389 (by decide) rfl rfl hl.1 rfl (Nat.le_of_ble_eq_true rfl) dX11_hears_71 (hq_kv (fun M4 H locs hw hs => ?_))
        refine lv_iload_n hx hb dX11_hears_74 rfl (lv_at hl 1 rfl) ?_
        exact hq_iret C hs rx2 hw dX11_hears_75
    · have hw := hw.2 h
      refine hq_iconst C dX11_hears_11 ?_
      exact hq_iret C hs (by decide : rg (-1)) hw dX11_hears_12
theorem iX11_tableOf_5 : ∀ w ∈ u_ws RX5 TX5 3, w ∈ wsX11_tableOf := fun w h => List.mem_cons_of_mem _ (List.mem_append_right _ h)
theorem iX11_tableOf_10 : ∀ w ∈ u_ws RX10 TX10 8, w ∈ wsX11_tableOf := fun w h => List.mem_cons_of_mem _ (List.mem_append_left _ (List.mem_append_right _ h))
theorem iX11_tableOf_11 : ∀ w ∈ u_ws RX11 TX11 11, w ∈ wsX11_tableOf := fun w h => List.mem_cons_of_mem _ (List.mem_append_left _ (List.mem_append_left _ (List.mem_append_right _ h)))
set_option maxRecDepth 20000 in
theorem fX11_tableOf_55 : hq_fl vwCl wsX11_tableOf RX11 55 11 5 true (.object "HeadTables$Writer") := ⟨RX11, TX11, 11, tyX11, rfl, by decide, iX11_tableOf_11, by decide +kernel, rfl, tyX11_ok 5 (by decide), tyX11_ok, nmX11⟩
set_option maxRecDepth 20000 in
theorem fX11_tableOf_62 : hq_fl vwCl wsX11_tableOf RX11 62 11 6 true (.object "HeadTables$Reader") := ⟨RX11, TX11, 11, tyX11, rfl, by decide, iX11_tableOf_11, by decide +kernel, rfl, tyX11_ok 6 (by decide), tyX11_ok, nmX11⟩
set_option maxRecDepth 20000 in
theorem fX11_tableOf_183 : hq_fl vwCl wsX11_tableOf RX11 183 10 0 true (.object "HeadTables$Table") := ⟨RX10, TX10, 8, tyX10, rfl, by decide, iX11_tableOf_10, by decide +kernel, rfl, tyX10_ok 0 (by decide), tyX10_ok, nmX10⟩
set_option maxRecDepth 20000 in
theorem fX11_tableOf_201 : hq_fl vwCl wsX11_tableOf RX11 201 5 0 true (.object "HeadTables$Table") := ⟨RX5, TX5, 3, tyX5, rfl, by decide, iX11_tableOf_5, by decide +kernel, rfl, tyX5_ok 0 (by decide), tyX5_ok, nmX5⟩
set_option maxHeartbeats 4000000 in
set_option maxRecDepth 100000 in
theorem c_X11_tableOf (l : Launch) {D : va_G} {cA : Nat → ClassId} {B : Nat} {Z : State → Prop} (hZ : hq_Zo Z (hq_in B YC.length)) (v1 : Int) (rv1 : rg v1) (M : hq_M) (k : Option Nat → Prop) (hw : w_X11_tableOf v1 M k) : hq_T vwCl SLx l yX11_tableOf wsX11_tableOf ({ frames := 0, cells := 0, slots := 0, locals := 0 } : Room) D cA YC B Z [.ref (B + 0), .int (w3 v1)] M (hq_qr YC B 9 (fun z M' => M' = M ∧ k z)) := by
  refine hq_meth (cc := cX11_tableOf) (maxL := 2) (ret := (some (.object "HeadTables$Table"))) (own := RX11) hZ rfl (by decide +kernel) rfl (Nat.le_of_ble_eq_true rfl) ?_
  intro p e s m below meth c ls C hs hl
  have hx := C.1.1
  have hb := C.1.2.1
  unfold w_X11_tableOf at hw
  have hl : lv_has ls 2 [(0, .ref (B + 0)), (1, .int (w3 v1))] := hl
  refine lv_iload_n hx hb dX11_tableOf_0 rfl (lv_at hl 1 rfl) ?_
  refine hq_if_ne (tgt := 14) C rv1 dX11_tableOf_1 (by decide) (fun h => ?_) (fun h => ?_)
  · have hw := hw.1 h
    refine lv_aload_n hx hb dX11_tableOf_14 rfl (lv_at hl 0 rfl) ?_
    refine hq_getA (o := 0) C hs fX11_tableOf_62 tkC_0 (by decide) rfl dX11_tableOf_15 ?_
    refine hq_getR (o := 384) C hs fX11_tableOf_201 tkC_384 (by decide) rfl dX11_tableOf_18 ?_
    exact hq_aret C hs tkC_385 ⟨rfl, hw⟩ dX11_tableOf_21
  · have hw := hw.2 h
    refine lv_aload_n hx hb dX11_tableOf_4 rfl (lv_at hl 0 rfl) ?_
    refine hq_getA (o := 0) C hs fX11_tableOf_55 tkC_0 (by decide) rfl dX11_tableOf_5 ?_
    refine hq_getR (o := 370) C hs fX11_tableOf_183 tkC_370 (by decide) rfl dX11_tableOf_8 ?_
    refine hq_goto (tgt := 21) C dX11_tableOf_11 (by decide) ?_
    exact hq_aret C hs tkC_371 ⟨rfl, hw⟩ dX11_tableOf_21
theorem iX11_table_9 : ∀ w ∈ u_ws RX9 TX9 7, w ∈ wsX11_table := fun w h => List.mem_cons_of_mem _ (List.mem_append_left _ (List.mem_append_left _ (List.mem_append_left _ (List.mem_append_right _ h))))
set_option maxRecDepth 20000 in
theorem fX11_table_229 : hq_fl vwCl wsX11_table RX11 229 9 3 false .int := ⟨RX9, TX9, 7, tyX9, rfl, by decide, iX11_table_9, by decide +kernel, rfl, tyX9_ok 3 (by decide), tyX9_ok, nmX9⟩
set_option maxRecDepth 20000 in
theorem fX11_table_250 : hq_fl vwCl wsX11_table RX11 250 9 4 false .int := ⟨RX9, TX9, 7, tyX9, rfl, by decide, iX11_table_9, by decide +kernel, rfl, tyX9_ok 4 (by decide), tyX9_ok, nmX9⟩
set_option maxRecDepth 20000 in
theorem fX11_table_253 : hq_fl vwCl wsX11_table RX11 253 9 5 false .int := ⟨RX9, TX9, 7, tyX9, rfl, by decide, iX11_table_9, by decide +kernel, rfl, tyX9_ok 5 (by decide), tyX9_ok, nmX9⟩
set_option maxRecDepth 20000 in
theorem fX11_table_256 : hq_fl vwCl wsX11_table RX11 256 9 6 false .int := ⟨RX9, TX9, 7, tyX9, rfl, by decide, iX11_table_9, by decide +kernel, rfl, tyX9_ok 6 (by decide), tyX9_ok, nmX9⟩
set_option maxHeartbeats 4000000 in
set_option maxRecDepth 100000 in
theorem c_X11_table (l : Launch) {D : va_G} {cA : Nat → ClassId} {B : Nat} {Z : State → Prop} (hZ : hq_Zo Z (hq_in B YC.length)) (v1 : Int) (rv1 : rg v1) (v2 : Int) (rv2 : rg v2) (M : hq_M) (k : Int → Prop) (hw : w_X11_table v1 v2 M k) : hq_T vwCl SLx l yX11_table wsX11_table ({ frames := 1, cells := 0, slots := 0, locals := 21 } : Room) D cA YC B Z [.ref (B + 0), .int (w3 v1), .int (w3 v2)] M (hq_qi (fun z M' => M' = M ∧ k z)) := by
  refine hq_meth (cc := cX11_table) (maxL := 4) (ret := (some .int)) (own := RX11) hZ rfl (by decide +kernel) rfl (Nat.le_of_ble_eq_true rfl) ?_
  intro p e s m below meth c ls C hs hl
  have hx := C.1.1
  have hb := C.1.2.1
  unfold w_X11_table at hw
  have hl : lv_has ls 4 [(0, .ref (B + 0)), (1, .int (w3 v1)), (2, .int (w3 v2))] := hl
  refine lv_iload_n hx hb dX11_table_0 rfl (lv_at hl 1 rfl) ?_
  refine hq_if_lt (tgt := 9) C rv1 dX11_table_1 (by decide) (fun h => ?_) (fun h => ?_)
  · have hw := hw.1 h
    refine hq_iconst C dX11_table_9 ?_
    exact hq_iret C hs (by decide : rg (-1)) ⟨rfl, hw⟩ dX11_table_10
  · have hw := hw.2 h
    refine lv_iload_n hx hb dX11_table_4 rfl (lv_at hl 1 rfl) ?_
    refine hq_iconst C dX11_table_5 ?_
    refine hq_icmp_le (tgt := 11) C rv1 (by decide : rg 1) dX11_table_6 (by decide) (fun h => ?_) (fun h => ?_)
    · have hw := hw.1 h
      refine lv_aload_n hx hb dX11_table_11 rfl (lv_at hl 0 rfl) ?_
      refine lv_iload_n hx hb dX11_table_12 rfl (lv_at hl 1 rfl) ?_
      refine hq_cV (n := 1) (ci := 11) (o := 0) (qc := (TX11, 11)) C hs (c_X11_tableOf l C.2.2.2.2.1 v1 rv1 _ _ hw) gX11_table_X11_tableOf rfl ⟨rfl, rfl⟩ (by decide +kernel) ⟨Nat.le_of_ble_eq_true rfl, Nat.le_of_ble_eq_true rfl⟩ tkC_0 (by decide) rfl rfl hl.1 rfl (Nat.le_of_ble_eq_true rfl) dX11_table_13 (hq_kr (fun M9 H locs hw hs => ?_) (fun o1 M9 H locs ho1 hw hs => ?_))
      · obtain ⟨e9, hw⟩ := hw; rw [e9] at hs
        exact absurd rfl hw.1
      · obtain ⟨e9, hw⟩ := hw; rw [e9] at hs
        have hw := hw.2 o1 rfl
        refine lv_astore_n (lv' := [(3, .ref (B + o1)), (0, .ref (B + 0)), (1, .int (w3 v1)), (2, .int (w3 v2))]) hx hb dX11_table_16 rfl hl (by decide) rfl (fun ls hl => ?_)
        refine lv_iload_n hx hb dX11_table_17 rfl (lv_at hl 3 rfl) ?_
        rcases Decidable.em (v2 = 0) with h | h0
        · obtain ⟨hw, -⟩ := hw
          have hw := hw h
          refine hq_tabIn (tgt := 52) 0 (by decide) C h dX11_table_18 (by decide) (by decide) rfl (by decide) ?_
          refine lv_aload_n hx hb dX11_table_52 rfl (lv_at hl 0 rfl) ?_
          refine hq_getI (o := o1) C hs fX11_table_229 ho1 (by decide) rfl dX11_table_53 (fun g3 => ?_)
          exact hq_iret C hs g3 ⟨rfl, hw⟩ dX11_table_56
        obtain ⟨-, hw⟩ := hw
        rcases Decidable.em (v2 = 1) with h | h1
        · obtain ⟨hw, -⟩ := hw
          have hw := hw h
          refine hq_tabIn (tgt := 57) 1 (by decide) C h dX11_table_18 (by decide) (by decide) rfl (by decide) ?_
          refine lv_aload_n hx hb dX11_table_57 rfl (lv_at hl 0 rfl) ?_
          refine hq_getI (o := o1) C hs fX11_table_229 ho1 (by decide) rfl dX11_table_58 (fun g4 => ?_)
          refine lv_aload_n hx hb dX11_table_61 rfl (lv_at hl 0 rfl) ?_
          refine hq_getI (o := o1) C hs fX11_table_250 ho1 (by decide) rfl dX11_table_62 (fun g5 => ?_)
          obtain ⟨g6, hw⟩ := hw
          refine hq_isub C dX11_table_65 ?_
          exact hq_iret C hs g6 ⟨rfl, hw⟩ dX11_table_66
        obtain ⟨-, hw⟩ := hw
        rcases Decidable.em (v2 = 2) with h | h2
        · obtain ⟨hw, -⟩ := hw
          have hw := hw h
          refine hq_tabIn (tgt := 67) 2 (by decide) C h dX11_table_18 (by decide) (by decide) rfl (by decide) ?_
          refine lv_aload_n hx hb dX11_table_67 rfl (lv_at hl 0 rfl) ?_
          refine hq_getI (o := o1) C hs fX11_table_253 ho1 (by decide) rfl dX11_table_68 (fun g7 => ?_)
          exact hq_iret C hs g7 ⟨rfl, hw⟩ dX11_table_71
        obtain ⟨-, hw⟩ := hw
        rcases Decidable.em (v2 = 3) with h | h3
        · obtain ⟨hw, -⟩ := hw
          have hw := hw h
          refine hq_tabIn (tgt := 72) 3 (by decide) C h dX11_table_18 (by decide) (by decide) rfl (by decide) ?_
          refine lv_aload_n hx hb dX11_table_72 rfl (lv_at hl 0 rfl) ?_
          refine hq_getI (o := o1) C hs fX11_table_256 ho1 (by decide) rfl dX11_table_73 (fun g8 => ?_)
          exact hq_iret C hs g8 ⟨rfl, hw⟩ dX11_table_76
        obtain ⟨-, hw⟩ := hw
        rcases Decidable.em (v2 = 4) with h | h4
        · obtain ⟨hw, -⟩ := hw
          have hw := hw h
          refine hq_tabIn (tgt := 77) 4 (by decide) C h dX11_table_18 (by decide) (by decide) rfl (by decide) ?_
          refine lv_aload_n hx hb dX11_table_77 rfl (lv_at hl 0 rfl) ?_
          refine hq_getI (o := o1) C hs fX11_table_250 ho1 (by decide) rfl dX11_table_78 (fun g9 => ?_)
          refine lv_aload_n hx hb dX11_table_81 rfl (lv_at hl 0 rfl) ?_
          refine hq_getI (o := o1) C hs fX11_table_229 ho1 (by decide) rfl dX11_table_82 (fun g10 => ?_)
          refine hq_icmp_ge (tgt := 95) C g9 g10 dX11_table_85 (by decide) (fun h => ?_) (fun h => ?_)
          · have hw := hw.1 h
            refine hq_bipush C dX11_table_95 (by decide) ?_
            exact hq_iret C hs (by decide : rg (-9)) ⟨rfl, hw⟩ dX11_table_97
          · have hw := hw.2 h
            refine lv_aload_n hx hb dX11_table_88 rfl (lv_at hl 0 rfl) ?_
            refine hq_getI (o := o1) C hs fX11_table_250 ho1 (by decide) rfl dX11_table_89 (fun g11 => ?_)
            refine hq_goto (tgt := 97) C dX11_table_92 (by decide) ?_
            exact hq_iret C hs g11 ⟨rfl, hw⟩ dX11_table_97
        obtain ⟨-, hw⟩ := hw
        have hd9 : v2 < 0 ∨ 4 < v2 := by omega
        have hw := hw hd9
        refine hq_tabOut (tgt := 98) C rv2 dX11_table_18 hd9 (by decide) ?_
        refine hq_iconst C dX11_table_98 ?_
        exact hq_iret C hs (by decide : rg (-1)) ⟨rfl, hw⟩ dX11_table_99
    · have hw := hw.2 h
      refine hq_iconst C dX11_table_9 ?_
      exact hq_iret C hs (by decide : rg (-1)) ⟨rfl, hw⟩ dX11_table_10
set_option maxHeartbeats 4000000 in
set_option maxRecDepth 100000 in
theorem c_X11_entry (l : Launch) {D : va_G} {cA : Nat → ClassId} {B : Nat} {Z : State → Prop} (hZ : hq_Zo Z (hq_in B YC.length)) (v1 : Int) (rv1 : rg v1) (v2 : Int) (rv2 : rg v2) (v3 : Int) (rv3 : rg v3) (M : hq_M) (k : Int → Prop) (hw : w_X11_entry v1 v2 v3 M k) : hq_T vwCl SLx l yX11_entry wsX11_entry ({ frames := 1, cells := 0, slots := 0, locals := 21 } : Room) D cA YC B Z [.ref (B + 0), .int (w3 v1), .int (w3 v2), .int (w3 v3)] M (hq_qi (fun z M' => M' = M ∧ k z)) := by
  refine hq_meth (cc := cX11_entry) (maxL := 5) (ret := (some .int)) (own := RX11) hZ rfl (by decide +kernel) rfl (Nat.le_of_ble_eq_true rfl) ?_
  intro p e s m below meth c ls C hs hl
  have hx := C.1.1
  have hb := C.1.2.1
  unfold w_X11_entry at hw
  have hl : lv_has ls 5 [(0, .ref (B + 0)), (1, .int (w3 v1)), (2, .int (w3 v2)), (3, .int (w3 v3))] := hl
  refine lv_iload_n hx hb dX11_entry_0 rfl (lv_at hl 1 rfl) ?_
  refine hq_if_lt (tgt := 22) C rv1 dX11_entry_1 (by decide) (fun h => ?_) (fun h => ?_)
  · have hw := hw.1 h
    refine hq_iconst C dX11_entry_22 ?_
    exact hq_iret C hs (by decide : rg (-1)) ⟨rfl, hw⟩ dX11_entry_23
  · have hw := hw.2 h
    refine lv_iload_n hx hb dX11_entry_4 rfl (lv_at hl 1 rfl) ?_
    refine hq_iconst C dX11_entry_5 ?_
    refine hq_icmp_gt (tgt := 22) C rv1 (by decide : rg 1) dX11_entry_6 (by decide) (fun h => ?_) (fun h => ?_)
    · have hw := hw.1 h
      refine hq_iconst C dX11_entry_22 ?_
      exact hq_iret C hs (by decide : rg (-1)) ⟨rfl, hw⟩ dX11_entry_23
    · have hw := hw.2 h
      refine lv_iload_n hx hb dX11_entry_9 rfl (lv_at hl 3 rfl) ?_
      refine hq_if_lt (tgt := 22) C rv3 dX11_entry_10 (by decide) (fun h => ?_) (fun h => ?_)
      · have hw := hw.1 h
        refine hq_iconst C dX11_entry_22 ?_
        exact hq_iret C hs (by decide : rg (-1)) ⟨rfl, hw⟩ dX11_entry_23
      · have hw := hw.2 h
        refine lv_iload_n hx hb dX11_entry_13 rfl (lv_at hl 3 rfl) ?_
        refine hq_iconst C dX11_entry_14 ?_
        refine hq_icmp_gt (tgt := 22) C rv3 (by decide : rg 1) dX11_entry_15 (by decide) (fun h => ?_) (fun h => ?_)
        · have hw := hw.1 h
          refine hq_iconst C dX11_entry_22 ?_
          exact hq_iret C hs (by decide : rg (-1)) ⟨rfl, hw⟩ dX11_entry_23
        · have hw := hw.2 h
          refine lv_iload_n hx hb dX11_entry_18 rfl (lv_at hl 2 rfl) ?_
          refine hq_if_ge (tgt := 24) C rv2 dX11_entry_19 (by decide) (fun h => ?_) (fun h => ?_)
          · have hw := hw.1 h
            refine lv_aload_n hx hb dX11_entry_24 rfl (lv_at hl 0 rfl) ?_
            refine lv_iload_n hx hb dX11_entry_25 rfl (lv_at hl 1 rfl) ?_
            refine hq_cV (n := 1) (ci := 11) (o := 0) (qc := (TX11, 11)) C hs (c_X11_tableOf l C.2.2.2.2.1 v1 rv1 _ _ hw) gX11_entry_X11_tableOf rfl ⟨rfl, rfl⟩ (by decide +kernel) ⟨Nat.le_of_ble_eq_true rfl, Nat.le_of_ble_eq_true rfl⟩ tkC_0 (by decide) rfl rfl hl.1 rfl (Nat.le_of_ble_eq_true rfl) dX11_entry_26 (hq_kr (fun M9 H locs hw hs => ?_) (fun o1 M9 H locs ho1 hw hs => ?_))
            · obtain ⟨e9, hw⟩ := hw; rw [e9] at hs
              exact absurd rfl hw.1
            · obtain ⟨e9, hw⟩ := hw; rw [e9] at hs
              have hw := hw.2 o1 rfl
              refine lv_astore (lv' := [(4, .ref (B + o1)), (0, .ref (B + 0)), (1, .int (w3 v1)), (2, .int (w3 v2)), (3, .int (w3 v3))]) hx hb dX11_entry_29 hl (by decide) rfl (fun ls hl => ?_)
              refine lv_aload hx hb dX11_entry_31 (lv_at hl 0 rfl) ?_
              refine lv_iload_n hx hb dX11_entry_33 rfl (lv_at hl 3 rfl) ?_
              refine hq_cV (n := 1) (ci := 9) (o := o1) (qc := (TX9, 7)) C hs (c_X9_has l C.2.2.2.2.1 o1 ho1 v2 rv2 _ _ hw) gX11_entry_X9_has rfl ⟨rfl, rfl⟩ (by decide +kernel) ⟨Nat.le_of_ble_eq_true rfl, Nat.le_of_ble_eq_true rfl⟩ ho1 (by decide) rfl rfl hl.1 rfl (Nat.le_of_ble_eq_true rfl) dX11_entry_34 (hq_kz (fun x3 M9 H locs rx3 hw hs => ?_))
              obtain ⟨e9, hw⟩ := hw; rw [e9] at hs
              refine hq_if_ne (tgt := 43) C (rb_rg rx3) dX11_entry_37 (by decide) (fun h => ?_) (fun h => ?_)
              · have hw := hw.1 h
                refine lv_iload_n hx hb dX11_entry_43 rfl (lv_at hl 4 rfl) ?_
                refine hq_if_ne (tgt := 56) C rv3 dX11_entry_44 (by decide) (fun h => ?_) (fun h => ?_)
                · have hw := hw.1 h
                  refine lv_aload hx hb dX11_entry_56 (lv_at hl 0 rfl) ?_
                  refine lv_iload_n hx hb dX11_entry_58 rfl (lv_at hl 3 rfl) ?_
                  refine hq_cV (n := 1) (ci := 9) (o := o1) (qc := (TX9, 7)) C hs (c_X9_fieldAt l C.2.2.2.2.1 o1 ho1 v2 rv2 _ _ hw) gX11_entry_X9_fieldAt rfl ⟨rfl, rfl⟩ (by decide +kernel) ⟨Nat.le_of_ble_eq_true rfl, Nat.le_of_ble_eq_true rfl⟩ ho1 (by decide) rfl rfl hl.1 rfl (Nat.le_of_ble_eq_true rfl) dX11_entry_59 (hq_ki (fun x4 M9 H locs rx4 hw hs => ?_))
                  obtain ⟨e9, hw⟩ := hw; rw [e9] at hs
                  exact hq_iret C hs rx4 ⟨rfl, hw⟩ dX11_entry_62
                · have hw := hw.2 h
                  refine lv_aload hx hb dX11_entry_47 (lv_at hl 0 rfl) ?_
                  refine lv_iload_n hx hb dX11_entry_49 rfl (lv_at hl 3 rfl) ?_
                  refine hq_cV (n := 1) (ci := 9) (o := o1) (qc := (TX9, 7)) C hs (c_X9_sizeAt l C.2.2.2.2.1 o1 ho1 v2 rv2 _ _ hw) gX11_entry_X9_sizeAt rfl ⟨rfl, rfl⟩ (by decide +kernel) ⟨Nat.le_of_ble_eq_true rfl, Nat.le_of_ble_eq_true rfl⟩ ho1 (by decide) rfl rfl hl.1 rfl (Nat.le_of_ble_eq_true rfl) dX11_entry_50 (hq_ki (fun x5 M9 H locs rx5 hw hs => ?_))
                  obtain ⟨e9, hw⟩ := hw; rw [e9] at hs
                  refine hq_goto (tgt := 62) C dX11_entry_53 (by decide) ?_
                  exact hq_iret C hs rx5 ⟨rfl, hw⟩ dX11_entry_62
              · have hw := hw.2 h
                refine hq_bipush C dX11_entry_40 (by decide) ?_
                exact hq_iret C hs (by decide : rg (-9)) ⟨rfl, hw⟩ dX11_entry_42
          · have hw := hw.2 h
            refine hq_iconst C dX11_entry_22 ?_
            exact hq_iret C hs (by decide : rg (-1)) ⟨rfl, hw⟩ dX11_entry_23
theorem iX11_holds_10 : ∀ w ∈ u_ws RX10 TX10 8, w ∈ wsX11_holds := fun w h => List.mem_cons_of_mem _ (List.mem_append_left _ (List.mem_append_right _ h))
theorem iX11_holds_11 : ∀ w ∈ u_ws RX11 TX11 11, w ∈ wsX11_holds := fun w h => List.mem_cons_of_mem _ (List.mem_append_left _ (List.mem_append_left _ (List.mem_append_right _ h)))
set_option maxRecDepth 20000 in
theorem fX11_holds_55 : hq_fl vwCl wsX11_holds RX11 55 11 5 true (.object "HeadTables$Writer") := ⟨RX11, TX11, 11, tyX11, rfl, by decide, iX11_holds_11, by decide +kernel, rfl, tyX11_ok 5 (by decide), tyX11_ok, nmX11⟩
set_option maxRecDepth 20000 in
theorem fX11_holds_183 : hq_fl vwCl wsX11_holds RX11 183 10 0 true (.object "HeadTables$Table") := ⟨RX10, TX10, 8, tyX10, rfl, by decide, iX11_holds_10, by decide +kernel, rfl, tyX10_ok 0 (by decide), tyX10_ok, nmX10⟩
set_option maxRecDepth 20000 in
theorem kX11_holds_272 : Cond.constantLong RX11 272 (-1) ∈ wsX11_holds := by decide +kernel
set_option maxHeartbeats 4000000 in
set_option maxRecDepth 100000 in
theorem c_X11_holds (l : Launch) {D : va_G} {cA : Nat → ClassId} {B : Nat} {Z : State → Prop} (hZ : hq_Zo Z (hq_in B YC.length)) (v1 : Int) (rv1 : rg v1) (M : hq_M) (k : Int → Prop) (hw : w_X11_holds v1 M k) : hq_T vwCl SLx l yX11_holds wsX11_holds ({ frames := 1, cells := 0, slots := 0, locals := 21 } : Room) D cA YC B Z [.ref (B + 0), .int (w3 v1)] M (hq_ql (fun z M' => M' = M ∧ k z)) := by
  refine hq_meth (cc := cX11_holds) (maxL := 2) (ret := (some .long)) (own := RX11) hZ rfl (by decide +kernel) rfl (Nat.le_of_ble_eq_true rfl) ?_
  intro p e s m below meth c ls C hs hl
  have hx := C.1.1
  have hb := C.1.2.1
  unfold w_X11_holds at hw
  have hl : lv_has ls 2 [(0, .ref (B + 0)), (1, .int (w3 v1))] := hl
  refine lv_aload_n hx hb dX11_holds_0 rfl (lv_at hl 0 rfl) ?_
  refine hq_getA (o := 0) C hs fX11_holds_55 tkC_0 (by decide) rfl dX11_holds_1 ?_
  refine hq_getR (o := 370) C hs fX11_holds_183 tkC_370 (by decide) rfl dX11_holds_4 ?_
  refine lv_iload_n hx hb dX11_holds_7 rfl (lv_at hl 1 rfl) ?_
  refine hq_cV (n := 1) (ci := 9) (o := 371) (qc := (TX9, 7)) C hs (c_X9_has l C.2.2.2.2.1 371 tkC_371 v1 rv1 _ _ hw) gX11_holds_X9_has rfl ⟨rfl, rfl⟩ (by decide +kernel) ⟨Nat.le_of_ble_eq_true rfl, Nat.le_of_ble_eq_true rfl⟩ tkC_371 (by decide) rfl rfl hl.1 rfl (Nat.le_of_ble_eq_true rfl) dX11_holds_8 (hq_kz (fun x1 M9 H locs rx1 hw hs => ?_))
  obtain ⟨e9, hw⟩ := hw; rw [e9] at hs
  refine hq_if_eq (tgt := 28) C (rb_rg rx1) dX11_holds_11 (by decide) (fun h => ?_) (fun h => ?_)
  · have hw := hw.1 h
    refine hq_ldc2 (z := (-1)) C kX11_holds_272 (by decide) dX11_holds_28 ?_
    exact hq_lret C hs (by decide : rl (-1)) ⟨rfl, hw⟩ dX11_holds_31
  · have hw := hw.2 h
    refine lv_aload_n hx hb dX11_holds_14 rfl (lv_at hl 0 rfl) ?_
    refine hq_getA (o := 0) C hs fX11_holds_55 tkC_0 (by decide) rfl dX11_holds_15 ?_
    refine hq_getR (o := 370) C hs fX11_holds_183 tkC_370 (by decide) rfl dX11_holds_18 ?_
    refine lv_iload_n hx hb dX11_holds_21 rfl (lv_at hl 1 rfl) ?_
    refine hq_cV (n := 1) (ci := 9) (o := 371) (qc := (TX9, 7)) C hs (c_X9_holdersAt l C.2.2.2.2.1 371 tkC_371 v1 rv1 _ _ hw) gX11_holds_X9_holdersAt rfl ⟨rfl, rfl⟩ (by decide +kernel) ⟨Nat.le_of_ble_eq_true rfl, Nat.le_of_ble_eq_true rfl⟩ tkC_371 (by decide) rfl rfl hl.1 rfl (Nat.le_of_ble_eq_true rfl) dX11_holds_22 (hq_kl (fun x2 M9 H locs rx2 hw hs => ?_))
    obtain ⟨e9, hw⟩ := hw; rw [e9] at hs
    refine hq_goto (tgt := 31) C dX11_holds_25 (by decide) ?_
    exact hq_lret C hs rx2 ⟨rfl, hw⟩ dX11_holds_31
theorem iX11_letter_0 : ∀ w ∈ u_ws RX0 TX0 8, w ∈ wsX11_letter := fun w h => List.mem_cons_of_mem _ (List.mem_append_left _ (List.mem_append_left _ (List.mem_append_right _ h)))
theorem iX11_letter_6 : ∀ w ∈ u_ws RX6 TX6 2, w ∈ wsX11_letter := fun w h => List.mem_cons_of_mem _ (List.mem_append_left _ (List.mem_append_right _ h))
theorem iX11_letter_11 : ∀ w ∈ u_ws RX11 TX11 11, w ∈ wsX11_letter := fun w h => List.mem_cons_of_mem _ (List.mem_append_left _ (List.mem_append_left _ (List.mem_append_left _ (List.mem_append_right _ h))))
set_option maxRecDepth 20000 in
theorem fX11_letter_46 : hq_fl vwCl wsX11_letter RX11 46 11 4 true (.object "HeadTables$Letters") := ⟨RX11, TX11, 11, tyX11, rfl, by decide, iX11_letter_11, by decide +kernel, rfl, tyX11_ok 4 (by decide), tyX11_ok, nmX11⟩
set_option maxRecDepth 20000 in
theorem fX11_letter_92 : hq_fl vwCl wsX11_letter RX11 92 6 1 false .int := ⟨RX6, TX6, 2, tyX6, rfl, by decide, iX11_letter_6, by decide +kernel, rfl, tyX6_ok 1 (by decide), tyX6_ok, nmX6⟩
set_option maxRecDepth 20000 in
theorem fX11_letter_171 : hq_fl vwCl wsX11_letter RX11 171 0 2 true (.object "HeadTables$Row") := ⟨RX0, TX0, 8, tyX0, rfl, by decide, iX11_letter_0, by decide +kernel, rfl, tyX0_ok 2 (by decide), tyX0_ok, nmX0⟩
set_option maxRecDepth 20000 in
theorem fX11_letter_216 : hq_fl vwCl wsX11_letter RX11 216 0 6 false .int := ⟨RX0, TX0, 8, tyX0, rfl, by decide, iX11_letter_0, by decide +kernel, rfl, tyX0_ok 6 (by decide), tyX0_ok, nmX0⟩
set_option maxRecDepth 20000 in
theorem fX11_letter_219 : hq_fl vwCl wsX11_letter RX11 219 0 5 false .int := ⟨RX0, TX0, 8, tyX0, rfl, by decide, iX11_letter_0, by decide +kernel, rfl, tyX0_ok 5 (by decide), tyX0_ok, nmX0⟩
set_option maxRecDepth 20000 in
theorem fX11_letter_274 : hq_fl vwCl wsX11_letter RX11 274 0 3 false .int := ⟨RX0, TX0, 8, tyX0, rfl, by decide, iX11_letter_0, by decide +kernel, rfl, tyX0_ok 3 (by decide), tyX0_ok, nmX0⟩
set_option maxRecDepth 20000 in
theorem fX11_letter_277 : hq_fl vwCl wsX11_letter RX11 277 0 4 false .int := ⟨RX0, TX0, 8, tyX0, rfl, by decide, iX11_letter_0, by decide +kernel, rfl, tyX0_ok 4 (by decide), tyX0_ok, nmX0⟩
set_option maxRecDepth 20000 in
theorem fX11_letter_280 : hq_fl vwCl wsX11_letter RX11 280 0 7 false .boolean := ⟨RX0, TX0, 8, tyX0, rfl, by decide, iX11_letter_0, by decide +kernel, rfl, tyX0_ok 7 (by decide), tyX0_ok, nmX0⟩
set_option maxRecDepth 20000 in
theorem fX11_letter_284 : hq_fl vwCl wsX11_letter RX11 284 0 1 true (.object "HeadTables$Row") := ⟨RX0, TX0, 8, tyX0, rfl, by decide, iX11_letter_0, by decide +kernel, rfl, tyX0_ok 1 (by decide), tyX0_ok, nmX0⟩
set_option maxHeartbeats 4000000 in
set_option maxRecDepth 100000 in
theorem c_X11_letter (l : Launch) {D : va_G} {cA : Nat → ClassId} {B : Nat} {Z : State → Prop} (hZ : hq_Zo Z (hq_in B YC.length)) (v1 : Int) (rv1 : rg v1) (v2 : Int) (rv2 : rg v2) (M : hq_M) (k : Int → Prop) (hw : w_X11_letter v1 v2 M k) : hq_T vwCl SLx l yX11_letter wsX11_letter ({ frames := 1, cells := 0, slots := 0, locals := 21 } : Room) D cA YC B Z [.ref (B + 0), .int (w3 v1), .int (w3 v2)] M (hq_qi (fun z M' => M' = M ∧ k z)) := by
  refine hq_meth (cc := cX11_letter) (maxL := 4) (ret := (some .int)) (own := RX11) hZ rfl (by decide +kernel) rfl (Nat.le_of_ble_eq_true rfl) ?_
  intro p e s m below meth c ls C hs hl
  have hx := C.1.1
  have hb := C.1.2.1
  unfold w_X11_letter at hw
  have hl : lv_has ls 4 [(0, .ref (B + 0)), (1, .int (w3 v1)), (2, .int (w3 v2))] := hl
  refine lv_aload_n hx hb dX11_letter_0 rfl (lv_at hl 0 rfl) ?_
  refine hq_getA (o := 0) C hs fX11_letter_46 tkC_0 (by decide) rfl dX11_letter_1 ?_
  refine lv_iload_n hx hb dX11_letter_4 rfl (lv_at hl 1 rfl) ?_
  refine hq_cV (n := 1) (ci := 1) (o := 168) (qc := (TX1, 2)) C hs (c_X1_at l C.2.2.2.2.1 v1 rv1 _ _ hw) gX11_letter_X1_at rfl ⟨rfl, rfl⟩ (by decide +kernel) ⟨Nat.le_of_ble_eq_true rfl, Nat.le_of_ble_eq_true rfl⟩ tkC_168 (by decide) rfl rfl hl.1 rfl (Nat.le_of_ble_eq_true rfl) dX11_letter_5 (hq_kr (fun M9 H locs hw hs => ?_) (fun o1 M9 H locs ho1 hw hs => ?_))
  · obtain ⟨e9, hw⟩ := hw; rw [e9] at hs
    have hw := hw.1 rfl
    refine lv_astore_nN (lv' := [(3, .null), (0, .ref (B + 0)), (1, .int (w3 v1)), (2, .int (w3 v2))]) hx hb dX11_letter_8 rfl hl (by decide) rfl (fun ls hl => ?_)
    refine lv_aload_nN hx hb dX11_letter_9 rfl (lv_at hl 0 rfl) ?_
    refine lv_ifnonnullN hx hb dX11_letter_10 ?_
    refine hq_iconst C dX11_letter_13 ?_
    exact hq_iret C hs (by decide : rg (-1)) ⟨rfl, hw⟩ dX11_letter_14
  · obtain ⟨e9, hw⟩ := hw; rw [e9] at hs
    have hw := hw.2 o1 rfl
    refine lv_astore_n (lv' := [(3, .ref (B + o1)), (0, .ref (B + 0)), (1, .int (w3 v1)), (2, .int (w3 v2))]) hx hb dX11_letter_8 rfl hl (by decide) rfl (fun ls hl => ?_)
    refine lv_aload_n hx hb dX11_letter_9 rfl (lv_at hl 0 rfl) ?_
    refine lv_ifnonnull (tgt := 15) hx hb dX11_letter_10 (by decide) ?_
    refine lv_iload_n hx hb dX11_letter_15 rfl (lv_at hl 3 rfl) ?_
    rcases Decidable.em (v2 = 0) with h | h0
    · obtain ⟨hw, -⟩ := hw
      have hw := hw h
      refine hq_tabIn (tgt := 60) 0 (by decide) C h dX11_letter_16 (by decide) (by decide) rfl (by decide) ?_
      refine lv_aload_n hx hb dX11_letter_60 rfl (lv_at hl 0 rfl) ?_
      refine hq_getR (o := o1) C hs fX11_letter_171 ho1 (by decide) rfl dX11_letter_61 ?_
      refine hq_getI (o := (o1 + 3)) C hs fX11_letter_92 (tc_0_2 ho1) (by decide) rfl dX11_letter_64 (fun g3 => ?_)
      exact hq_iret C hs g3 ⟨rfl, hw⟩ dX11_letter_67
    obtain ⟨-, hw⟩ := hw
    rcases Decidable.em (v2 = 1) with h | h1
    · obtain ⟨hw, -⟩ := hw
      have hw := hw h
      refine hq_tabIn (tgt := 68) 1 (by decide) C h dX11_letter_16 (by decide) (by decide) rfl (by decide) ?_
      refine lv_aload_n hx hb dX11_letter_68 rfl (lv_at hl 0 rfl) ?_
      refine hq_getI (o := o1) C hs fX11_letter_274 ho1 (by decide) rfl dX11_letter_69 (fun g4 => ?_)
      exact hq_iret C hs g4 ⟨rfl, hw⟩ dX11_letter_72
    obtain ⟨-, hw⟩ := hw
    rcases Decidable.em (v2 = 2) with h | h2
    · obtain ⟨hw, -⟩ := hw
      have hw := hw h
      refine hq_tabIn (tgt := 73) 2 (by decide) C h dX11_letter_16 (by decide) (by decide) rfl (by decide) ?_
      refine lv_aload_n hx hb dX11_letter_73 rfl (lv_at hl 0 rfl) ?_
      refine hq_getI (o := o1) C hs fX11_letter_277 ho1 (by decide) rfl dX11_letter_74 (fun g5 => ?_)
      exact hq_iret C hs g5 ⟨rfl, hw⟩ dX11_letter_77
    obtain ⟨-, hw⟩ := hw
    rcases Decidable.em (v2 = 3) with h | h3
    · obtain ⟨hw, -⟩ := hw
      have hw := hw h
      refine hq_tabIn (tgt := 78) 3 (by decide) C h dX11_letter_16 (by decide) (by decide) rfl (by decide) ?_
      refine lv_aload_n hx hb dX11_letter_78 rfl (lv_at hl 0 rfl) ?_
      refine hq_getI (o := o1) C hs fX11_letter_219 ho1 (by decide) rfl dX11_letter_79 (fun g6 => ?_)
      exact hq_iret C hs g6 ⟨rfl, hw⟩ dX11_letter_82
    obtain ⟨-, hw⟩ := hw
    rcases Decidable.em (v2 = 4) with h | h4
    · obtain ⟨hw, -⟩ := hw
      have hw := hw h
      refine hq_tabIn (tgt := 83) 4 (by decide) C h dX11_letter_16 (by decide) (by decide) rfl (by decide) ?_
      refine lv_aload_n hx hb dX11_letter_83 rfl (lv_at hl 0 rfl) ?_
      refine hq_getI (o := o1) C hs fX11_letter_216 ho1 (by decide) rfl dX11_letter_84 (fun g7 => ?_)
      exact hq_iret C hs g7 ⟨rfl, hw⟩ dX11_letter_87
    obtain ⟨-, hw⟩ := hw
    rcases Decidable.em (v2 = 5) with h | h5
    · obtain ⟨hw, -⟩ := hw
      have hw := hw h
      refine hq_tabIn (tgt := 88) 5 (by decide) C h dX11_letter_16 (by decide) (by decide) rfl (by decide) ?_
      refine lv_aload_n hx hb dX11_letter_88 rfl (lv_at hl 0 rfl) ?_
      refine hq_getZ (o := o1) C hs fX11_letter_280 ho1 (by decide) rfl dX11_letter_89 (fun g8 => ?_)
      refine hq_if_eq (tgt := 99) C (rb_rg g8) dX11_letter_92 (by decide) (fun h => ?_) (fun h => ?_)
      · have hw := hw.1 h
        refine hq_iconst C dX11_letter_99 ?_
        exact hq_iret C hs (by decide : rg 0) ⟨rfl, hw⟩ dX11_letter_100
      · have hw := hw.2 h
        refine hq_iconst C dX11_letter_95 ?_
        refine hq_goto (tgt := 100) C dX11_letter_96 (by decide) ?_
        exact hq_iret C hs (by decide : rg 1) ⟨rfl, hw⟩ dX11_letter_100
    obtain ⟨-, hw⟩ := hw
    rcases Decidable.em (v2 = 6) with h | h6
    · obtain ⟨hw, -⟩ := hw
      have hw := hw h
      refine hq_tabIn (tgt := 101) 6 (by decide) C h dX11_letter_16 (by decide) (by decide) rfl (by decide) ?_
      refine lv_aload_n hx hb dX11_letter_101 rfl (lv_at hl 0 rfl) ?_
      refine hq_getR (o := o1) C hs fX11_letter_284 ho1 (by decide) rfl dX11_letter_102 ?_
      refine hq_getI (o := (o1 + 1)) C hs fX11_letter_92 (tc_0_1 ho1) (by decide) rfl dX11_letter_105 (fun g9 => ?_)
      exact hq_iret C hs g9 ⟨rfl, hw⟩ dX11_letter_108
    obtain ⟨-, hw⟩ := hw
    have hd9 : v2 < 0 ∨ 6 < v2 := by omega
    have hw := hw hd9
    refine hq_tabOut (tgt := 109) C rv2 dX11_letter_16 hd9 (by decide) ?_
    refine hq_iconst C dX11_letter_109 ?_
    exact hq_iret C hs (by decide : rg (-1)) ⟨rfl, hw⟩ dX11_letter_110
theorem iX11_got_0 : ∀ w ∈ u_ws RX0 TX0 8, w ∈ wsX11_got := fun w h => List.mem_cons_of_mem _ (List.mem_append_left _ (List.mem_append_left _ (List.mem_append_right _ h)))
theorem iX11_got_6 : ∀ w ∈ u_ws RX6 TX6 2, w ∈ wsX11_got := fun w h => List.mem_cons_of_mem _ (List.mem_append_left _ (List.mem_append_right _ h))
theorem iX11_got_11 : ∀ w ∈ u_ws RX11 TX11 11, w ∈ wsX11_got := fun w h => List.mem_cons_of_mem _ (List.mem_append_left _ (List.mem_append_left _ (List.mem_append_left _ (List.mem_append_right _ h))))
set_option maxRecDepth 20000 in
theorem fX11_got_46 : hq_fl vwCl wsX11_got RX11 46 11 4 true (.object "HeadTables$Letters") := ⟨RX11, TX11, 11, tyX11, rfl, by decide, iX11_got_11, by decide +kernel, rfl, tyX11_ok 4 (by decide), tyX11_ok, nmX11⟩
set_option maxRecDepth 20000 in
theorem fX11_got_92 : hq_fl vwCl wsX11_got RX11 92 6 1 false .int := ⟨RX6, TX6, 2, tyX6, rfl, by decide, iX11_got_6, by decide +kernel, rfl, tyX6_ok 1 (by decide), tyX6_ok, nmX6⟩
set_option maxRecDepth 20000 in
theorem fX11_got_216 : hq_fl vwCl wsX11_got RX11 216 0 6 false .int := ⟨RX0, TX0, 8, tyX0, rfl, by decide, iX11_got_0, by decide +kernel, rfl, tyX0_ok 6 (by decide), tyX0_ok, nmX0⟩
set_option maxRecDepth 20000 in
theorem fX11_got_284 : hq_fl vwCl wsX11_got RX11 284 0 1 true (.object "HeadTables$Row") := ⟨RX0, TX0, 8, tyX0, rfl, by decide, iX11_got_0, by decide +kernel, rfl, tyX0_ok 1 (by decide), tyX0_ok, nmX0⟩
set_option maxHeartbeats 4000000 in
set_option maxRecDepth 100000 in
theorem c_X11_got (l : Launch) {D : va_G} {cA : Nat → ClassId} {B : Nat} {Z : State → Prop} (hZ : hq_Zo Z (hq_in B YC.length)) (v1 : Int) (rv1 : rg v1) (v2 : Int) (rv2 : rg v2) (M : hq_M) (k : Int → Prop) (hw : w_X11_got v1 v2 M k) : hq_T vwCl SLx l yX11_got wsX11_got ({ frames := 1, cells := 0, slots := 0, locals := 21 } : Room) D cA YC B Z [.ref (B + 0), .int (w3 v1), .int (w3 v2)] M (hq_qi (fun z M' => M' = M ∧ k z)) := by
  refine hq_meth (cc := cX11_got) (maxL := 4) (ret := (some .int)) (own := RX11) hZ rfl (by decide +kernel) rfl (Nat.le_of_ble_eq_true rfl) ?_
  intro p e s m below meth c ls C hs hl
  have hx := C.1.1
  have hb := C.1.2.1
  unfold w_X11_got at hw
  have hl : lv_has ls 4 [(0, .ref (B + 0)), (1, .int (w3 v1)), (2, .int (w3 v2))] := hl
  refine lv_aload_n hx hb dX11_got_0 rfl (lv_at hl 0 rfl) ?_
  refine hq_getA (o := 0) C hs fX11_got_46 tkC_0 (by decide) rfl dX11_got_1 ?_
  refine lv_iload_n hx hb dX11_got_4 rfl (lv_at hl 1 rfl) ?_
  refine hq_cV (n := 1) (ci := 1) (o := 168) (qc := (TX1, 2)) C hs (c_X1_at l C.2.2.2.2.1 v1 rv1 _ _ hw) gX11_got_X1_at rfl ⟨rfl, rfl⟩ (by decide +kernel) ⟨Nat.le_of_ble_eq_true rfl, Nat.le_of_ble_eq_true rfl⟩ tkC_168 (by decide) rfl rfl hl.1 rfl (Nat.le_of_ble_eq_true rfl) dX11_got_5 (hq_kr (fun M9 H locs hw hs => ?_) (fun o1 M9 H locs ho1 hw hs => ?_))
  · obtain ⟨e9, hw⟩ := hw; rw [e9] at hs
    have hw := hw.1 rfl
    refine lv_astore_nN (lv' := [(3, .null), (0, .ref (B + 0)), (1, .int (w3 v1)), (2, .int (w3 v2))]) hx hb dX11_got_8 rfl hl (by decide) rfl (fun ls hl => ?_)
    refine lv_aload_nN hx hb dX11_got_9 rfl (lv_at hl 0 rfl) ?_
    refine lv_ifnullN (tgt := 28) hx hb dX11_got_10 (by decide) ?_
    refine hq_iconst C dX11_got_28 ?_
    exact hq_iret C hs (by decide : rg (-1)) ⟨rfl, hw⟩ dX11_got_29
  · obtain ⟨e9, hw⟩ := hw; rw [e9] at hs
    have hw := hw.2 o1 rfl
    refine lv_astore_n (lv' := [(3, .ref (B + o1)), (0, .ref (B + 0)), (1, .int (w3 v1)), (2, .int (w3 v2))]) hx hb dX11_got_8 rfl hl (by decide) rfl (fun ls hl => ?_)
    refine lv_aload_n hx hb dX11_got_9 rfl (lv_at hl 0 rfl) ?_
    refine lv_ifnull hx hb dX11_got_10 ?_
    refine lv_iload_n hx hb dX11_got_13 rfl (lv_at hl 3 rfl) ?_
    refine hq_if_lt (tgt := 28) C rv2 dX11_got_14 (by decide) (fun h => ?_) (fun h => ?_)
    · have hw := hw.1 h
      refine hq_iconst C dX11_got_28 ?_
      exact hq_iret C hs (by decide : rg (-1)) ⟨rfl, hw⟩ dX11_got_29
    · have hw := hw.2 h
      refine lv_iload_n hx hb dX11_got_17 rfl (lv_at hl 3 rfl) ?_
      refine lv_aload_n hx hb dX11_got_18 rfl (lv_at hl 0 rfl) ?_
      refine hq_getR (o := o1) C hs fX11_got_284 ho1 (by decide) rfl dX11_got_19 ?_
      refine hq_getI (o := (o1 + 1)) C hs fX11_got_92 (tc_0_1 ho1) (by decide) rfl dX11_got_22 (fun g3 => ?_)
      refine hq_icmp_lt (tgt := 30) C rv2 g3 dX11_got_25 (by decide) (fun h => ?_) (fun h => ?_)
      · have hw := hw.1 h
        refine lv_aload_n hx hb dX11_got_30 rfl (lv_at hl 0 rfl) ?_
        refine hq_getI (o := o1) C hs fX11_got_216 ho1 (by decide) rfl dX11_got_31 (fun g4 => ?_)
        refine hq_iconst C dX11_got_34 ?_
        refine hq_icmp_ne (tgt := 49) C g4 (by decide : rg 2) dX11_got_35 (by decide) (fun h => ?_) (fun h => ?_)
        · have hw := hw.1 h
          refine hq_bipush C dX11_got_49 (by decide) ?_
          exact hq_iret C hs (by decide : rg (-2)) ⟨rfl, hw⟩ dX11_got_51
        · have hw := hw.2 h
          refine lv_aload_n hx hb dX11_got_38 rfl (lv_at hl 0 rfl) ?_
          refine hq_getR (o := o1) C hs fX11_got_284 ho1 (by decide) rfl dX11_got_39 ?_
          refine lv_iload_n hx hb dX11_got_42 rfl (lv_at hl 3 rfl) ?_
          refine hq_cV (n := 1) (ci := 6) (o := (o1 + 1)) (qc := (TX6, 2)) C hs (c_X6_at l C.2.2.2.2.1 (o1 + 1) (tc_0_1 ho1) v2 rv2 _ _ hw) gX11_got_X6_at rfl ⟨rfl, rfl⟩ (by decide +kernel) ⟨Nat.le_of_ble_eq_true rfl, Nat.le_of_ble_eq_true rfl⟩ (tc_0_1 ho1) (by decide) rfl rfl hl.1 rfl (Nat.le_of_ble_eq_true rfl) dX11_got_43 (hq_ki (fun x5 M9 H locs rx5 hw hs => ?_))
          obtain ⟨e9, hw⟩ := hw; rw [e9] at hs
          refine hq_goto (tgt := 51) C dX11_got_46 (by decide) ?_
          exact hq_iret C hs rx5 ⟨rfl, hw⟩ dX11_got_51
      · have hw := hw.2 h
        refine hq_iconst C dX11_got_28 ?_
        exact hq_iret C hs (by decide : rg (-1)) ⟨rfl, hw⟩ dX11_got_29
theorem iX11_waits_11 : ∀ w ∈ u_ws RX11 TX11 11, w ∈ wsX11_waits := fun w h => List.mem_cons_of_mem _ (List.mem_append_left _ (List.mem_append_left _ (List.mem_append_right _ h)))
set_option maxRecDepth 20000 in
theorem fX11_waits_46 : hq_fl vwCl wsX11_waits RX11 46 11 4 true (.object "HeadTables$Letters") := ⟨RX11, TX11, 11, tyX11, rfl, by decide, iX11_waits_11, by decide +kernel, rfl, tyX11_ok 4 (by decide), tyX11_ok, nmX11⟩
set_option maxHeartbeats 4000000 in
set_option maxRecDepth 100000 in
theorem c_X11_waits (l : Launch) {D : va_G} {cA : Nat → ClassId} {B : Nat} {Z : State → Prop} (hZ : hq_Zo Z (hq_in B YC.length)) (v1 : Int) (rv1 : rg v1) (M : hq_M) (k : Int → Prop) (hw : w_X11_waits v1 M k) : hq_T vwCl SLx l yX11_waits wsX11_waits ({ frames := 4, cells := 0, slots := 0, locals := 90 } : Room) D cA YC B Z [.ref (B + 0), .int (w3 v1)] M (hq_qi (fun z M' => M' = M ∧ k z)) := by
  refine hq_meth (cc := cX11_waits) (maxL := 2) (ret := (some .int)) (own := RX11) hZ rfl (by decide +kernel) rfl (Nat.le_of_ble_eq_true rfl) ?_
  intro p e s m below meth c ls C hs hl
  have hx := C.1.1
  have hb := C.1.2.1
  unfold w_X11_waits at hw
  have hl : lv_has ls 2 [(0, .ref (B + 0)), (1, .int (w3 v1))] := hl
  refine lv_iload_n hx hb dX11_waits_0 rfl (lv_at hl 1 rfl) ?_
  refine hq_if_ge (tgt := 8) C rv1 dX11_waits_1 (by decide) (fun h => ?_) (fun h => ?_)
  · have hw := hw.1 h
    refine lv_aload_n hx hb dX11_waits_8 rfl (lv_at hl 0 rfl) ?_
    refine hq_getA (o := 0) C hs fX11_waits_46 tkC_0 (by decide) rfl dX11_waits_9 ?_
    refine lv_iload_n hx hb dX11_waits_12 rfl (lv_at hl 1 rfl) ?_
    refine hq_cV (n := 1) (ci := 1) (o := 168) (qc := (TX1, 2)) C hs (c_X1_blockedAt l C.2.2.2.2.1 v1 rv1 _ _ hw) gX11_waits_X1_blockedAt rfl ⟨rfl, rfl⟩ (by decide +kernel) ⟨Nat.le_of_ble_eq_true rfl, Nat.le_of_ble_eq_true rfl⟩ tkC_168 (by decide) rfl rfl hl.1 rfl (Nat.le_of_ble_eq_true rfl) dX11_waits_13 (hq_ki (fun x1 M9 H locs rx1 hw hs => ?_))
    obtain ⟨e9, hw⟩ := hw; rw [e9] at hs
    exact hq_iret C hs rx1 ⟨rfl, hw⟩ dX11_waits_16
  · have hw := hw.2 h
    refine hq_iconst C dX11_waits_4 ?_
    refine hq_goto (tgt := 16) C dX11_waits_5 (by decide) ?_
    exact hq_iret C hs (by decide : rg (-1)) ⟨rfl, hw⟩ dX11_waits_16
theorem iX11_octet_0 : ∀ w ∈ u_ws RX0 TX0 8, w ∈ wsX11_octet := fun w h => List.mem_cons_of_mem _ (List.mem_append_left _ (List.mem_append_left _ (List.mem_append_right _ h)))
theorem iX11_octet_5 : ∀ w ∈ u_ws RX5 TX5 3, w ∈ wsX11_octet := fun w h => List.mem_cons_of_mem _ (List.mem_append_left _ (List.mem_append_left _ (List.mem_append_left _ (List.mem_append_right _ h))))
theorem iX11_octet_8 : ∀ w ∈ u_ws RX8 TX8 5, w ∈ wsX11_octet := fun w h => List.mem_cons_of_mem _ (List.mem_append_left _ (List.mem_append_left _ (List.mem_append_left _ (List.mem_append_left _ (List.mem_append_right _ h)))))
theorem iX11_octet_10 : ∀ w ∈ u_ws RX10 TX10 8, w ∈ wsX11_octet := fun w h => List.mem_cons_of_mem _ (List.mem_append_left _ (List.mem_append_left _ (List.mem_append_left _ (List.mem_append_left _ (List.mem_append_left _ (List.mem_append_right _ h))))))
theorem iX11_octet_11 : ∀ w ∈ u_ws RX11 TX11 11, w ∈ wsX11_octet := fun w h => List.mem_cons_of_mem _ (List.mem_append_left _ (List.mem_append_left _ (List.mem_append_left _ (List.mem_append_left _ (List.mem_append_left _ (List.mem_append_left _ (List.mem_append_right _ h)))))))
set_option maxRecDepth 20000 in
theorem fX11_octet_46 : hq_fl vwCl wsX11_octet RX11 46 11 4 true (.object "HeadTables$Letters") := ⟨RX11, TX11, 11, tyX11, rfl, by decide, iX11_octet_11, by decide +kernel, rfl, tyX11_ok 4 (by decide), tyX11_ok, nmX11⟩
set_option maxRecDepth 20000 in
theorem fX11_octet_55 : hq_fl vwCl wsX11_octet RX11 55 11 5 true (.object "HeadTables$Writer") := ⟨RX11, TX11, 11, tyX11, rfl, by decide, iX11_octet_11, by decide +kernel, rfl, tyX11_ok 5 (by decide), tyX11_ok, nmX11⟩
set_option maxRecDepth 20000 in
theorem fX11_octet_62 : hq_fl vwCl wsX11_octet RX11 62 11 6 true (.object "HeadTables$Reader") := ⟨RX11, TX11, 11, tyX11, rfl, by decide, iX11_octet_11, by decide +kernel, rfl, tyX11_ok 6 (by decide), tyX11_ok, nmX11⟩
set_option maxRecDepth 20000 in
theorem fX11_octet_162 : hq_fl vwCl wsX11_octet RX11 162 10 1 true (.object "HeadTables$Stream") := ⟨RX10, TX10, 8, tyX10, rfl, by decide, iX11_octet_10, by decide +kernel, rfl, tyX10_ok 1 (by decide), tyX10_ok, nmX10⟩
set_option maxRecDepth 20000 in
theorem fX11_octet_166 : hq_fl vwCl wsX11_octet RX11 166 8 0 true (.object "HeadTables$Row") := ⟨RX8, TX8, 5, tyX8, rfl, by decide, iX11_octet_8, by decide +kernel, rfl, tyX8_ok 0 (by decide), tyX8_ok, nmX8⟩
set_option maxRecDepth 20000 in
theorem fX11_octet_171 : hq_fl vwCl wsX11_octet RX11 171 0 2 true (.object "HeadTables$Row") := ⟨RX0, TX0, 8, tyX0, rfl, by decide, iX11_octet_0, by decide +kernel, rfl, tyX0_ok 2 (by decide), tyX0_ok, nmX0⟩
set_option maxRecDepth 20000 in
theorem fX11_octet_235 : hq_fl vwCl wsX11_octet RX11 235 5 1 true (.object "HeadTables$Row") := ⟨RX5, TX5, 3, tyX5, rfl, by decide, iX11_octet_5, by decide +kernel, rfl, tyX5_ok 1 (by decide), tyX5_ok, nmX5⟩
set_option maxHeartbeats 4000000 in
set_option maxRecDepth 100000 in
theorem c_X11_octet (l : Launch) {D : va_G} {cA : Nat → ClassId} {B : Nat} {Z : State → Prop} (hZ : hq_Zo Z (hq_in B YC.length)) (v1 : Int) (rv1 : rg v1) (v2 : Int) (rv2 : rg v2) (M : hq_M) (k : Int → Prop) (hw : w_X11_octet v1 v2 M k) : hq_T vwCl SLx l yX11_octet wsX11_octet ({ frames := 1, cells := 0, slots := 0, locals := 21 } : Room) D cA YC B Z [.ref (B + 0), .int (w3 v1), .int (w3 v2)] M (hq_qi (fun z M' => M' = M ∧ k z)) := by
  refine hq_meth (cc := cX11_octet) (maxL := 4) (ret := (some .int)) (own := RX11) hZ rfl (by decide +kernel) rfl (Nat.le_of_ble_eq_true rfl) ?_
  intro p e s m below meth c ls C hs hl
  have hx := C.1.1
  have hb := C.1.2.1
  unfold w_X11_octet at hw
  have hl : lv_has ls 4 [(0, .ref (B + 0)), (1, .int (w3 v1)), (2, .int (w3 v2))] := hl
  refine lv_iload_n hx hb dX11_octet_0 rfl (lv_at hl 2 rfl) ?_
  refine hq_if_ge (tgt := 6) C rv2 dX11_octet_1 (by decide) (fun h => ?_) (fun h => ?_)
  · have hw := hw.1 h
    refine lv_iload_n hx hb dX11_octet_6 rfl (lv_at hl 1 rfl) ?_
    refine hq_bipush C dX11_octet_7 (by decide) ?_
    refine hq_icmp_ne (tgt := 27) C rv1 (by decide : rg 40) dX11_octet_9 (by decide) (fun h => ?_) (fun h => ?_)
    · have hw := hw.1 h
      refine lv_iload_n hx hb dX11_octet_27 rfl (lv_at hl 1 rfl) ?_
      refine hq_bipush C dX11_octet_28 (by decide) ?_
      refine hq_icmp_ne (tgt := 45) C rv1 (by decide : rg 41) dX11_octet_30 (by decide) (fun h => ?_) (fun h => ?_)
      · have hw := hw.1 h
        refine lv_aload_n hx hb dX11_octet_45 rfl (lv_at hl 0 rfl) ?_
        refine hq_getA (o := 0) C hs fX11_octet_46 tkC_0 (by decide) rfl dX11_octet_46 ?_
        refine lv_iload_n hx hb dX11_octet_49 rfl (lv_at hl 1 rfl) ?_
        refine hq_cV (n := 1) (ci := 1) (o := 168) (qc := (TX1, 2)) C hs (c_X1_at l C.2.2.2.2.1 v1 rv1 _ _ hw) gX11_octet_X1_at rfl ⟨rfl, rfl⟩ (by decide +kernel) ⟨Nat.le_of_ble_eq_true rfl, Nat.le_of_ble_eq_true rfl⟩ tkC_168 (by decide) rfl rfl hl.1 rfl (Nat.le_of_ble_eq_true rfl) dX11_octet_50 (hq_kr (fun M9 H locs hw hs => ?_) (fun o1 M9 H locs ho1 hw hs => ?_))
        · obtain ⟨e9, hw⟩ := hw; rw [e9] at hs
          have hw := hw.1 rfl
          refine lv_astore_nN (lv' := [(3, .null), (0, .ref (B + 0)), (1, .int (w3 v1)), (2, .int (w3 v2))]) hx hb dX11_octet_53 rfl hl (by decide) rfl (fun ls hl => ?_)
          refine lv_aload_nN hx hb dX11_octet_54 rfl (lv_at hl 0 rfl) ?_
          refine lv_ifnonnullN hx hb dX11_octet_55 ?_
          refine hq_iconst C dX11_octet_58 ?_
          refine hq_goto (tgt := 70) C dX11_octet_59 (by decide) ?_
          exact hq_iret C hs (by decide : rg (-1)) ⟨rfl, hw⟩ dX11_octet_70
        · obtain ⟨e9, hw⟩ := hw; rw [e9] at hs
          have hw := hw.2 o1 rfl
          refine lv_astore_n (lv' := [(3, .ref (B + o1)), (0, .ref (B + 0)), (1, .int (w3 v1)), (2, .int (w3 v2))]) hx hb dX11_octet_53 rfl hl (by decide) rfl (fun ls hl => ?_)
          refine lv_aload_n hx hb dX11_octet_54 rfl (lv_at hl 0 rfl) ?_
          refine lv_ifnonnull (tgt := 62) hx hb dX11_octet_55 (by decide) ?_
          refine lv_aload_n hx hb dX11_octet_62 rfl (lv_at hl 0 rfl) ?_
          refine hq_getR (o := o1) C hs fX11_octet_171 ho1 (by decide) rfl dX11_octet_63 ?_
          refine lv_iload_n hx hb dX11_octet_66 rfl (lv_at hl 3 rfl) ?_
          refine hq_cV (n := 1) (ci := 6) (o := (o1 + 3)) (qc := (TX6, 2)) C hs (c_X6_at l C.2.2.2.2.1 (o1 + 3) (tc_0_2 ho1) v2 rv2 _ _ hw) gX11_octet_X6_at rfl ⟨rfl, rfl⟩ (by decide +kernel) ⟨Nat.le_of_ble_eq_true rfl, Nat.le_of_ble_eq_true rfl⟩ (tc_0_2 ho1) (by decide) rfl rfl hl.1 rfl (Nat.le_of_ble_eq_true rfl) dX11_octet_67 (hq_ki (fun x3 M9 H locs rx3 hw hs => ?_))
          obtain ⟨e9, hw⟩ := hw; rw [e9] at hs
          exact hq_iret C hs rx3 ⟨rfl, hw⟩ dX11_octet_70
      · have hw := hw.2 h
        refine lv_aload_n hx hb dX11_octet_33 rfl (lv_at hl 0 rfl) ?_
        refine hq_getA (o := 0) C hs fX11_octet_62 tkC_0 (by decide) rfl dX11_octet_34 ?_
        refine hq_getR (o := 384) C hs fX11_octet_235 tkC_384 (by decide) rfl dX11_octet_37 ?_
        refine lv_iload_n hx hb dX11_octet_40 rfl (lv_at hl 2 rfl) ?_
        refine hq_cV (n := 1) (ci := 6) (o := 389) (qc := (TX6, 2)) C hs (c_X6_at l C.2.2.2.2.1 389 tkC_389 v2 rv2 _ _ hw) gX11_octet_X6_at rfl ⟨rfl, rfl⟩ (by decide +kernel) ⟨Nat.le_of_ble_eq_true rfl, Nat.le_of_ble_eq_true rfl⟩ tkC_389 (by decide) rfl rfl hl.1 rfl (Nat.le_of_ble_eq_true rfl) dX11_octet_41 (hq_ki (fun x4 M9 H locs rx4 hw hs => ?_))
        obtain ⟨e9, hw⟩ := hw; rw [e9] at hs
        exact hq_iret C hs rx4 ⟨rfl, hw⟩ dX11_octet_44
    · have hw := hw.2 h
      refine lv_aload_n hx hb dX11_octet_12 rfl (lv_at hl 0 rfl) ?_
      refine hq_getA (o := 0) C hs fX11_octet_55 tkC_0 (by decide) rfl dX11_octet_13 ?_
      refine hq_getR (o := 370) C hs fX11_octet_162 tkC_370 (by decide) rfl dX11_octet_16 ?_
      refine hq_getR (o := 375) C hs fX11_octet_166 tkC_375 (by decide) rfl dX11_octet_19 ?_
      refine lv_iload_n hx hb dX11_octet_22 rfl (lv_at hl 2 rfl) ?_
      refine hq_cV (n := 1) (ci := 6) (o := 376) (qc := (TX6, 2)) C hs (c_X6_at l C.2.2.2.2.1 376 tkC_376 v2 rv2 _ _ hw) gX11_octet_X6_at rfl ⟨rfl, rfl⟩ (by decide +kernel) ⟨Nat.le_of_ble_eq_true rfl, Nat.le_of_ble_eq_true rfl⟩ tkC_376 (by decide) rfl rfl hl.1 rfl (Nat.le_of_ble_eq_true rfl) dX11_octet_23 (hq_ki (fun x5 M9 H locs rx5 hw hs => ?_))
      obtain ⟨e9, hw⟩ := hw; rw [e9] at hs
      exact hq_iret C hs rx5 ⟨rfl, hw⟩ dX11_octet_26
  · have hw := hw.2 h
    refine hq_iconst C dX11_octet_4 ?_
    exact hq_iret C hs (by decide : rg (-1)) ⟨rfl, hw⟩ dX11_octet_5
theorem iX11_coded_6 : ∀ w ∈ u_ws RX6 TX6 2, w ∈ wsX11_coded := fun w h => List.mem_cons_of_mem _ (List.mem_append_right _ h)
theorem iX11_coded_11 : ∀ w ∈ u_ws RX11 TX11 11, w ∈ wsX11_coded := fun w h => List.mem_cons_of_mem _ (List.mem_append_left _ (List.mem_append_right _ h))
set_option maxRecDepth 20000 in
theorem fX11_coded_21 : hq_fl vwCl wsX11_coded RX11 21 11 2 true (.object "HeadTables$Row") := ⟨RX11, TX11, 11, tyX11, rfl, by decide, iX11_coded_11, by decide +kernel, rfl, tyX11_ok 2 (by decide), tyX11_ok, nmX11⟩
set_option maxRecDepth 20000 in
theorem fX11_coded_92 : hq_fl vwCl wsX11_coded RX11 92 6 1 false .int := ⟨RX6, TX6, 2, tyX6, rfl, by decide, iX11_coded_6, by decide +kernel, rfl, tyX6_ok 1 (by decide), tyX6_ok, nmX6⟩
set_option maxRecDepth 20000 in
theorem kX11_coded_272 : Cond.constantLong RX11 272 (-1) ∈ wsX11_coded := by decide +kernel
set_option maxRecDepth 20000 in
theorem kX11_coded_289 : Cond.constantLong RX11 289 256 ∈ wsX11_coded := by decide +kernel
set_option maxHeartbeats 4000000 in
set_option maxRecDepth 100000 in
theorem cl_X11_coded_41 {p : Program} {l : Launch} {e : Env} {s : State} {m : MethodId} {args : Array Value} {below : List Frame} {meth : Method} {c : Code} {D : va_G} {cA : Nat → ClassId} {B : Nat} {Z : State → Prop}   {k : Int → hq_M → Prop} (C : hq_C vwCl p m c cX11_coded 6 s args wsX11_coded RX11 meth (some .long) D cA (hq_in B YC.length) Z)
     : ∀ (n : Nat) (v3 : Int) (rv3 : rl v3) (v5 : Int) (rv5 : rg v5) (M : hq_M) (H : Heap) (locs : List Loc) (ls : Array Slot), l_X11_coded_41 k n v3 v5 M → hq_S vwCl SLx D cA YC B s.heap M H locs → lv_has ls 6 [(0, .ref (B + 0)), (3, .long (w6 v3)), (5, .int (w3 v5))] → W p l e ({ frames := 2, cells := 0, slots := 0, locals := 47 } : Room) s m args below meth c H locs 0 0 (MQ below (hq_Q vwCl SLx D cA YC B (hq_ql k)) args s 0 0 (hq_in B YC.length)) (F0 m 41 ls []) := by
  have hx := C.1.1
  have hb := C.1.2.1
  intro n
  induction n with
  | zero => intro v3 rv3 v5 rv5 M H locs ls hw hs hl; exact hw.elim
  | succ n ih =>
    intro v3 rv3 v5 rv5 M H locs ls hw hs hl
    unfold l_X11_coded_41 at hw
    refine lv_iload hx hb dX11_coded_41 (lv_at hl 2 rfl) ?_
    refine lv_aload_n hx hb dX11_coded_43 rfl (lv_at hl 0 rfl) ?_
    refine hq_getA (o := 0) C hs fX11_coded_21 tkC_0 (by decide) rfl dX11_coded_44 ?_
    refine hq_getI (o := 5) C hs fX11_coded_92 tkC_5 (by decide) rfl dX11_coded_47 (fun g1 => ?_)
    refine hq_icmp_ge (tgt := 76) C rv5 g1 dX11_coded_50 (by decide) (fun h => ?_) (fun h => ?_)
    · have hw := hw.1 h
      refine lv_lload_n hx hb dX11_coded_76 rfl (lv_at hl 1 rfl) ?_
      exact hq_lret C hs rv3 hw dX11_coded_77
    · have hw := hw.2 h
      refine lv_lload_n hx hb dX11_coded_53 rfl (lv_at hl 1 rfl) ?_
      refine hq_ldc2 (z := 256) C kX11_coded_289 (by decide) dX11_coded_54 ?_
      obtain ⟨g2, hw⟩ := hw
      refine hq_lmul C dX11_coded_57 ?_
      refine lv_aload_n hx hb dX11_coded_58 rfl (lv_at hl 0 rfl) ?_
      refine hq_getA (o := 0) C hs fX11_coded_21 tkC_0 (by decide) rfl dX11_coded_59 ?_
      refine lv_iload hx hb dX11_coded_62 (lv_at hl 2 rfl) ?_
      refine hq_cV (n := 1) (ci := 6) (o := 5) (qc := (TX6, 2)) C hs (c_X6_at l C.2.2.2.2.1 5 tkC_5 v5 rv5 _ _ hw) gX11_coded_X6_at rfl ⟨rfl, rfl⟩ (by decide +kernel) ⟨Nat.le_of_ble_eq_true rfl, Nat.le_of_ble_eq_true rfl⟩ tkC_5 (by decide) rfl rfl hl.1 rfl (Nat.le_of_ble_eq_true rfl) dX11_coded_64 (hq_ki (fun x3 M9 H locs rx3 hw hs => ?_))
      obtain ⟨e9, hw⟩ := hw; rw [e9] at hs
      refine hq_i2l (y := 0) C rx3 dX11_coded_67 ?_
      obtain ⟨g4, hw⟩ := hw
      refine hq_ladd C dX11_coded_68 ?_
      refine hq_nmL (fun x5 ex5 => ?_)
      have hw := hw x5 ex5
      have rx5 : rl x5 := by rw [ex5]; exact g4
      refine lv_lstore_n (lv' := [(3, .long (w6 x5)), (0, .ref (B + 0)), (5, .int (w3 v5))]) hx hb dX11_coded_69 rfl hl (by decide) rfl (fun ls hl => ?_)
      obtain ⟨g7, hw⟩ := hw
      refine hq_iinc (k := 2) C dX11_coded_70 hl rfl (by decide) (fun x6 ex6 ls hl => ?_)
      have hw := hw x6 ex6
      have rx6 : rg x6 := by rw [ex6]; exact g7
      have hl : lv_has ls 6 [(5, .int (w3 x6)), (3, .long (w6 x5)), (0, .ref (B + 0))] := hl
      refine hq_goto (tgt := 41) C dX11_coded_73 (by decide) ?_
      exact ih x5 rx5 x6 rx6 _ _ _ _ hw hs (lv_sub hl [2, 1, 0] rfl)
set_option maxHeartbeats 4000000 in
set_option maxRecDepth 100000 in
theorem c_X11_coded (l : Launch) {D : va_G} {cA : Nat → ClassId} {B : Nat} {Z : State → Prop} (hZ : hq_Zo Z (hq_in B YC.length)) (v1 : Int) (rv1 : rg v1) (v2 : Int) (rv2 : rg v2) (M : hq_M) (k : Int → hq_M → Prop) (hw : w_X11_coded v1 v2 M k) : hq_T vwCl SLx l yX11_coded wsX11_coded ({ frames := 2, cells := 0, slots := 0, locals := 47 } : Room) D cA YC B Z [.ref (B + 0), .int (w3 v1), .int (w3 v2)] M (hq_ql k) := by
  refine hq_meth (cc := cX11_coded) (maxL := 6) (ret := (some .long)) (own := RX11) hZ rfl (by decide +kernel) rfl (Nat.le_of_ble_eq_true rfl) ?_
  intro p e s m below meth c ls C hs hl
  have hx := C.1.1
  have hb := C.1.2.1
  unfold w_X11_coded at hw
  have hl : lv_has ls 6 [(0, .ref (B + 0)), (1, .int (w3 v1)), (2, .int (w3 v2))] := hl
  refine lv_iload_n hx hb dX11_coded_0 rfl (lv_at hl 1 rfl) ?_
  refine hq_iconst C dX11_coded_1 ?_
  refine hq_icmp_lt (tgt := 15) C rv1 (by decide : rg 1) dX11_coded_2 (by decide) (fun h => ?_) (fun h => ?_)
  · have hw := hw.1 h
    refine hq_ldc2 (z := (-1)) C kX11_coded_272 (by decide) dX11_coded_15 ?_
    exact hq_lret C hs (by decide : rl (-1)) hw dX11_coded_18
  · have hw := hw.2 h
    refine lv_iload_n hx hb dX11_coded_5 rfl (lv_at hl 1 rfl) ?_
    refine hq_bipush C dX11_coded_6 (by decide) ?_
    refine hq_icmp_gt (tgt := 15) C rv1 (by decide : rg 8) dX11_coded_8 (by decide) (fun h => ?_) (fun h => ?_)
    · have hw := hw.1 h
      refine hq_ldc2 (z := (-1)) C kX11_coded_272 (by decide) dX11_coded_15 ?_
      exact hq_lret C hs (by decide : rl (-1)) hw dX11_coded_18
    · have hw := hw.2 h
      refine lv_iload_n hx hb dX11_coded_11 rfl (lv_at hl 2 rfl) ?_
      refine hq_if_ge (tgt := 19) C rv2 dX11_coded_12 (by decide) (fun h => ?_) (fun h => ?_)
      · have hw := hw.1 h
        refine lv_aload_n hx hb dX11_coded_19 rfl (lv_at hl 0 rfl) ?_
        refine hq_getA (o := 0) C hs fX11_coded_21 tkC_0 (by decide) rfl dX11_coded_20 ?_
        refine hq_cV (n := 0) (ci := 6) (o := 5) (qc := (TX6, 2)) C hs (c_X6_empty l C.2.2.2.2.1 5 tkC_5 _ _ hw) gX11_coded_X6_empty rfl ⟨rfl, rfl⟩ (by decide +kernel) ⟨Nat.le_of_ble_eq_true rfl, Nat.le_of_ble_eq_true rfl⟩ tkC_5 (by decide) rfl rfl hl.1 rfl (Nat.le_of_ble_eq_true rfl) dX11_coded_23 (hq_kv (fun M1 H locs hw hs => ?_))
        refine lv_aload_n hx hb dX11_coded_26 rfl (lv_at hl 0 rfl) ?_
        refine hq_getA (o := 0) C hs fX11_coded_21 tkC_0 (by decide) rfl dX11_coded_27 ?_
        refine hq_iconst C dX11_coded_30 ?_
        refine lv_iload_n hx hb dX11_coded_31 rfl (lv_at hl 1 rfl) ?_
        refine lv_iload_n hx hb dX11_coded_32 rfl (lv_at hl 2 rfl) ?_
        refine hq_cV (n := 3) (ci := 6) (o := 5) (qc := (TX6, 2)) C hs (c_X6_addInteger l C.2.2.2.2.1 5 tkC_5 0 (by decide : rg 0) v1 rv1 v2 rv2 _ _ hw) gX11_coded_X6_addInteger rfl ⟨rfl, rfl⟩ (by decide +kernel) ⟨Nat.le_of_ble_eq_true rfl, Nat.le_of_ble_eq_true rfl⟩ tkC_5 (by decide) rfl rfl hl.1 rfl (Nat.le_of_ble_eq_true rfl) dX11_coded_33 (hq_kv (fun M2 H locs hw hs => ?_))
        refine hq_lconst (z := 0) C dX11_coded_36 rfl ?_
        refine lv_lstore_n (lv' := [(3, .long (w6 0)), (0, .ref (B + 0)), (1, .int (w3 v1)), (2, .int (w3 v2))]) hx hb dX11_coded_37 rfl hl (by decide) rfl (fun ls hl => ?_)
        refine hq_iconst C dX11_coded_38 ?_
        refine lv_istore (lv' := [(5, .int (w3 0)), (3, .long (w6 0)), (0, .ref (B + 0)), (1, .int (w3 v1)), (2, .int (w3 v2))]) hx hb dX11_coded_39 hl (by decide) rfl (fun ls hl => ?_)
        obtain ⟨n9, hw⟩ := hw
        refine cl_X11_coded_41  C  n9 0 (by decide : rl 0) 0 (by decide : rg 0) _ _ _ _ hw hs (lv_sub hl [2, 1, 0] rfl)
      · have hw := hw.2 h
        refine hq_ldc2 (z := (-1)) C kX11_coded_272 (by decide) dX11_coded_15 ?_
        exact hq_lret C hs (by decide : rl (-1)) hw dX11_coded_18
set_option maxRecDepth 20000 in
theorem kX11_withGroup_300 : Cond.constantLong RX11 300 2147483648 ∈ wsX11_withGroup := by decide +kernel
set_option maxHeartbeats 4000000 in
set_option maxRecDepth 100000 in
theorem c_X11_withGroup (l : Launch) {D : va_G} {cA : Nat → ClassId} {B : Nat} {Z : State → Prop} (hZ : hq_Zo Z (hq_in B YC.length)) (v0 : Int) (rv0 : rl v0) (v2 : Int) (rv2 : rg v2) (v3 : Int) (rv3 : rg v3) (M : hq_M) (k : Int → Prop) (hw : w_X11_withGroup v0 v2 v3 M k) : hq_T vwCl SLx l yX11_withGroup wsX11_withGroup ({ frames := 0, cells := 0, slots := 0, locals := 0 } : Room) D cA YC B Z [.long (w6 v0), .int (w3 v2), .int (w3 v3)] M (hq_ql (fun z M' => M' = M ∧ k z)) := by
  refine hq_meth (cc := cX11_withGroup) (maxL := 4) (ret := (some .long)) (own := RX11) hZ rfl (by decide +kernel) rfl (Nat.le_of_ble_eq_true rfl) ?_
  intro p e s m below meth c ls C hs hl
  have hx := C.1.1
  have hb := C.1.2.1
  unfold w_X11_withGroup at hw
  have hl : lv_has ls 4 [(0, .long (w6 v0)), (2, .int (w3 v2)), (3, .int (w3 v3))] := hl
  refine lv_iload_n hx hb dX11_withGroup_0 rfl (lv_at hl 1 rfl) ?_
  refine hq_if_ne (tgt := 6) C rv2 dX11_withGroup_1 (by decide) (fun h => ?_) (fun h => ?_)
  · have hw := hw.1 h
    refine lv_iload_n hx hb dX11_withGroup_6 rfl (lv_at hl 2 rfl) ?_
    refine hq_iconst C dX11_withGroup_7 ?_
    refine hq_icmp_le (tgt := 17) C rv3 (by decide : rg 4) dX11_withGroup_8 (by decide) (fun h => ?_) (fun h => ?_)
    · have hw := hw.1 h
      refine lv_lload_n hx hb dX11_withGroup_17 rfl (lv_at hl 0 rfl) ?_
      refine lv_iload_n hx hb dX11_withGroup_18 rfl (lv_at hl 1 rfl) ?_
      refine hq_i2l (y := 0) C rv2 dX11_withGroup_19 ?_
      refine hq_bipush C dX11_withGroup_20 (by decide) ?_
      refine lv_iload_n hx hb dX11_withGroup_22 rfl (lv_at hl 2 rfl) ?_
      obtain ⟨g1, hw⟩ := hw
      refine hq_imul C dX11_withGroup_23 ?_
      refine hq_lshl C dX11_withGroup_24 ?_
      obtain ⟨g2, hw⟩ := hw
      refine hq_ladd C dX11_withGroup_25 ?_
      exact hq_lret C hs g2 ⟨rfl, hw⟩ dX11_withGroup_26
    · have hw := hw.2 h
      refine hq_ldc2 (z := 2147483648) C kX11_withGroup_300 (by decide) dX11_withGroup_11 ?_
      refine hq_goto (tgt := 26) C dX11_withGroup_14 (by decide) ?_
      exact hq_lret C hs (by decide : rl 2147483648) ⟨rfl, hw⟩ dX11_withGroup_26
  · have hw := hw.2 h
    refine lv_lload_n hx hb dX11_withGroup_4 rfl (lv_at hl 0 rfl) ?_
    exact hq_lret C hs rv0 ⟨rfl, hw⟩ dX11_withGroup_5
theorem iX11_withGroups_6 : ∀ w ∈ u_ws RX6 TX6 2, w ∈ wsX11_withGroups := fun w h => List.mem_cons_of_mem _ (List.mem_append_right _ h)
theorem iX11_withGroups_11 : ∀ w ∈ u_ws RX11 TX11 11, w ∈ wsX11_withGroups := fun w h => List.mem_cons_of_mem _ (List.mem_append_left _ (List.mem_append_right _ h))
set_option maxRecDepth 20000 in
theorem fX11_withGroups_14 : hq_fl vwCl wsX11_withGroups RX11 14 11 0 true (.object "HeadTables$Row") := ⟨RX11, TX11, 11, tyX11, rfl, by decide, iX11_withGroups_11, by decide +kernel, rfl, tyX11_ok 0 (by decide), tyX11_ok, nmX11⟩
set_option maxRecDepth 20000 in
theorem fX11_withGroups_92 : hq_fl vwCl wsX11_withGroups RX11 92 6 1 false .int := ⟨RX6, TX6, 2, tyX6, rfl, by decide, iX11_withGroups_6, by decide +kernel, rfl, tyX6_ok 1 (by decide), tyX6_ok, nmX6⟩
set_option maxRecDepth 20000 in
theorem kX11_withGroups_298 : Cond.constantLong RX11 298 2147483647 ∈ wsX11_withGroups := by decide +kernel
set_option maxHeartbeats 4000000 in
set_option maxRecDepth 100000 in
theorem cb_X11_withGroups_73 {p : Program} {l : Launch} {e : Env} {s : State} {m : MethodId} {args : Array Value} {below : List Frame} {meth : Method} {c : Code} {D : va_G} {cA : Nat → ClassId} {B : Nat} {Z : State → Prop} (v2 : Int) (rv2 : rl v2) (v4 : Int) (rv4 : rg v4) (v5 : Int) (rv5 : rb v5) (t0 : Int) (rt0 : rb t0) {k_20 : Int → Int → Prop} {k : Int → Prop} {M : hq_M} {H : Heap} {locs : List Loc} {ls : Array Slot} (C : hq_C vwCl p m c cX11_withGroups 7 s args wsX11_withGroups RX11 meth (some .int) D cA (hq_in B YC.length) Z)
    (hw : b_X11_withGroups_73 v2 v4 v5 t0 k_20 k M) (hs : hq_S vwCl SLx D cA YC B s.heap M H locs) (hl : lv_has ls 7 [(0, .ref (B + 0)), (2, .long (w6 v2)), (4, .int (w3 v4)), (5, .int (w3 v5))])
    (hk_20 : ∀ (y2 : Int) (ry2 : rl y2) (y4 : Int) (ry4 : rg y4) (H : Heap) (locs : List Loc) (ls : Array Slot), k_20 y2 y4 → hq_S vwCl SLx D cA YC B s.heap M H locs → lv_has ls 7 [(0, .ref (B + 0)), (2, .long (w6 y2)), (4, .int (w3 y4))] → W p l e ({ frames := 1, cells := 0, slots := 0, locals := 23 } : Room) s m args below meth c H locs 0 0 (MQ below (hq_Q vwCl SLx D cA YC B (hq_qi (fun z M' => M' = M ∧ k z))) args s 0 0 (hq_in B YC.length)) (F0 m 20 ls [])) : W p l e ({ frames := 1, cells := 0, slots := 0, locals := 23 } : Room) s m args below meth c H locs 0 0 (MQ below (hq_Q vwCl SLx D cA YC B (hq_qi (fun z M' => M' = M ∧ k z))) args s 0 0 (hq_in B YC.length)) (F0 m 73 ls [.int (w3 t0)]) := by
  have hx := C.1.1
  have hb := C.1.2.1
  unfold b_X11_withGroups_73 at hw
  refine lv_istore (lv' := [(6, .int (w3 t0)), (0, .ref (B + 0)), (2, .long (w6 v2)), (4, .int (w3 v4)), (5, .int (w3 v5))]) hx hb dX11_withGroups_73 hl (by decide) rfl (fun ls hl => ?_)
  refine lv_iload hx hb dX11_withGroups_75 (lv_at hl 4 rfl) ?_
  refine lv_iload hx hb dX11_withGroups_77 (lv_at hl 0 rfl) ?_
  refine hq_icmp_ne (tgt := 85) C (rb_rg rv5) (rb_rg rt0) dX11_withGroups_79 (by decide) (fun h => ?_) (fun h => ?_)
  · have hw := hw.1 h
    refine lv_lload_n hx hb dX11_withGroups_85 rfl (lv_at hl 2 rfl) ?_
    refine lv_aload_n hx hb dX11_withGroups_86 rfl (lv_at hl 1 rfl) ?_
    refine hq_getA (o := 0) C hs fX11_withGroups_14 tkC_0 (by decide) rfl dX11_withGroups_87 ?_
    refine lv_iload hx hb dX11_withGroups_90 (lv_at hl 3 rfl) ?_
    refine hq_cV (n := 1) (ci := 6) (o := 1) (qc := (TX6, 2)) C hs (c_X6_at l C.2.2.2.2.1 1 tkC_1 v4 rv4 _ _ hw) gX11_withGroups_X6_at rfl ⟨rfl, rfl⟩ (by decide +kernel) ⟨Nat.le_of_ble_eq_true rfl, Nat.le_of_ble_eq_true rfl⟩ tkC_1 (by decide) rfl rfl hl.1 rfl (Nat.le_of_ble_eq_true rfl) dX11_withGroups_92 (hq_ki (fun x1 M9 H locs rx1 hw hs => ?_))
    obtain ⟨e9, hw⟩ := hw; rw [e9] at hs
    refine hq_bipush C dX11_withGroups_95 (by decide) ?_
    refine hq_iand (n := 128) 7 C (by decide) rx1 dX11_withGroups_97 ?_
    refine lv_iload hx hb dX11_withGroups_98 (lv_at hl 3 rfl) ?_
    refine hq_iconst C dX11_withGroups_100 ?_
    obtain ⟨g2, hw⟩ := hw
    refine hq_isub C dX11_withGroups_101 ?_
    refine hq_cS (n := 3) C hs (c_X11_withGroup l C.2.2.2.2.1 v2 rv2 (x1 % 128) (hq_rmask (by decide) (by decide)) (v4 - 1) g2 _ _ hw) gX11_withGroups_X11_withGroup rfl ⟨rfl, rfl⟩ (by decide +kernel) ⟨Nat.le_of_ble_eq_true rfl, Nat.le_of_ble_eq_true rfl⟩ rfl hl.1 rfl (Nat.le_of_ble_eq_true rfl) dX11_withGroups_102 (hq_kl (fun x3 M9 H locs rx3 hw hs => ?_))
    obtain ⟨e9, hw⟩ := hw; rw [e9] at hs
    refine lv_lstore_n (lv' := [(2, .long (w6 x3)), (6, .int (w3 t0)), (0, .ref (B + 0)), (4, .int (w3 v4)), (5, .int (w3 v5))]) hx hb dX11_withGroups_105 rfl hl (by decide) rfl (fun ls hl => ?_)
    obtain ⟨g5, hw⟩ := hw
    refine hq_iinc (k := 3) C dX11_withGroups_106 hl rfl (by decide) (fun x4 ex4 ls hl => ?_)
    have hw := hw x4 ex4
    have rx4 : rg x4 := by rw [ex4]; exact g5
    have hl : lv_has ls 7 [(4, .int (w3 x4)), (2, .long (w6 x3)), (6, .int (w3 t0)), (0, .ref (B + 0)), (5, .int (w3 v5))] := hl
    refine hq_goto (tgt := 20) C dX11_withGroups_109 (by decide) ?_
    exact hk_20 x3 rx3 x4 rx4 _ _ _ hw hs (lv_sub hl [3, 1, 0] rfl)
  · have hw := hw.2 h
    refine hq_bipush C dX11_withGroups_82 (by decide) ?_
    exact hq_iret C hs (by decide : rg (-2)) ⟨rfl, hw⟩ dX11_withGroups_84
set_option maxHeartbeats 4000000 in
set_option maxRecDepth 100000 in
theorem cb_X11_withGroups_52 {p : Program} {l : Launch} {e : Env} {s : State} {m : MethodId} {args : Array Value} {below : List Frame} {meth : Method} {c : Code} {D : va_G} {cA : Nat → ClassId} {B : Nat} {Z : State → Prop} (v2 : Int) (rv2 : rl v2) (v4 : Int) (rv4 : rg v4) (t0 : Int) (rt0 : rb t0) {k_20 : Int → Int → Prop} {k : Int → Prop} {M : hq_M} {H : Heap} {locs : List Loc} {ls : Array Slot} (C : hq_C vwCl p m c cX11_withGroups 7 s args wsX11_withGroups RX11 meth (some .int) D cA (hq_in B YC.length) Z)
    (hw : b_X11_withGroups_52 v2 v4 t0 k_20 k M) (hs : hq_S vwCl SLx D cA YC B s.heap M H locs) (hl : lv_has ls 7 [(0, .ref (B + 0)), (2, .long (w6 v2)), (4, .int (w3 v4))])
    (hk_20 : ∀ (y2 : Int) (ry2 : rl y2) (y4 : Int) (ry4 : rg y4) (H : Heap) (locs : List Loc) (ls : Array Slot), k_20 y2 y4 → hq_S vwCl SLx D cA YC B s.heap M H locs → lv_has ls 7 [(0, .ref (B + 0)), (2, .long (w6 y2)), (4, .int (w3 y4))] → W p l e ({ frames := 1, cells := 0, slots := 0, locals := 23 } : Room) s m args below meth c H locs 0 0 (MQ below (hq_Q vwCl SLx D cA YC B (hq_qi (fun z M' => M' = M ∧ k z))) args s 0 0 (hq_in B YC.length)) (F0 m 20 ls [])) : W p l e ({ frames := 1, cells := 0, slots := 0, locals := 23 } : Room) s m args below meth c H locs 0 0 (MQ below (hq_Q vwCl SLx D cA YC B (hq_qi (fun z M' => M' = M ∧ k z))) args s 0 0 (hq_in B YC.length)) (F0 m 52 ls [.int (w3 t0)]) := by
  have hx := C.1.1
  have hb := C.1.2.1
  unfold b_X11_withGroups_52 at hw
  refine lv_istore (lv' := [(5, .int (w3 t0)), (0, .ref (B + 0)), (2, .long (w6 v2)), (4, .int (w3 v4))]) hx hb dX11_withGroups_52 hl (by decide) rfl (fun ls hl => ?_)
  refine lv_iload hx hb dX11_withGroups_54 (lv_at hl 3 rfl) ?_
  refine lv_aload_n hx hb dX11_withGroups_56 rfl (lv_at hl 1 rfl) ?_
  refine hq_getA (o := 0) C hs fX11_withGroups_14 tkC_0 (by decide) rfl dX11_withGroups_57 ?_
  refine hq_getI (o := 1) C hs fX11_withGroups_92 tkC_1 (by decide) rfl dX11_withGroups_60 (fun g1 => ?_)
  refine hq_iconst C dX11_withGroups_63 ?_
  obtain ⟨g2, hw⟩ := hw
  refine hq_isub C dX11_withGroups_64 ?_
  refine hq_icmp_ne (tgt := 72) C rv4 g2 dX11_withGroups_65 (by decide) (fun h => ?_) (fun h => ?_)
  · have hw := hw.1 h
    refine hq_iconst C dX11_withGroups_72 ?_
    refine cb_X11_withGroups_73 v2 rv2 v4 rv4 t0 rt0 0 (by decide) C hw hs (lv_sub hl [1, 2, 3, 0] rfl) hk_20
  · have hw := hw.2 h
    refine hq_iconst C dX11_withGroups_68 ?_
    refine hq_goto (tgt := 73) C dX11_withGroups_69 (by decide) ?_
    refine cb_X11_withGroups_73 v2 rv2 v4 rv4 t0 rt0 1 (by decide) C hw hs (lv_sub hl [1, 2, 3, 0] rfl) hk_20
set_option maxHeartbeats 4000000 in
set_option maxRecDepth 100000 in
theorem cl_X11_withGroups_20 {p : Program} {l : Launch} {e : Env} {s : State} {m : MethodId} {args : Array Value} {below : List Frame} {meth : Method} {c : Code} {D : va_G} {cA : Nat → ClassId} {B : Nat} {Z : State → Prop}  {k_112 : Int → Prop} {k : Int → Prop} {M : hq_M} (C : hq_C vwCl p m c cX11_withGroups 7 s args wsX11_withGroups RX11 meth (some .int) D cA (hq_in B YC.length) Z)
    (hk_112 : ∀ (y2 : Int) (ry2 : rl y2) (H : Heap) (locs : List Loc) (ls : Array Slot), k_112 y2 → hq_S vwCl SLx D cA YC B s.heap M H locs → lv_has ls 7 [(2, .long (w6 y2))] → W p l e ({ frames := 1, cells := 0, slots := 0, locals := 23 } : Room) s m args below meth c H locs 0 0 (MQ below (hq_Q vwCl SLx D cA YC B (hq_qi (fun z M' => M' = M ∧ k z))) args s 0 0 (hq_in B YC.length)) (F0 m 112 ls [])) : ∀ (n : Nat) (v2 : Int) (rv2 : rl v2) (v4 : Int) (rv4 : rg v4) (H : Heap) (locs : List Loc) (ls : Array Slot), l_X11_withGroups_20 k_112 k M n v2 v4 → hq_S vwCl SLx D cA YC B s.heap M H locs → lv_has ls 7 [(0, .ref (B + 0)), (2, .long (w6 v2)), (4, .int (w3 v4))] → W p l e ({ frames := 1, cells := 0, slots := 0, locals := 23 } : Room) s m args below meth c H locs 0 0 (MQ below (hq_Q vwCl SLx D cA YC B (hq_qi (fun z M' => M' = M ∧ k z))) args s 0 0 (hq_in B YC.length)) (F0 m 20 ls []) := by
  have hx := C.1.1
  have hb := C.1.2.1
  intro n
  induction n with
  | zero => intro v2 rv2 v4 rv4 H locs ls hw hs hl; exact hw.elim
  | succ n ih =>
    intro v2 rv2 v4 rv4 H locs ls hw hs hl
    unfold l_X11_withGroups_20 at hw
    refine lv_iload hx hb dX11_withGroups_20 (lv_at hl 2 rfl) ?_
    refine lv_aload_n hx hb dX11_withGroups_22 rfl (lv_at hl 0 rfl) ?_
    refine hq_getA (o := 0) C hs fX11_withGroups_14 tkC_0 (by decide) rfl dX11_withGroups_23 ?_
    refine hq_getI (o := 1) C hs fX11_withGroups_92 tkC_1 (by decide) rfl dX11_withGroups_26 (fun g1 => ?_)
    refine hq_icmp_ge (tgt := 112) C rv4 g1 dX11_withGroups_29 (by decide) (fun h => ?_) (fun h => ?_)
    · have hw := hw.1 h
      exact hk_112 v2 rv2 _ _ _ hw hs (lv_sub hl [1] rfl)
    · have hw := hw.2 h
      refine lv_aload_n hx hb dX11_withGroups_32 rfl (lv_at hl 0 rfl) ?_
      refine hq_getA (o := 0) C hs fX11_withGroups_14 tkC_0 (by decide) rfl dX11_withGroups_33 ?_
      refine lv_iload hx hb dX11_withGroups_36 (lv_at hl 2 rfl) ?_
      refine hq_cV (n := 1) (ci := 6) (o := 1) (qc := (TX6, 2)) C hs (c_X6_at l C.2.2.2.2.1 1 tkC_1 v4 rv4 _ _ hw) gX11_withGroups_X6_at rfl ⟨rfl, rfl⟩ (by decide +kernel) ⟨Nat.le_of_ble_eq_true rfl, Nat.le_of_ble_eq_true rfl⟩ tkC_1 (by decide) rfl rfl hl.1 rfl (Nat.le_of_ble_eq_true rfl) dX11_withGroups_38 (hq_ki (fun x2 M9 H locs rx2 hw hs => ?_))
      obtain ⟨e9, hw⟩ := hw; rw [e9] at hs
      refine hq_sipush C dX11_withGroups_41 (by decide) ?_
      refine hq_icmp_lt (tgt := 51) C rx2 (by decide : rg 128) dX11_withGroups_44 (by decide) (fun h => ?_) (fun h => ?_)
      · have hw := hw.1 h
        refine hq_iconst C dX11_withGroups_51 ?_
        refine cb_X11_withGroups_52 v2 rv2 v4 rv4 0 (by decide) C hw hs (lv_sub hl [0, 1, 2] rfl) ?_
        · intro y2 ry2 y4 ry4 H locs ls hw hs hl
          exact ih y2 ry2 y4 ry4 _ _ _ hw hs (lv_sub hl [0, 1, 2] rfl)
      · have hw := hw.2 h
        refine hq_iconst C dX11_withGroups_47 ?_
        refine hq_goto (tgt := 52) C dX11_withGroups_48 (by decide) ?_
        refine cb_X11_withGroups_52 v2 rv2 v4 rv4 1 (by decide) C hw hs (lv_sub hl [0, 1, 2] rfl) ?_
        · intro y2 ry2 y4 ry4 H locs ls hw hs hl
          exact ih y2 ry2 y4 ry4 _ _ _ hw hs (lv_sub hl [0, 1, 2] rfl)
set_option maxHeartbeats 4000000 in
set_option maxRecDepth 100000 in
theorem c_X11_withGroups (l : Launch) {D : va_G} {cA : Nat → ClassId} {B : Nat} {Z : State → Prop} (hZ : hq_Zo Z (hq_in B YC.length)) (v1 : Int) (rv1 : rg v1) (M : hq_M) (k : Int → Prop) (hw : w_X11_withGroups v1 M k) : hq_T vwCl SLx l yX11_withGroups wsX11_withGroups ({ frames := 1, cells := 0, slots := 0, locals := 23 } : Room) D cA YC B Z [.ref (B + 0), .int (w3 v1)] M (hq_qi (fun z M' => M' = M ∧ k z)) := by
  refine hq_meth (cc := cX11_withGroups) (maxL := 7) (ret := (some .int)) (own := RX11) hZ rfl (by decide +kernel) rfl (Nat.le_of_ble_eq_true rfl) ?_
  intro p e s m below meth c ls C hs hl
  have hx := C.1.1
  have hb := C.1.2.1
  unfold w_X11_withGroups at hw
  have hl : lv_has ls 7 [(0, .ref (B + 0)), (1, .int (w3 v1))] := hl
  refine lv_aload_n hx hb dX11_withGroups_0 rfl (lv_at hl 0 rfl) ?_
  refine hq_getA (o := 0) C hs fX11_withGroups_14 tkC_0 (by decide) rfl dX11_withGroups_1 ?_
  refine hq_getI (o := 1) C hs fX11_withGroups_92 tkC_1 (by decide) rfl dX11_withGroups_4 (fun g1 => ?_)
  refine hq_iconst C dX11_withGroups_7 ?_
  refine hq_icmp_ge (tgt := 14) C g1 (by decide : rg 2) dX11_withGroups_8 (by decide) (fun h => ?_) (fun h => ?_)
  · have hw := hw.1 h
    refine lv_iload_n hx hb dX11_withGroups_14 rfl (lv_at hl 1 rfl) ?_
    refine hq_i2l (y := 0) C rv1 dX11_withGroups_15 ?_
    refine lv_lstore_n (lv' := [(2, .long (w6 v1)), (0, .ref (B + 0)), (1, .int (w3 v1))]) hx hb dX11_withGroups_16 rfl hl (by decide) rfl (fun ls hl => ?_)
    refine hq_iconst C dX11_withGroups_17 ?_
    refine lv_istore (lv' := [(4, .int (w3 1)), (2, .long (w6 v1)), (0, .ref (B + 0)), (1, .int (w3 v1))]) hx hb dX11_withGroups_18 hl (by decide) rfl (fun ls hl => ?_)
    obtain ⟨n9, hw⟩ := hw
    refine cl_X11_withGroups_20  C ?_ n9 v1 (rg_rl rv1) 1 (by decide : rg 1) _ _ _ hw hs (lv_sub hl [2, 1, 0] rfl)
    · intro x2 rx2 H locs ls hw hs hl
      refine lv_lload_n hx hb dX11_withGroups_112 rfl (lv_at hl 0 rfl) ?_
      refine hq_ldc2 (z := 2147483647) C kX11_withGroups_298 (by decide) dX11_withGroups_113 ?_
      refine hq_lcmp_le (tgt := 125) C rx2 (by decide : rl 2147483647) dX11_withGroups_116 dX11_withGroups_117 (by decide) (fun h => ?_) (fun h => ?_)
      · have hw := hw.1 h
        refine lv_lload_n hx hb dX11_withGroups_125 rfl (lv_at hl 0 rfl) ?_
        obtain ⟨g3, hw⟩ := hw
        refine hq_l2i (y := 0) C g3 dX11_withGroups_126 ?_
        exact hq_iret C hs g3 ⟨rfl, hw⟩ dX11_withGroups_127
      · have hw := hw.2 h
        refine hq_bipush C dX11_withGroups_120 (by decide) ?_
        refine hq_goto (tgt := 127) C dX11_withGroups_122 (by decide) ?_
        exact hq_iret C hs (by decide : rg (-3)) ⟨rfl, hw⟩ dX11_withGroups_127
  · have hw := hw.2 h
    refine hq_bipush C dX11_withGroups_11 (by decide) ?_
    exact hq_iret C hs (by decide : rg (-2)) ⟨rfl, hw⟩ dX11_withGroups_13
theorem iX11_number_6 : ∀ w ∈ u_ws RX6 TX6 2, w ∈ wsX11_number := fun w h => List.mem_cons_of_mem _ (List.mem_append_right _ h)
theorem iX11_number_11 : ∀ w ∈ u_ws RX11 TX11 11, w ∈ wsX11_number := fun w h => List.mem_cons_of_mem _ (List.mem_append_left _ (List.mem_append_right _ h))
set_option maxRecDepth 20000 in
theorem fX11_number_14 : hq_fl vwCl wsX11_number RX11 14 11 0 true (.object "HeadTables$Row") := ⟨RX11, TX11, 11, tyX11, rfl, by decide, iX11_number_11, by decide +kernel, rfl, tyX11_ok 0 (by decide), tyX11_ok, nmX11⟩
set_option maxRecDepth 20000 in
theorem fX11_number_92 : hq_fl vwCl wsX11_number RX11 92 6 1 false .int := ⟨RX6, TX6, 2, tyX6, rfl, by decide, iX11_number_6, by decide +kernel, rfl, tyX6_ok 1 (by decide), tyX6_ok, nmX6⟩
set_option maxHeartbeats 4000000 in
set_option maxRecDepth 100000 in
theorem c_X11_number (l : Launch) {D : va_G} {cA : Nat → ClassId} {B : Nat} {Z : State → Prop} (hZ : hq_Zo Z (hq_in B YC.length)) (v1 : Int) (rv1 : rg v1) (M : hq_M) (k : Int → Prop) (hw : w_X11_number v1 M k) : hq_T vwCl SLx l yX11_number wsX11_number ({ frames := 2, cells := 0, slots := 0, locals := 49 } : Room) D cA YC B Z [.ref (B + 0), .int (w3 v1)] M (hq_qi (fun z M' => M' = M ∧ k z)) := by
  refine hq_meth (cc := cX11_number) (maxL := 4) (ret := (some .int)) (own := RX11) hZ rfl (by decide +kernel) rfl (Nat.le_of_ble_eq_true rfl) ?_
  intro p e s m below meth c ls C hs hl
  have hx := C.1.1
  have hb := C.1.2.1
  unfold w_X11_number at hw
  have hl : lv_has ls 4 [(0, .ref (B + 0)), (1, .int (w3 v1))] := hl
  refine lv_iload_n hx hb dX11_number_0 rfl (lv_at hl 1 rfl) ?_
  refine hq_iconst C dX11_number_1 ?_
  refine hq_icmp_lt (tgt := 11) C rv1 (by decide : rg 1) dX11_number_2 (by decide) (fun h => ?_) (fun h => ?_)
  · have hw := hw.1 h
    refine hq_iconst C dX11_number_11 ?_
    exact hq_iret C hs (by decide : rg (-1)) ⟨rfl, hw⟩ dX11_number_12
  · have hw := hw.2 h
    refine lv_iload_n hx hb dX11_number_5 rfl (lv_at hl 1 rfl) ?_
    refine hq_bipush C dX11_number_6 (by decide) ?_
    refine hq_icmp_le (tgt := 13) C rv1 (by decide : rg 8) dX11_number_8 (by decide) (fun h => ?_) (fun h => ?_)
    · have hw := hw.1 h
      refine lv_aload_n hx hb dX11_number_13 rfl (lv_at hl 0 rfl) ?_
      refine hq_getA (o := 0) C hs fX11_number_14 tkC_0 (by decide) rfl dX11_number_14 ?_
      refine hq_getI (o := 1) C hs fX11_number_92 tkC_1 (by decide) rfl dX11_number_17 (fun g1 => ?_)
      refine hq_if_ne (tgt := 26) C g1 dX11_number_20 (by decide) (fun h => ?_) (fun h => ?_)
      · have hw := hw.1 h
        refine hq_iconst C dX11_number_26 ?_
        refine lv_iload_n hx hb dX11_number_27 rfl (lv_at hl 1 rfl) ?_
        obtain ⟨g2, g3, hw⟩ := hw
        refine hq_ishl C g2 dX11_number_28 ?_
        refine hq_iconst C dX11_number_29 ?_
        obtain ⟨g4, hw⟩ := hw
        refine hq_isub C dX11_number_30 ?_
        refine hq_nm (fun x5 ex5 => ?_)
        have hw := hw x5 ex5
        have rx5 : rg x5 := by rw [ex5]; exact g4
        refine lv_istore_n (lv' := [(2, .int (w3 x5)), (0, .ref (B + 0)), (1, .int (w3 v1))]) hx hb dX11_number_31 rfl hl (by decide) rfl (fun ls hl => ?_)
        refine lv_aload_n hx hb dX11_number_32 rfl (lv_at hl 1 rfl) ?_
        refine hq_getA (o := 0) C hs fX11_number_14 tkC_0 (by decide) rfl dX11_number_33 ?_
        refine hq_iconst C dX11_number_36 ?_
        refine hq_cV (n := 1) (ci := 6) (o := 1) (qc := (TX6, 2)) C hs (c_X6_at l C.2.2.2.2.1 1 tkC_1 0 (by decide : rg 0) _ _ hw) gX11_number_X6_at rfl ⟨rfl, rfl⟩ (by decide +kernel) ⟨Nat.le_of_ble_eq_true rfl, Nat.le_of_ble_eq_true rfl⟩ tkC_1 (by decide) rfl rfl hl.1 rfl (Nat.le_of_ble_eq_true rfl) dX11_number_37 (hq_ki (fun x6 M9 H locs rx6 hw hs => ?_))
        obtain ⟨e9, hw⟩ := hw; rw [e9] at hs
        refine lv_iload_n hx hb dX11_number_40 rfl (lv_at hl 0 rfl) ?_
        refine hq_iandG C dX11_number_41 ?_
        refine hq_nm (fun x7 ex7 => ?_)
        have hw := hw x7 ex7
        have rx7 : rg x7 := by rw [ex7]; exact (w3_rg _)
        refine lv_istore_n (lv' := [(3, .int (w3 x7)), (2, .int (w3 x5)), (0, .ref (B + 0)), (1, .int (w3 v1))]) hx hb dX11_number_42 rfl hl (by decide) rfl (fun ls hl => ?_)
        refine lv_iload_n hx hb dX11_number_43 rfl (lv_at hl 0 rfl) ?_
        refine lv_iload_n hx hb dX11_number_44 rfl (lv_at hl 1 rfl) ?_
        refine hq_icmp_ge (tgt := 66) C rx7 rx5 dX11_number_45 (by decide) (fun h => ?_) (fun h => ?_)
        · have hw := hw.1 h
          refine lv_aload_n hx hb dX11_number_66 rfl (lv_at hl 2 rfl) ?_
          refine lv_iload_n hx hb dX11_number_67 rfl (lv_at hl 1 rfl) ?_
          refine hq_cV (n := 1) (ci := 11) (o := 0) (qc := (TX11, 11)) C hs (c_X11_withGroups l C.2.2.2.2.1 x5 rx5 _ _ hw) gX11_number_X11_withGroups rfl ⟨rfl, rfl⟩ (by decide +kernel) ⟨Nat.le_of_ble_eq_true rfl, Nat.le_of_ble_eq_true rfl⟩ tkC_0 (by decide) rfl rfl hl.1 rfl (Nat.le_of_ble_eq_true rfl) dX11_number_68 (hq_ki (fun x8 M9 H locs rx8 hw hs => ?_))
          obtain ⟨e9, hw⟩ := hw; rw [e9] at hs
          exact hq_iret C hs rx8 ⟨rfl, hw⟩ dX11_number_71
        · have hw := hw.2 h
          refine lv_aload_n hx hb dX11_number_48 rfl (lv_at hl 2 rfl) ?_
          refine hq_getA (o := 0) C hs fX11_number_14 tkC_0 (by decide) rfl dX11_number_49 ?_
          refine hq_getI (o := 1) C hs fX11_number_92 tkC_1 (by decide) rfl dX11_number_52 (fun g9 => ?_)
          refine hq_iconst C dX11_number_55 ?_
          refine hq_icmp_ne (tgt := 63) C g9 (by decide : rg 1) dX11_number_56 (by decide) (fun h => ?_) (fun h => ?_)
          · have hw := hw.1 h
            refine hq_bipush C dX11_number_63 (by decide) ?_
            exact hq_iret C hs (by decide : rg (-2)) ⟨rfl, hw⟩ dX11_number_65
          · have hw := hw.2 h
            refine lv_iload_n hx hb dX11_number_59 rfl (lv_at hl 0 rfl) ?_
            refine hq_goto (tgt := 65) C dX11_number_60 (by decide) ?_
            exact hq_iret C hs rx7 ⟨rfl, hw⟩ dX11_number_65
      · have hw := hw.2 h
        refine hq_bipush C dX11_number_23 (by decide) ?_
        exact hq_iret C hs (by decide : rg (-2)) ⟨rfl, hw⟩ dX11_number_25
    · have hw := hw.2 h
      refine hq_iconst C dX11_number_11 ?_
      exact hq_iret C hs (by decide : rg (-1)) ⟨rfl, hw⟩ dX11_number_12
theorem iX11_count_1 : ∀ w ∈ u_ws RX1 TX1 2, w ∈ wsX11_count := fun w h => List.mem_cons_of_mem _ (List.mem_append_left _ (List.mem_append_left _ (List.mem_append_left _ (List.mem_append_right _ h))))
theorem iX11_count_3 : ∀ w ∈ u_ws RX3 TX3 2, w ∈ wsX11_count := fun w h => List.mem_cons_of_mem _ (List.mem_append_left _ (List.mem_append_left _ (List.mem_append_left _ (List.mem_append_left _ (List.mem_append_left _ (List.mem_append_left _ (List.mem_append_right _ h)))))))
theorem iX11_count_5 : ∀ w ∈ u_ws RX5 TX5 3, w ∈ wsX11_count := fun w h => List.mem_cons_of_mem _ (List.mem_append_left _ (List.mem_append_left _ (List.mem_append_left _ (List.mem_append_left _ (List.mem_append_right _ h)))))
theorem iX11_count_6 : ∀ w ∈ u_ws RX6 TX6 2, w ∈ wsX11_count := fun w h => List.mem_cons_of_mem _ (List.mem_append_left _ (List.mem_append_right _ h))
theorem iX11_count_7 : ∀ w ∈ u_ws RX7 TX7 4, w ∈ wsX11_count := fun w h => List.mem_cons_of_mem _ (List.mem_append_left _ (List.mem_append_left _ (List.mem_append_left _ (List.mem_append_left _ (List.mem_append_left _ (List.mem_append_left _ (List.mem_append_left _ (List.mem_append_right _ h))))))))
theorem iX11_count_8 : ∀ w ∈ u_ws RX8 TX8 5, w ∈ wsX11_count := fun w h => List.mem_cons_of_mem _ (List.mem_append_left _ (List.mem_append_left _ (List.mem_append_right _ h)))
theorem iX11_count_10 : ∀ w ∈ u_ws RX10 TX10 8, w ∈ wsX11_count := fun w h => List.mem_cons_of_mem _ (List.mem_append_left _ (List.mem_append_left _ (List.mem_append_left _ (List.mem_append_left _ (List.mem_append_left _ (List.mem_append_right _ h))))))
theorem iX11_count_11 : ∀ w ∈ u_ws RX11 TX11 11, w ∈ wsX11_count := fun w h => List.mem_cons_of_mem _ (List.mem_append_left _ (List.mem_append_left _ (List.mem_append_left _ (List.mem_append_left _ (List.mem_append_left _ (List.mem_append_left _ (List.mem_append_left _ (List.mem_append_left _ (List.mem_append_right _ h)))))))))
set_option maxRecDepth 20000 in
theorem fX11_count_14 : hq_fl vwCl wsX11_count RX11 14 11 0 true (.object "HeadTables$Row") := ⟨RX11, TX11, 11, tyX11, rfl, by decide, iX11_count_11, by decide +kernel, rfl, tyX11_ok 0 (by decide), tyX11_ok, nmX11⟩
set_option maxRecDepth 20000 in
theorem fX11_count_18 : hq_fl vwCl wsX11_count RX11 18 11 1 true (.object "HeadTables$Row") := ⟨RX11, TX11, 11, tyX11, rfl, by decide, iX11_count_11, by decide +kernel, rfl, tyX11_ok 1 (by decide), tyX11_ok, nmX11⟩
set_option maxRecDepth 20000 in
theorem fX11_count_36 : hq_fl vwCl wsX11_count RX11 36 11 9 false (.object "HeadTables$Settings") := ⟨RX11, TX11, 11, tyX11, rfl, by decide, iX11_count_11, by decide +kernel, rfl, tyX11_ok 9 (by decide), tyX11_ok, nmX11⟩
set_option maxRecDepth 20000 in
theorem fX11_count_46 : hq_fl vwCl wsX11_count RX11 46 11 4 true (.object "HeadTables$Letters") := ⟨RX11, TX11, 11, tyX11, rfl, by decide, iX11_count_11, by decide +kernel, rfl, tyX11_ok 4 (by decide), tyX11_ok, nmX11⟩
set_option maxRecDepth 20000 in
theorem fX11_count_55 : hq_fl vwCl wsX11_count RX11 55 11 5 true (.object "HeadTables$Writer") := ⟨RX11, TX11, 11, tyX11, rfl, by decide, iX11_count_11, by decide +kernel, rfl, tyX11_ok 5 (by decide), tyX11_ok, nmX11⟩
set_option maxRecDepth 20000 in
theorem fX11_count_62 : hq_fl vwCl wsX11_count RX11 62 11 6 true (.object "HeadTables$Reader") := ⟨RX11, TX11, 11, tyX11, rfl, by decide, iX11_count_11, by decide +kernel, rfl, tyX11_ok 6 (by decide), tyX11_ok, nmX11⟩
set_option maxRecDepth 20000 in
theorem fX11_count_79 : hq_fl vwCl wsX11_count RX11 79 1 1 false .int := ⟨RX1, TX1, 2, tyX1, rfl, by decide, iX11_count_1, by decide +kernel, rfl, tyX1_ok 1 (by decide), tyX1_ok, nmX1⟩
set_option maxRecDepth 20000 in
theorem fX11_count_92 : hq_fl vwCl wsX11_count RX11 92 6 1 false .int := ⟨RX6, TX6, 2, tyX6, rfl, by decide, iX11_count_6, by decide +kernel, rfl, tyX6_ok 1 (by decide), tyX6_ok, nmX6⟩
set_option maxRecDepth 20000 in
theorem fX11_count_104 : hq_fl vwCl wsX11_count RX11 104 7 0 true (.object "HeadTables$Pairs") := ⟨RX7, TX7, 4, tyX7, rfl, by decide, iX11_count_7, by decide +kernel, rfl, tyX7_ok 0 (by decide), tyX7_ok, nmX7⟩
set_option maxRecDepth 20000 in
theorem fX11_count_114 : hq_fl vwCl wsX11_count RX11 114 7 1 true (.object "HeadTables$Pairs") := ⟨RX7, TX7, 4, tyX7, rfl, by decide, iX11_count_7, by decide +kernel, rfl, tyX7_ok 1 (by decide), tyX7_ok, nmX7⟩
set_option maxRecDepth 20000 in
theorem fX11_count_162 : hq_fl vwCl wsX11_count RX11 162 10 1 true (.object "HeadTables$Stream") := ⟨RX10, TX10, 8, tyX10, rfl, by decide, iX11_count_10, by decide +kernel, rfl, tyX10_ok 1 (by decide), tyX10_ok, nmX10⟩
set_option maxRecDepth 20000 in
theorem fX11_count_166 : hq_fl vwCl wsX11_count RX11 166 8 0 true (.object "HeadTables$Row") := ⟨RX8, TX8, 5, tyX8, rfl, by decide, iX11_count_8, by decide +kernel, rfl, tyX8_ok 0 (by decide), tyX8_ok, nmX8⟩
set_option maxRecDepth 20000 in
theorem fX11_count_174 : hq_fl vwCl wsX11_count RX11 174 10 5 false .int := ⟨RX10, TX10, 8, tyX10, rfl, by decide, iX11_count_10, by decide +kernel, rfl, tyX10_ok 5 (by decide), tyX10_ok, nmX10⟩
set_option maxRecDepth 20000 in
theorem fX11_count_180 : hq_fl vwCl wsX11_count RX11 180 7 3 false .int := ⟨RX7, TX7, 4, tyX7, rfl, by decide, iX11_count_7, by decide +kernel, rfl, tyX7_ok 3 (by decide), tyX7_ok, nmX7⟩
set_option maxRecDepth 20000 in
theorem fX11_count_232 : hq_fl vwCl wsX11_count RX11 232 5 2 false .int := ⟨RX5, TX5, 3, tyX5, rfl, by decide, iX11_count_5, by decide +kernel, rfl, tyX5_ok 2 (by decide), tyX5_ok, nmX5⟩
set_option maxRecDepth 20000 in
theorem fX11_count_235 : hq_fl vwCl wsX11_count RX11 235 5 1 true (.object "HeadTables$Row") := ⟨RX5, TX5, 3, tyX5, rfl, by decide, iX11_count_5, by decide +kernel, rfl, tyX5_ok 1 (by decide), tyX5_ok, nmX5⟩
set_option maxRecDepth 20000 in
theorem fX11_count_302 : hq_fl vwCl wsX11_count RX11 302 3 1 false .int := ⟨RX3, TX3, 2, tyX3, rfl, by decide, iX11_count_3, by decide +kernel, rfl, tyX3_ok 1 (by decide), tyX3_ok, nmX3⟩
set_option maxRecDepth 20000 in
theorem fX11_count_303 : hq_fl vwCl wsX11_count RX11 303 7 2 false .int := ⟨RX7, TX7, 4, tyX7, rfl, by decide, iX11_count_7, by decide +kernel, rfl, tyX7_ok 2 (by decide), tyX7_ok, nmX7⟩
set_option maxHeartbeats 4000000 in
set_option maxRecDepth 100000 in
theorem c_X11_count (l : Launch) {D : va_G} {cA : Nat → ClassId} {B : Nat} {Z : State → Prop} (hZ : hq_Zo Z (hq_in B YC.length)) (v1 : Int) (rv1 : rg v1) (M : hq_M) (k : Int → Prop) (hw : w_X11_count v1 M k) : hq_T vwCl SLx l yX11_count wsX11_count ({ frames := 3, cells := 0, slots := 0, locals := 65 } : Room) D cA YC B Z [.ref (B + 0), .int (w3 v1)] M (hq_qi (fun z M' => M' = M ∧ k z)) := by
  refine hq_meth (cc := cX11_count) (maxL := 2) (ret := (some .int)) (own := RX11) hZ rfl (by decide +kernel) rfl (Nat.le_of_ble_eq_true rfl) ?_
  intro p e s m below meth c ls C hs hl
  have hx := C.1.1
  have hb := C.1.2.1
  unfold w_X11_count at hw
  have hl : lv_has ls 2 [(0, .ref (B + 0)), (1, .int (w3 v1))] := hl
  refine lv_iload_n hx hb dX11_count_0 rfl (lv_at hl 1 rfl) ?_
  rcases Decidable.em (v1 = 0) with h | h0
  · obtain ⟨hw, -⟩ := hw
    have hw := hw h
    refine hq_tabIn (tgt := 68) 0 (by decide) C h dX11_count_1 (by decide) (by decide) rfl (by decide) ?_
    refine lv_aload_n hx hb dX11_count_68 rfl (lv_at hl 0 rfl) ?_
    refine hq_getS (o := 0) C hs fX11_count_36 tkC_0 (by decide) rfl dX11_count_69 (fun g1 => ?_)
    obtain ⟨o2, eo2⟩ : ∃ y : Nat, y = (M 0 9).toNat := ⟨_, rfl⟩
    rw [← eo2] at g1 ⊢
    have hw := hw o2 eo2
    refine hq_getR (o := o2) C hs fX11_count_104 g1 (by decide) rfl dX11_count_72 ?_
    refine hq_getI (o := (o2 + 1)) C hs fX11_count_302 (tc_7_0 g1) (by decide) rfl dX11_count_75 (fun g3 => ?_)
    exact hq_iret C hs g3 ⟨rfl, hw⟩ dX11_count_78
  obtain ⟨-, hw⟩ := hw
  rcases Decidable.em (v1 = 1) with h | h1
  · obtain ⟨hw, -⟩ := hw
    have hw := hw h
    refine hq_tabIn (tgt := 79) 1 (by decide) C h dX11_count_1 (by decide) (by decide) rfl (by decide) ?_
    refine lv_aload_n hx hb dX11_count_79 rfl (lv_at hl 0 rfl) ?_
    refine hq_getS (o := 0) C hs fX11_count_36 tkC_0 (by decide) rfl dX11_count_80 (fun g4 => ?_)
    obtain ⟨o5, eo5⟩ : ∃ y : Nat, y = (M 0 9).toNat := ⟨_, rfl⟩
    rw [← eo5] at g4 ⊢
    have hw := hw o5 eo5
    refine hq_getR (o := o5) C hs fX11_count_114 g4 (by decide) rfl dX11_count_83 ?_
    refine hq_getI (o := (o5 + 38)) C hs fX11_count_302 (tc_7_1 g4) (by decide) rfl dX11_count_86 (fun g6 => ?_)
    exact hq_iret C hs g6 ⟨rfl, hw⟩ dX11_count_89
  obtain ⟨-, hw⟩ := hw
  rcases Decidable.em (v1 = 2) with h | h2
  · obtain ⟨hw, -⟩ := hw
    have hw := hw h
    refine hq_tabIn (tgt := 90) 2 (by decide) C h dX11_count_1 (by decide) (by decide) rfl (by decide) ?_
    refine lv_aload_n hx hb dX11_count_90 rfl (lv_at hl 0 rfl) ?_
    refine hq_getS (o := 0) C hs fX11_count_36 tkC_0 (by decide) rfl dX11_count_91 (fun g7 => ?_)
    obtain ⟨o8, eo8⟩ : ∃ y : Nat, y = (M 0 9).toNat := ⟨_, rfl⟩
    rw [← eo8] at g7 ⊢
    have hw := hw o8 eo8
    refine hq_getI (o := o8) C hs fX11_count_303 g7 (by decide) rfl dX11_count_94 (fun g9 => ?_)
    exact hq_iret C hs g9 ⟨rfl, hw⟩ dX11_count_97
  obtain ⟨-, hw⟩ := hw
  rcases Decidable.em (v1 = 3) with h | h3
  · obtain ⟨hw, -⟩ := hw
    have hw := hw h
    refine hq_tabIn (tgt := 98) 3 (by decide) C h dX11_count_1 (by decide) (by decide) rfl (by decide) ?_
    refine lv_aload_n hx hb dX11_count_98 rfl (lv_at hl 0 rfl) ?_
    refine hq_getS (o := 0) C hs fX11_count_36 tkC_0 (by decide) rfl dX11_count_99 (fun g10 => ?_)
    obtain ⟨o11, eo11⟩ : ∃ y : Nat, y = (M 0 9).toNat := ⟨_, rfl⟩
    rw [← eo11] at g10 ⊢
    have hw := hw o11 eo11
    refine hq_getI (o := o11) C hs fX11_count_180 g10 (by decide) rfl dX11_count_102 (fun g12 => ?_)
    exact hq_iret C hs g12 ⟨rfl, hw⟩ dX11_count_105
  obtain ⟨-, hw⟩ := hw
  rcases Decidable.em (v1 = 4) with h | h4
  · obtain ⟨hw, -⟩ := hw
    have hw := hw h
    refine hq_tabIn (tgt := 106) 4 (by decide) C h dX11_count_1 (by decide) (by decide) rfl (by decide) ?_
    refine lv_aload_n hx hb dX11_count_106 rfl (lv_at hl 0 rfl) ?_
    refine hq_getA (o := 0) C hs fX11_count_55 tkC_0 (by decide) rfl dX11_count_107 ?_
    refine hq_getI (o := 370) C hs fX11_count_174 tkC_370 (by decide) rfl dX11_count_110 (fun g13 => ?_)
    exact hq_iret C hs g13 ⟨rfl, hw⟩ dX11_count_113
  obtain ⟨-, hw⟩ := hw
  rcases Decidable.em (v1 = 5) with h | h5
  · obtain ⟨hw, -⟩ := hw
    have hw := hw h
    refine hq_tabIn (tgt := 114) 5 (by decide) C h dX11_count_1 (by decide) (by decide) rfl (by decide) ?_
    refine lv_aload_n hx hb dX11_count_114 rfl (lv_at hl 0 rfl) ?_
    refine hq_getA (o := 0) C hs fX11_count_62 tkC_0 (by decide) rfl dX11_count_115 ?_
    refine hq_getI (o := 384) C hs fX11_count_232 tkC_384 (by decide) rfl dX11_count_118 (fun g14 => ?_)
    exact hq_iret C hs g14 ⟨rfl, hw⟩ dX11_count_121
  obtain ⟨-, hw⟩ := hw
  rcases Decidable.em (v1 = 6) with h | h6
  · obtain ⟨hw, -⟩ := hw
    have hw := hw h
    refine hq_tabIn (tgt := 122) 6 (by decide) C h dX11_count_1 (by decide) (by decide) rfl (by decide) ?_
    refine lv_aload_n hx hb dX11_count_122 rfl (lv_at hl 0 rfl) ?_
    refine hq_getA (o := 0) C hs fX11_count_46 tkC_0 (by decide) rfl dX11_count_123 ?_
    refine hq_getI (o := 168) C hs fX11_count_79 tkC_168 (by decide) rfl dX11_count_126 (fun g15 => ?_)
    exact hq_iret C hs g15 ⟨rfl, hw⟩ dX11_count_129
  obtain ⟨-, hw⟩ := hw
  rcases Decidable.em (v1 = 7) with h | h7
  · obtain ⟨hw, -⟩ := hw
    have hw := hw h
    refine hq_tabIn (tgt := 130) 7 (by decide) C h dX11_count_1 (by decide) (by decide) rfl (by decide) ?_
    refine lv_aload_n hx hb dX11_count_130 rfl (lv_at hl 0 rfl) ?_
    refine hq_getA (o := 0) C hs fX11_count_46 tkC_0 (by decide) rfl dX11_count_131 ?_
    refine hq_cV (n := 0) (ci := 1) (o := 168) (qc := (TX1, 2)) C hs (c_X1_blocked l C.2.2.2.2.1 _ _ hw) gX11_count_X1_blocked rfl ⟨rfl, rfl⟩ (by decide +kernel) ⟨Nat.le_of_ble_eq_true rfl, Nat.le_of_ble_eq_true rfl⟩ tkC_168 (by decide) rfl rfl hl.1 rfl (Nat.le_of_ble_eq_true rfl) dX11_count_134 (hq_ki (fun x16 M9 H locs rx16 hw hs => ?_))
    obtain ⟨e9, hw⟩ := hw; rw [e9] at hs
    exact hq_iret C hs rx16 ⟨rfl, hw⟩ dX11_count_137
  obtain ⟨-, hw⟩ := hw
  rcases Decidable.em (v1 = 8) with h | h8
  · obtain ⟨hw, -⟩ := hw
    have hw := hw h
    refine hq_tabIn (tgt := 138) 8 (by decide) C h dX11_count_1 (by decide) (by decide) rfl (by decide) ?_
    refine lv_aload_n hx hb dX11_count_138 rfl (lv_at hl 0 rfl) ?_
    refine hq_getA (o := 0) C hs fX11_count_46 tkC_0 (by decide) rfl dX11_count_139 ?_
    refine lv_aload_n hx hb dX11_count_142 rfl (lv_at hl 0 rfl) ?_
    refine hq_getA (o := 0) C hs fX11_count_55 tkC_0 (by decide) rfl dX11_count_143 ?_
    refine hq_getI (o := 370) C hs fX11_count_174 tkC_370 (by decide) rfl dX11_count_146 (fun g17 => ?_)
    refine hq_cV (n := 1) (ci := 1) (o := 168) (qc := (TX1, 2)) C hs (c_X1_atRisk l C.2.2.2.2.1 (M 370 5) g17 _ _ hw) gX11_count_X1_atRisk rfl ⟨rfl, rfl⟩ (by decide +kernel) ⟨Nat.le_of_ble_eq_true rfl, Nat.le_of_ble_eq_true rfl⟩ tkC_168 (by decide) rfl rfl hl.1 rfl (Nat.le_of_ble_eq_true rfl) dX11_count_149 (hq_ki (fun x18 M9 H locs rx18 hw hs => ?_))
    obtain ⟨e9, hw⟩ := hw; rw [e9] at hs
    exact hq_iret C hs rx18 ⟨rfl, hw⟩ dX11_count_152
  obtain ⟨-, hw⟩ := hw
  rcases Decidable.em (v1 = 9) with h | h9
  · obtain ⟨hw, -⟩ := hw
    have hw := hw h
    refine hq_tabIn (tgt := 153) 9 (by decide) C h dX11_count_1 (by decide) (by decide) rfl (by decide) ?_
    refine lv_aload_n hx hb dX11_count_153 rfl (lv_at hl 0 rfl) ?_
    refine hq_getA (o := 0) C hs fX11_count_55 tkC_0 (by decide) rfl dX11_count_154 ?_
    refine hq_getR (o := 370) C hs fX11_count_162 tkC_370 (by decide) rfl dX11_count_157 ?_
    refine hq_getR (o := 375) C hs fX11_count_166 tkC_375 (by decide) rfl dX11_count_160 ?_
    refine hq_getI (o := 376) C hs fX11_count_92 tkC_376 (by decide) rfl dX11_count_163 (fun g19 => ?_)
    exact hq_iret C hs g19 ⟨rfl, hw⟩ dX11_count_166
  obtain ⟨-, hw⟩ := hw
  rcases Decidable.em (v1 = 10) with h | h10
  · obtain ⟨hw, -⟩ := hw
    have hw := hw h
    refine hq_tabIn (tgt := 167) 10 (by decide) C h dX11_count_1 (by decide) (by decide) rfl (by decide) ?_
    refine lv_aload_n hx hb dX11_count_167 rfl (lv_at hl 0 rfl) ?_
    refine hq_getA (o := 0) C hs fX11_count_62 tkC_0 (by decide) rfl dX11_count_168 ?_
    refine hq_getR (o := 384) C hs fX11_count_235 tkC_384 (by decide) rfl dX11_count_171 ?_
    refine hq_getI (o := 389) C hs fX11_count_92 tkC_389 (by decide) rfl dX11_count_174 (fun g20 => ?_)
    exact hq_iret C hs g20 ⟨rfl, hw⟩ dX11_count_177
  obtain ⟨-, hw⟩ := hw
  rcases Decidable.em (v1 = 11) with h | h11
  · obtain ⟨hw, -⟩ := hw
    have hw := hw h
    refine hq_tabIn (tgt := 178) 11 (by decide) C h dX11_count_1 (by decide) (by decide) rfl (by decide) ?_
    refine lv_aload_n hx hb dX11_count_178 rfl (lv_at hl 0 rfl) ?_
    refine hq_getA (o := 0) C hs fX11_count_18 tkC_0 (by decide) rfl dX11_count_179 ?_
    refine hq_getI (o := 3) C hs fX11_count_92 tkC_3 (by decide) rfl dX11_count_182 (fun g21 => ?_)
    exact hq_iret C hs g21 ⟨rfl, hw⟩ dX11_count_185
  obtain ⟨-, hw⟩ := hw
  rcases Decidable.em (v1 = 12) with h | h12
  · obtain ⟨hw, -⟩ := hw
    have hw := hw h
    refine hq_tabIn (tgt := 186) 12 (by decide) C h dX11_count_1 (by decide) (by decide) rfl (by decide) ?_
    refine lv_aload_n hx hb dX11_count_186 rfl (lv_at hl 0 rfl) ?_
    refine hq_getA (o := 0) C hs fX11_count_14 tkC_0 (by decide) rfl dX11_count_187 ?_
    refine hq_getI (o := 1) C hs fX11_count_92 tkC_1 (by decide) rfl dX11_count_190 (fun g22 => ?_)
    exact hq_iret C hs g22 ⟨rfl, hw⟩ dX11_count_193
  obtain ⟨-, hw⟩ := hw
  have hd9 : v1 < 0 ∨ 12 < v1 := by omega
  have hw := hw hd9
  refine hq_tabOut (tgt := 194) C rv1 dX11_count_1 hd9 (by decide) ?_
  refine hq_iconst C dX11_count_194 ?_
  exact hq_iret C hs (by decide : rg (-1)) ⟨rfl, hw⟩ dX11_count_195
