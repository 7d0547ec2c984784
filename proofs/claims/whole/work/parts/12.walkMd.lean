theorem iX12_makes_12 : ∀ w ∈ u_ws RX12 TX12 57, w ∈ wsX12_makes := fun w h => List.mem_cons_of_mem _ (List.mem_append_right _ h)
set_option maxRecDepth 20000 in
theorem fX12_makes_7 : hq_fl vwCl wsX12_makes RX12 7 12 2 false .int := ⟨RX12, TX12, 57, tyX12, rfl, by decide, iX12_makes_12, by decide +kernel, rfl, tyX12_ok 2 (by decide), tyX12_ok, nmX12⟩
set_option maxRecDepth 20000 in
theorem fX12_makes_13 : hq_fl vwCl wsX12_makes RX12 13 12 3 false .int := ⟨RX12, TX12, 57, tyX12, rfl, by decide, iX12_makes_12, by decide +kernel, rfl, tyX12_ok 3 (by decide), tyX12_ok, nmX12⟩
set_option maxRecDepth 20000 in
theorem fX12_makes_32 : hq_fl vwCl wsX12_makes RX12 32 12 18 true (.array .int) := ⟨RX12, TX12, 57, tyX12, rfl, by decide, iX12_makes_12, by decide +kernel, rfl, tyX12_ok 18 (by decide), tyX12_ok, nmX12⟩
set_option maxRecDepth 20000 in
theorem fX12_makes_78 : hq_fl vwCl wsX12_makes RX12 78 12 36 true (.array .int) := ⟨RX12, TX12, 57, tyX12, rfl, by decide, iX12_makes_12, by decide +kernel, rfl, tyX12_ok 36 (by decide), tyX12_ok, nmX12⟩
set_option maxRecDepth 20000 in
theorem fX12_makes_81 : hq_fl vwCl wsX12_makes RX12 81 12 38 true (.array .int) := ⟨RX12, TX12, 57, tyX12, rfl, by decide, iX12_makes_12, by decide +kernel, rfl, tyX12_ok 38 (by decide), tyX12_ok, nmX12⟩
set_option maxRecDepth 20000 in
theorem fX12_makes_249 : hq_fl vwCl wsX12_makes RX12 249 12 39 false .int := ⟨RX12, TX12, 57, tyX12, rfl, by decide, iX12_makes_12, by decide +kernel, rfl, tyX12_ok 39 (by decide), tyX12_ok, nmX12⟩
set_option maxRecDepth 20000 in
theorem fX12_makes_267 : hq_fl vwCl wsX12_makes RX12 267 12 49 false .int := ⟨RX12, TX12, 57, tyX12, rfl, by decide, iX12_makes_12, by decide +kernel, rfl, tyX12_ok 49 (by decide), tyX12_ok, nmX12⟩
set_option maxRecDepth 20000 in
theorem fX12_makes_325 : hq_fl vwCl wsX12_makes RX12 325 12 37 false .int := ⟨RX12, TX12, 57, tyX12, rfl, by decide, iX12_makes_12, by decide +kernel, rfl, tyX12_ok 37 (by decide), tyX12_ok, nmX12⟩
set_option maxRecDepth 20000 in
theorem fX12_makes_331 : hq_fl vwCl wsX12_makes RX12 331 12 41 false .int := ⟨RX12, TX12, 57, tyX12, rfl, by decide, iX12_makes_12, by decide +kernel, rfl, tyX12_ok 41 (by decide), tyX12_ok, nmX12⟩
set_option maxHeartbeats 4000000 in
set_option maxRecDepth 100000 in
theorem cb_X12_makes_72 {p : Program} {l : Launch} {e : Env} {s : State} {m : MethodId} {args : Array Value} {below : List Frame} {meth : Method} {c : Code} {D : va_G} {cA : Nat → ClassId} {B : Nat} {Z : State → Prop} (v1 : Int) (rv1 : rg v1) (v2 : Int) (rv2 : rb v2) (v3 : Int) (rv3 : rg v3) (v4 : Int) (rv4 : rg v4) (v5 : Int) (rv5 : rg v5) (t1 : Int) (rt1 : rg t1) (t2 : Int) (rt2 : rb t2) (t3 : Int) (rt3 : rb t3) {k_44 : Int → Int → hq_M → Prop} {k : Int → hq_M → Prop} {M : hq_M} {H : Heap} {locs : List Loc} {ls : Array Slot} (C : hq_C vwCl p m c cX12_makes 6 s args wsX12_makes RX12 meth (some .int) D cA (hq_in B YM.length) Z)
    (hw : b_X12_makes_72 v1 v2 v3 v4 v5 t1 t2 t3 k_44 k M) (hs : hq_S vwCl SLx D cA YM B s.heap M H locs) (hl : lv_has ls 6 [(0, .ref (B + 0)), (1, .int (w3 v1)), (2, .int (w3 v2)), (3, .int (w3 v3)), (4, .int (w3 v4)), (5, .int (w3 v5))])
    (hk_44 : ∀ (y4 : Int) (ry4 : rg y4) (y5 : Int) (ry5 : rg y5) (M1 : hq_M) (H : Heap) (locs : List Loc) (ls : Array Slot), k_44 y4 y5 M1 → hq_S vwCl SLx D cA YM B s.heap M1 H locs → lv_has ls 6 [(0, .ref (B + 0)), (1, .int (w3 v1)), (2, .int (w3 v2)), (3, .int (w3 v3)), (4, .int (w3 y4)), (5, .int (w3 y5))] → W p l e ({ frames := 7, cells := 0, slots := 0, locals := 163 } : Room) s m args below meth c H locs 0 0 (MQ below (hq_Q vwCl SLx D cA YM B (hq_qi k)) args s 0 0 (hq_in B YM.length)) (F0 m 44 ls [])) : W p l e ({ frames := 7, cells := 0, slots := 0, locals := 163 } : Room) s m args below meth c H locs 0 0 (MQ below (hq_Q vwCl SLx D cA YM B (hq_qi k)) args s 0 0 (hq_in B YM.length)) (F0 m 72 ls [.int (w3 t3), .int (w3 t2), .int (w3 t1), .ref (B + 0)]) := by
  have hx := C.1.1
  have hb := C.1.2.1
  unfold b_X12_makes_72 at hw
  refine lv_iload_n hx hb dX12_makes_72 rfl (lv_at hl 3 rfl) ?_
  refine hq_cV (n := 4) (ci := 12) (o := 0) (qc := (TX12, 57)) C hs (c_X12_laysField l C.2.2.2.2.1 t1 rt1 t2 rt2 t3 rt3 v3 rv3 _ _ hw) gX12_makes_X12_laysField rfl ⟨rfl, rfl⟩ (by decide +kernel) ⟨Nat.le_of_ble_eq_true rfl, Nat.le_of_ble_eq_true rfl⟩ tkM_0 (by decide) rfl rfl hl.1 rfl (Nat.le_of_ble_eq_true rfl) dX12_makes_73 (hq_kv (fun M1 H locs hw hs => ?_))
  refine lv_iload hx hb dX12_makes_76 (lv_at hl 4 rfl) ?_
  refine lv_aload_n hx hb dX12_makes_78 rfl (lv_at hl 0 rfl) ?_
  refine hq_getA (o := 0) C hs fX12_makes_81 tkM_0 (by decide) rfl dX12_makes_79 ?_
  refine lv_iload hx hb dX12_makes_82 (lv_at hl 5 rfl) ?_
  obtain ⟨g2, hw⟩ := hw
  refine hq_iald (o := 22) C hs tkM_22 rv5 g2 dX12_makes_84 (fun g3 => ?_)
  refine hq_iconst C dX12_makes_85 ?_
  obtain ⟨g4, hw⟩ := hw
  refine hq_iadd C dX12_makes_86 ?_
  refine hq_cS (n := 2) C hs (c_X12_greater l C.2.2.2.2.1 v4 rv4 ((M1 22 v5.toNat) + 1) g4 _ _ hw) gX12_makes_X12_greater rfl ⟨rfl, rfl⟩ (by decide +kernel) ⟨Nat.le_of_ble_eq_true rfl, Nat.le_of_ble_eq_true rfl⟩ rfl hl.1 rfl (Nat.le_of_ble_eq_true rfl) dX12_makes_87 (hq_ki (fun x5 M9 H locs rx5 hw hs => ?_))
  obtain ⟨e9, hw⟩ := hw; rw [e9] at hs
  refine lv_istore (lv' := [(4, .int (w3 x5)), (0, .ref (B + 0)), (1, .int (w3 v1)), (2, .int (w3 v2)), (3, .int (w3 v3)), (5, .int (w3 v5))]) hx hb dX12_makes_90 hl (by decide) rfl (fun ls hl => ?_)
  obtain ⟨g7, hw⟩ := hw
  refine hq_iinc (k := 5) C dX12_makes_92 hl rfl (by decide) (fun x6 ex6 ls hl => ?_)
  have hw := hw x6 ex6
  have rx6 : rg x6 := by rw [ex6]; exact g7
  have hl : lv_has ls 6 [(5, .int (w3 x6)), (4, .int (w3 x5)), (0, .ref (B + 0)), (1, .int (w3 v1)), (2, .int (w3 v2)), (3, .int (w3 v3))] := hl
  refine hq_goto (tgt := 44) C dX12_makes_95 (by decide) ?_
  exact hk_44 x5 rx5 x6 rx6 _ _ _ _ hw hs (lv_sub hl [2, 3, 4, 5, 1, 0] rfl)
set_option maxHeartbeats 4000000 in
set_option maxRecDepth 100000 in
theorem cl_X12_makes_44 {p : Program} {l : Launch} {e : Env} {s : State} {m : MethodId} {args : Array Value} {below : List Frame} {meth : Method} {c : Code} {D : va_G} {cA : Nat → ClassId} {B : Nat} {Z : State → Prop} (v1 : Int) (rv1 : rg v1) (v2 : Int) (rv2 : rb v2) (v3 : Int) (rv3 : rg v3) {k_98 : Int → hq_M → Prop} {k : Int → hq_M → Prop} (C : hq_C vwCl p m c cX12_makes 6 s args wsX12_makes RX12 meth (some .int) D cA (hq_in B YM.length) Z)
    (hk_98 : ∀ (y4 : Int) (ry4 : rg y4) (M1 : hq_M) (H : Heap) (locs : List Loc) (ls : Array Slot), k_98 y4 M1 → hq_S vwCl SLx D cA YM B s.heap M1 H locs → lv_has ls 6 [(0, .ref (B + 0)), (3, .int (w3 v3)), (4, .int (w3 y4))] → W p l e ({ frames := 7, cells := 0, slots := 0, locals := 163 } : Room) s m args below meth c H locs 0 0 (MQ below (hq_Q vwCl SLx D cA YM B (hq_qi k)) args s 0 0 (hq_in B YM.length)) (F0 m 98 ls [])) : ∀ (n : Nat) (v4 : Int) (rv4 : rg v4) (v5 : Int) (rv5 : rg v5) (M : hq_M) (H : Heap) (locs : List Loc) (ls : Array Slot), l_X12_makes_44 v1 v2 v3 k_98 k n v4 v5 M → hq_S vwCl SLx D cA YM B s.heap M H locs → lv_has ls 6 [(0, .ref (B + 0)), (1, .int (w3 v1)), (2, .int (w3 v2)), (3, .int (w3 v3)), (4, .int (w3 v4)), (5, .int (w3 v5))] → W p l e ({ frames := 7, cells := 0, slots := 0, locals := 163 } : Room) s m args below meth c H locs 0 0 (MQ below (hq_Q vwCl SLx D cA YM B (hq_qi k)) args s 0 0 (hq_in B YM.length)) (F0 m 44 ls []) := by
  have hx := C.1.1
  have hb := C.1.2.1
  intro n
  induction n with
  | zero => intro v4 rv4 v5 rv5 M H locs ls hw hs hl; exact hw.elim
  | succ n ih =>
    intro v4 rv4 v5 rv5 M H locs ls hw hs hl
    unfold l_X12_makes_44 at hw
    refine lv_iload hx hb dX12_makes_44 (lv_at hl 5 rfl) ?_
    refine lv_aload_n hx hb dX12_makes_46 rfl (lv_at hl 0 rfl) ?_
    refine hq_getI (o := 0) C hs fX12_makes_325 tkM_0 (by decide) rfl dX12_makes_47 (fun g1 => ?_)
    refine hq_icmp_ge (tgt := 98) C rv5 g1 dX12_makes_50 (by decide) (fun h => ?_) (fun h => ?_)
    · have hw := hw.1 h
      exact hk_98 v4 rv4 _ _ _ _ hw hs (lv_sub hl [0, 3, 4] rfl)
    · have hw := hw.2 h
      refine lv_aload_n hx hb dX12_makes_53 rfl (lv_at hl 0 rfl) ?_
      refine lv_aload_n hx hb dX12_makes_54 rfl (lv_at hl 0 rfl) ?_
      refine hq_getA (o := 0) C hs fX12_makes_78 tkM_0 (by decide) rfl dX12_makes_55 ?_
      refine lv_iload hx hb dX12_makes_58 (lv_at hl 5 rfl) ?_
      obtain ⟨g2, hw⟩ := hw
      refine hq_iald (o := 21) C hs tkM_21 rv5 g2 dX12_makes_60 (fun g3 => ?_)
      refine lv_iload_n hx hb dX12_makes_61 rfl (lv_at hl 2 rfl) ?_
      refine lv_iload_n hx hb dX12_makes_62 rfl (lv_at hl 1 rfl) ?_
      refine hq_iconst C dX12_makes_63 ?_
      refine hq_icmp_ne (tgt := 71) C rv1 (by decide : rg 2) dX12_makes_64 (by decide) (fun h => ?_) (fun h => ?_)
      · have hw := hw.1 h
        refine hq_iconst C dX12_makes_71 ?_
        refine cb_X12_makes_72 v1 rv1 v2 rv2 v3 rv3 v4 rv4 v5 rv5 (M 21 v5.toNat) g3 v2 rv2 0 (by decide) C hw hs (lv_sub hl [0, 1, 2, 3, 4, 5] rfl) ?_
        · intro y4 ry4 y5 ry5 M H locs ls hw hs hl
          exact ih y4 ry4 y5 ry5 _ _ _ _ hw hs (lv_sub hl [0, 1, 2, 3, 4, 5] rfl)
      · have hw := hw.2 h
        refine hq_iconst C dX12_makes_67 ?_
        refine hq_goto (tgt := 72) C dX12_makes_68 (by decide) ?_
        refine cb_X12_makes_72 v1 rv1 v2 rv2 v3 rv3 v4 rv4 v5 rv5 (M 21 v5.toNat) g3 v2 rv2 1 (by decide) C hw hs (lv_sub hl [0, 1, 2, 3, 4, 5] rfl) ?_
        · intro y4 ry4 y5 ry5 M H locs ls hw hs hl
          exact ih y4 ry4 y5 ry5 _ _ _ _ hw hs (lv_sub hl [0, 1, 2, 3, 4, 5] rfl)
set_option maxHeartbeats 4000000 in
set_option maxRecDepth 100000 in
theorem cb_X12_makes_160 {p : Program} {l : Launch} {e : Env} {s : State} {m : MethodId} {args : Array Value} {below : List Frame} {meth : Method} {c : Code} {D : va_G} {cA : Nat → ClassId} {B : Nat} {Z : State → Prop} (v4 : Int) (rv4 : rg v4) (t1 : Int) (rt1 : rb t1) (t2 : Int) (rt2 : rg t2) (t3 : Int) (rt3 : rg t3)  {k : Int → hq_M → Prop} {M : hq_M} {H : Heap} {locs : List Loc} {ls : Array Slot} (C : hq_C vwCl p m c cX12_makes 6 s args wsX12_makes RX12 meth (some .int) D cA (hq_in B YM.length) Z)
    (hw : b_X12_makes_160 v4 t1 t2 t3 k M) (hs : hq_S vwCl SLx D cA YM B s.heap M H locs) (hl : lv_has ls 6 [(4, .int (w3 v4))])
     : W p l e ({ frames := 7, cells := 0, slots := 0, locals := 163 } : Room) s m args below meth c H locs 0 0 (MQ below (hq_Q vwCl SLx D cA YM B (hq_qi k)) args s 0 0 (hq_in B YM.length)) (F0 m 160 ls [.int (w3 t3), .int (w3 t2), .int (w3 t1), .ref (B + 0)]) := by
  have hx := C.1.1
  have hb := C.1.2.1
  unfold b_X12_makes_160 at hw
  refine hq_cV (n := 3) (ci := 12) (o := 0) (qc := (TX12, 57)) C hs (c_X12_laysNumber l C.2.2.2.2.1 t1 (rb_rg rt1) t2 rt2 t3 rt3 _ _ hw) gX12_makes_X12_laysNumber rfl ⟨rfl, rfl⟩ (by decide +kernel) ⟨Nat.le_of_ble_eq_true rfl, Nat.le_of_ble_eq_true rfl⟩ tkM_0 (by decide) rfl rfl hl.1 rfl (Nat.le_of_ble_eq_true rfl) dX12_makes_160 (hq_kv (fun M1 H locs hw hs => ?_))
  refine hq_goto (tgt := 181) C dX12_makes_163 (by decide) ?_
  refine lv_iload hx hb dX12_makes_181 (lv_at hl 0 rfl) ?_
  exact hq_iret C hs rv4 hw dX12_makes_183
set_option maxHeartbeats 4000000 in
set_option maxRecDepth 100000 in
theorem cb_X12_makes_143 {p : Program} {l : Launch} {e : Env} {s : State} {m : MethodId} {args : Array Value} {below : List Frame} {meth : Method} {c : Code} {D : va_G} {cA : Nat → ClassId} {B : Nat} {Z : State → Prop} (v3 : Int) (rv3 : rg v3) (v4 : Int) (rv4 : rg v4)  {k : Int → hq_M → Prop} {M : hq_M} {H : Heap} {locs : List Loc} {ls : Array Slot} (C : hq_C vwCl p m c cX12_makes 6 s args wsX12_makes RX12 meth (some .int) D cA (hq_in B YM.length) Z)
    (hw : b_X12_makes_143 v3 v4 k M) (hs : hq_S vwCl SLx D cA YM B s.heap M H locs) (hl : lv_has ls 6 [(0, .ref (B + 0)), (3, .int (w3 v3)), (4, .int (w3 v4))])
     : W p l e ({ frames := 7, cells := 0, slots := 0, locals := 163 } : Room) s m args below meth c H locs 0 0 (MQ below (hq_Q vwCl SLx D cA YM B (hq_qi k)) args s 0 0 (hq_in B YM.length)) (F0 m 143 ls []) := by
  have hx := C.1.1
  have hb := C.1.2.1
  unfold b_X12_makes_143 at hw
  refine lv_aload_n hx hb dX12_makes_143 rfl (lv_at hl 0 rfl) ?_
  refine hq_iconst C dX12_makes_144 ?_
  refine hq_bipush C dX12_makes_145 (by decide) ?_
  refine lv_iload hx hb dX12_makes_147 (lv_at hl 2 rfl) ?_
  refine hq_if_ne (tgt := 156) C rv4 dX12_makes_149 (by decide) (fun h => ?_) (fun h => ?_)
  · have hw := hw.1 h
    refine lv_iload_n hx hb dX12_makes_156 rfl (lv_at hl 1 rfl) ?_
    refine lv_iload hx hb dX12_makes_157 (lv_at hl 2 rfl) ?_
    obtain ⟨g1, hw⟩ := hw
    refine hq_isub C dX12_makes_159 ?_
    refine cb_X12_makes_160 v4 rv4 0 (by decide) 7 (by decide : rg 7) (v3 - v4) g1 C hw hs (lv_sub hl [2] rfl) 
  · have hw := hw.2 h
    refine hq_iconst C dX12_makes_152 ?_
    refine hq_goto (tgt := 160) C dX12_makes_153 (by decide) ?_
    refine cb_X12_makes_160 v4 rv4 0 (by decide) 7 (by decide : rg 7) 0 (by decide : rg 0) C hw hs (lv_sub hl [2] rfl) 
set_option maxHeartbeats 4000000 in
set_option maxRecDepth 100000 in
theorem cb_X12_makes_129 {p : Program} {l : Launch} {e : Env} {s : State} {m : MethodId} {args : Array Value} {below : List Frame} {meth : Method} {c : Code} {D : va_G} {cA : Nat → ClassId} {B : Nat} {Z : State → Prop} (v3 : Int) (rv3 : rg v3) (v4 : Int) (rv4 : rg v4) (t1 : Int) (rt1 : rb t1) (t2 : Int) (rt2 : rg t2) (t3 : Int) (rt3 : rg t3)  {k : Int → hq_M → Prop} {M : hq_M} {H : Heap} {locs : List Loc} {ls : Array Slot} (C : hq_C vwCl p m c cX12_makes 6 s args wsX12_makes RX12 meth (some .int) D cA (hq_in B YM.length) Z)
    (hw : b_X12_makes_129 v3 v4 t1 t2 t3 k M) (hs : hq_S vwCl SLx D cA YM B s.heap M H locs) (hl : lv_has ls 6 [(0, .ref (B + 0)), (3, .int (w3 v3)), (4, .int (w3 v4))])
     : W p l e ({ frames := 7, cells := 0, slots := 0, locals := 163 } : Room) s m args below meth c H locs 0 0 (MQ below (hq_Q vwCl SLx D cA YM B (hq_qi k)) args s 0 0 (hq_in B YM.length)) (F0 m 129 ls [.int (w3 t3), .int (w3 t2), .int (w3 t1), .ref (B + 0)]) := by
  have hx := C.1.1
  have hb := C.1.2.1
  unfold b_X12_makes_129 at hw
  refine hq_cV (n := 3) (ci := 12) (o := 0) (qc := (TX12, 57)) C hs (c_X12_laysNumber l C.2.2.2.2.1 t1 (rb_rg rt1) t2 rt2 t3 rt3 _ _ hw) gX12_makes_X12_laysNumber rfl ⟨rfl, rfl⟩ (by decide +kernel) ⟨Nat.le_of_ble_eq_true rfl, Nat.le_of_ble_eq_true rfl⟩ tkM_0 (by decide) rfl rfl hl.1 rfl (Nat.le_of_ble_eq_true rfl) dX12_makes_129 (hq_kv (fun M1 H locs hw hs => ?_))
  refine lv_iload hx hb dX12_makes_132 (lv_at hl 2 rfl) ?_
  refine hq_if_eq (tgt := 143) C rv4 dX12_makes_134 (by decide) (fun h => ?_) (fun h => ?_)
  · have hw := hw.1 h
    refine cb_X12_makes_143 v3 rv3 v4 rv4 C hw hs (lv_sub hl [0, 1, 2] rfl) 
  · have hw := hw.2 h
    refine lv_iload_n hx hb dX12_makes_137 rfl (lv_at hl 1 rfl) ?_
    refine lv_iload hx hb dX12_makes_138 (lv_at hl 2 rfl) ?_
    refine hq_icmp_lt (tgt := 166) C rv3 rv4 dX12_makes_140 (by decide) (fun h => ?_) (fun h => ?_)
    · have hw := hw.1 h
      refine lv_aload_n hx hb dX12_makes_166 rfl (lv_at hl 0 rfl) ?_
      refine hq_sipush C dX12_makes_167 (by decide) ?_
      refine hq_bipush C dX12_makes_170 (by decide) ?_
      refine lv_iload hx hb dX12_makes_172 (lv_at hl 2 rfl) ?_
      refine lv_iload_n hx hb dX12_makes_174 rfl (lv_at hl 1 rfl) ?_
      obtain ⟨g2, hw⟩ := hw
      refine hq_isub C dX12_makes_175 ?_
      refine hq_iconst C dX12_makes_176 ?_
      obtain ⟨g3, hw⟩ := hw
      refine hq_isub C dX12_makes_177 ?_
      refine hq_cV (n := 3) (ci := 12) (o := 0) (qc := (TX12, 57)) C hs (c_X12_laysNumber l C.2.2.2.2.1 128 (by decide : rg 128) 7 (by decide : rg 7) ((v4 - v3) - 1) g3 _ _ hw) gX12_makes_X12_laysNumber rfl ⟨rfl, rfl⟩ (by decide +kernel) ⟨Nat.le_of_ble_eq_true rfl, Nat.le_of_ble_eq_true rfl⟩ tkM_0 (by decide) rfl rfl hl.1 rfl (Nat.le_of_ble_eq_true rfl) dX12_makes_178 (hq_kv (fun M4 H locs hw hs => ?_))
      refine lv_iload hx hb dX12_makes_181 (lv_at hl 2 rfl) ?_
      exact hq_iret C hs rv4 hw dX12_makes_183
    · have hw := hw.2 h
      refine cb_X12_makes_143 v3 rv3 v4 rv4 C hw hs (lv_sub hl [0, 1, 2] rfl) 
set_option maxHeartbeats 4000000 in
set_option maxRecDepth 100000 in
theorem cb_X12_makes_30 {p : Program} {l : Launch} {e : Env} {s : State} {m : MethodId} {args : Array Value} {below : List Frame} {meth : Method} {c : Code} {D : va_G} {cA : Nat → ClassId} {B : Nat} {Z : State → Prop} (v1 : Int) (rv1 : rg v1) (t0 : Int) (rt0 : rb t0)  {k : Int → hq_M → Prop} {M : hq_M} {H : Heap} {locs : List Loc} {ls : Array Slot} (C : hq_C vwCl p m c cX12_makes 6 s args wsX12_makes RX12 meth (some .int) D cA (hq_in B YM.length) Z)
    (hw : b_X12_makes_30 v1 t0 k M) (hs : hq_S vwCl SLx D cA YM B s.heap M H locs) (hl : lv_has ls 6 [(0, .ref (B + 0)), (1, .int (w3 v1))])
     : W p l e ({ frames := 7, cells := 0, slots := 0, locals := 163 } : Room) s m args below meth c H locs 0 0 (MQ below (hq_Q vwCl SLx D cA YM B (hq_qi k)) args s 0 0 (hq_in B YM.length)) (F0 m 30 ls [.int (w3 t0)]) := by
  have hx := C.1.1
  have hb := C.1.2.1
  unfold b_X12_makes_30 at hw
  refine lv_istore_n (lv' := [(2, .int (w3 t0)), (0, .ref (B + 0)), (1, .int (w3 v1))]) hx hb dX12_makes_30 rfl hl (by decide) rfl (fun ls hl => ?_)
  refine lv_aload_n hx hb dX12_makes_31 rfl (lv_at hl 1 rfl) ?_
  refine hq_getA (o := 0) C hs fX12_makes_32 tkM_0 (by decide) rfl dX12_makes_32 ?_
  refine hq_iconst C dX12_makes_35 ?_
  obtain ⟨g1, hw⟩ := hw
  refine hq_iald (o := 6) C hs tkM_6 (by decide : rg 0) g1 dX12_makes_36 (fun g2 => ?_)
  refine hq_nm (fun x3 ex3 => ?_)
  have hw := hw x3 ex3
  have rx3 : rg x3 := by rw [ex3]; exact g2
  refine lv_istore_n (lv' := [(3, .int (w3 x3)), (2, .int (w3 t0)), (0, .ref (B + 0)), (1, .int (w3 v1))]) hx hb dX12_makes_37 rfl hl (by decide) rfl (fun ls hl => ?_)
  refine hq_iconst C dX12_makes_38 ?_
  refine lv_istore (lv' := [(4, .int (w3 0)), (3, .int (w3 x3)), (2, .int (w3 t0)), (0, .ref (B + 0)), (1, .int (w3 v1))]) hx hb dX12_makes_39 hl (by decide) rfl (fun ls hl => ?_)
  refine hq_iconst C dX12_makes_41 ?_
  refine lv_istore (lv' := [(5, .int (w3 0)), (4, .int (w3 0)), (3, .int (w3 x3)), (2, .int (w3 t0)), (0, .ref (B + 0)), (1, .int (w3 v1))]) hx hb dX12_makes_42 hl (by decide) rfl (fun ls hl => ?_)
  obtain ⟨n9, hw⟩ := hw
  refine cl_X12_makes_44 v1 rv1 t0 rt0 x3 rx3 C ?_ n9 0 (by decide : rg 0) 0 (by decide : rg 0) _ _ _ _ hw hs (lv_sub hl [4, 5, 3, 2, 1, 0] rfl)
  · intro x5 rx5 M4 H locs ls hw hs hl
    refine lv_aload_n hx hb dX12_makes_98 rfl (lv_at hl 0 rfl) ?_
    refine hq_iconst C dX12_makes_99 ?_
    refine hq_putI (o := 0) C hs fX12_makes_267 tkM_0 (by decide) rfl (by decide : rg 0) dX12_makes_100 (fun M6 eM6 H locs hs => ?_)
    have hw := hw M6 eM6
    refine lv_aload_n hx hb dX12_makes_103 rfl (lv_at hl 0 rfl) ?_
    refine hq_iconst C dX12_makes_104 ?_
    refine hq_bipush C dX12_makes_105 (by decide) ?_
    refine lv_iload hx hb dX12_makes_107 (lv_at hl 2 rfl) ?_
    refine hq_if_ne (tgt := 116) C rx5 dX12_makes_109 (by decide) (fun h => ?_) (fun h => ?_)
    · have hw := hw.1 h
      refine lv_iload hx hb dX12_makes_116 (lv_at hl 2 rfl) ?_
      refine hq_iconst C dX12_makes_118 ?_
      refine lv_aload_n hx hb dX12_makes_119 rfl (lv_at hl 0 rfl) ?_
      refine hq_getI (o := 0) C hs fX12_makes_7 tkM_0 (by decide) rfl dX12_makes_120 (fun g7 => ?_)
      refine hq_iconst C dX12_makes_123 ?_
      obtain ⟨g8, hw⟩ := hw
      refine hq_idiv C g7 (by decide : rg 4) g8 dX12_makes_124 ?_
      obtain ⟨g9, hw⟩ := hw
      refine hq_imul C dX12_makes_125 ?_
      obtain ⟨g10, hw⟩ := hw
      refine hq_irem C rx5 g9 g10 dX12_makes_126 ?_
      refine hq_iconst C dX12_makes_127 ?_
      obtain ⟨g11, hw⟩ := hw
      refine hq_iadd C dX12_makes_128 ?_
      refine cb_X12_makes_129 x3 rx3 x5 rx5 0 (by decide) 8 (by decide : rg 8) ((x5 % (2 * ((M6 0 2) / 4))) + 1) g11 C hw hs (lv_sub hl [0, 1, 2] rfl) 
    · have hw := hw.2 h
      refine hq_iconst C dX12_makes_112 ?_
      refine hq_goto (tgt := 129) C dX12_makes_113 (by decide) ?_
      refine cb_X12_makes_129 x3 rx3 x5 rx5 0 (by decide) 8 (by decide : rg 8) 0 (by decide : rg 0) C hw hs (lv_sub hl [0, 1, 2] rfl) 
set_option maxHeartbeats 4000000 in
set_option maxRecDepth 100000 in
theorem cb_X12_makes_29 {p : Program} {l : Launch} {e : Env} {s : State} {m : MethodId} {args : Array Value} {below : List Frame} {meth : Method} {c : Code} {D : va_G} {cA : Nat → ClassId} {B : Nat} {Z : State → Prop} (v1 : Int) (rv1 : rg v1)  {k : Int → hq_M → Prop} {M : hq_M} {H : Heap} {locs : List Loc} {ls : Array Slot} (C : hq_C vwCl p m c cX12_makes 6 s args wsX12_makes RX12 meth (some .int) D cA (hq_in B YM.length) Z)
    (hw : b_X12_makes_29 v1 k M) (hs : hq_S vwCl SLx D cA YM B s.heap M H locs) (hl : lv_has ls 6 [(0, .ref (B + 0)), (1, .int (w3 v1))])
     : W p l e ({ frames := 7, cells := 0, slots := 0, locals := 163 } : Room) s m args below meth c H locs 0 0 (MQ below (hq_Q vwCl SLx D cA YM B (hq_qi k)) args s 0 0 (hq_in B YM.length)) (F0 m 29 ls []) := by
  have hx := C.1.1
  have hb := C.1.2.1
  unfold b_X12_makes_29 at hw
  refine hq_iconst C dX12_makes_29 ?_
  refine cb_X12_makes_30 v1 rv1 0 (by decide) C hw hs (lv_sub hl [0, 1] rfl) 
set_option maxHeartbeats 4000000 in
set_option maxRecDepth 100000 in
theorem c_X12_makes (l : Launch) {D : va_G} {cA : Nat → ClassId} {B : Nat} {Z : State → Prop} (hZ : hq_Zo Z (hq_in B YM.length)) (v1 : Int) (rv1 : rg v1) (M : hq_M) (k : Int → hq_M → Prop) (hw : w_X12_makes v1 M k) : hq_T vwCl SLx l yX12_makes wsX12_makes ({ frames := 7, cells := 0, slots := 0, locals := 163 } : Room) D cA YM B Z [.ref (B + 0), .int (w3 v1)] M (hq_qi k) := by
  refine hq_meth (cc := cX12_makes) (maxL := 6) (ret := (some .int)) (own := RX12) hZ rfl (by decide +kernel) rfl (Nat.le_of_ble_eq_true rfl) ?_
  intro p e s m below meth c ls C hs hl
  have hx := C.1.1
  have hb := C.1.2.1
  unfold w_X12_makes at hw
  have hl : lv_has ls 6 [(0, .ref (B + 0)), (1, .int (w3 v1))] := hl
  refine lv_aload_n hx hb dX12_makes_0 rfl (lv_at hl 0 rfl) ?_
  refine hq_iconst C dX12_makes_1 ?_
  refine hq_putI (o := 0) C hs fX12_makes_249 tkM_0 (by decide) rfl (by decide : rg 0) dX12_makes_2 (fun M1 eM1 H locs hs => ?_)
  have hw := hw M1 eM1
  refine lv_aload_n hx hb dX12_makes_5 rfl (lv_at hl 0 rfl) ?_
  refine hq_iconst C dX12_makes_6 ?_
  refine hq_putI (o := 0) C hs fX12_makes_331 tkM_0 (by decide) rfl (by decide : rg 0) dX12_makes_7 (fun M2 eM2 H locs hs => ?_)
  have hw := hw M2 eM2
  refine lv_iload_n hx hb dX12_makes_10 rfl (lv_at hl 1 rfl) ?_
  refine hq_if_le (tgt := 29) C rv1 dX12_makes_11 (by decide) (fun h => ?_) (fun h => ?_)
  · have hw := hw.1 h
    refine cb_X12_makes_29 v1 rv1 C hw hs (lv_sub hl [0, 1] rfl) 
  · have hw := hw.2 h
    refine lv_aload_n hx hb dX12_makes_14 rfl (lv_at hl 0 rfl) ?_
    refine hq_cV (n := 0) (ci := 12) (o := 0) (qc := (TX12, 57)) C hs (c_X12_risks l C.2.2.2.2.1 _ _ hw) gX12_makes_X12_risks rfl ⟨rfl, rfl⟩ (by decide +kernel) ⟨Nat.le_of_ble_eq_true rfl, Nat.le_of_ble_eq_true rfl⟩ tkM_0 (by decide) rfl rfl hl.1 rfl (Nat.le_of_ble_eq_true rfl) dX12_makes_15 (hq_ki (fun x3 M9 H locs rx3 hw hs => ?_))
    obtain ⟨e9, hw⟩ := hw; rw [e9] at hs
    refine lv_aload_n hx hb dX12_makes_18 rfl (lv_at hl 0 rfl) ?_
    refine hq_getI (o := 0) C hs fX12_makes_13 tkM_0 (by decide) rfl dX12_makes_19 (fun g4 => ?_)
    refine hq_icmp_ge (tgt := 29) C rx3 g4 dX12_makes_22 (by decide) (fun h => ?_) (fun h => ?_)
    · have hw := hw.1 h
      refine cb_X12_makes_29 v1 rv1 C hw hs (lv_sub hl [0, 1] rfl) 
    · have hw := hw.2 h
      refine hq_iconst C dX12_makes_25 ?_
      refine hq_goto (tgt := 30) C dX12_makes_26 (by decide) ?_
      refine cb_X12_makes_30 v1 rv1 1 (by decide) C hw hs (lv_sub hl [0, 1] rfl) 
theorem iX12_sends_12 : ∀ w ∈ u_ws RX12 TX12 57, w ∈ wsX12_sends := fun w h => List.mem_cons_of_mem _ (List.mem_append_right _ h)
set_option maxRecDepth 20000 in
theorem fX12_sends_32 : hq_fl vwCl wsX12_sends RX12 32 12 18 true (.array .int) := ⟨RX12, TX12, 57, tyX12, rfl, by decide, iX12_sends_12, by decide +kernel, rfl, tyX12_ok 18 (by decide), tyX12_ok, nmX12⟩
set_option maxRecDepth 20000 in
theorem fX12_sends_47 : hq_fl vwCl wsX12_sends RX12 47 12 26 true (.array .int) := ⟨RX12, TX12, 57, tyX12, rfl, by decide, iX12_sends_12, by decide +kernel, rfl, tyX12_ok 26 (by decide), tyX12_ok, nmX12⟩
set_option maxRecDepth 20000 in
theorem fX12_sends_50 : hq_fl vwCl wsX12_sends RX12 50 12 27 true (.array .int) := ⟨RX12, TX12, 57, tyX12, rfl, by decide, iX12_sends_12, by decide +kernel, rfl, tyX12_ok 27 (by decide), tyX12_ok, nmX12⟩
set_option maxRecDepth 20000 in
theorem fX12_sends_53 : hq_fl vwCl wsX12_sends RX12 53 12 28 true (.array .int) := ⟨RX12, TX12, 57, tyX12, rfl, by decide, iX12_sends_12, by decide +kernel, rfl, tyX12_ok 28 (by decide), tyX12_ok, nmX12⟩
set_option maxRecDepth 20000 in
theorem fX12_sends_56 : hq_fl vwCl wsX12_sends RX12 56 12 29 true (.array .int) := ⟨RX12, TX12, 57, tyX12, rfl, by decide, iX12_sends_12, by decide +kernel, rfl, tyX12_ok 29 (by decide), tyX12_ok, nmX12⟩
set_option maxRecDepth 20000 in
theorem fX12_sends_59 : hq_fl vwCl wsX12_sends RX12 59 12 30 true (.array .int) := ⟨RX12, TX12, 57, tyX12, rfl, by decide, iX12_sends_12, by decide +kernel, rfl, tyX12_ok 30 (by decide), tyX12_ok, nmX12⟩
set_option maxRecDepth 20000 in
theorem fX12_sends_62 : hq_fl vwCl wsX12_sends RX12 62 12 31 true (.array .boolean) := ⟨RX12, TX12, 57, tyX12, rfl, by decide, iX12_sends_12, by decide +kernel, rfl, tyX12_ok 31 (by decide), tyX12_ok, nmX12⟩
set_option maxRecDepth 20000 in
theorem fX12_sends_66 : hq_fl vwCl wsX12_sends RX12 66 12 32 true (.array .int) := ⟨RX12, TX12, 57, tyX12, rfl, by decide, iX12_sends_12, by decide +kernel, rfl, tyX12_ok 32 (by decide), tyX12_ok, nmX12⟩
set_option maxRecDepth 20000 in
theorem fX12_sends_69 : hq_fl vwCl wsX12_sends RX12 69 12 33 true (.array .int) := ⟨RX12, TX12, 57, tyX12, rfl, by decide, iX12_sends_12, by decide +kernel, rfl, tyX12_ok 33 (by decide), tyX12_ok, nmX12⟩
set_option maxRecDepth 20000 in
theorem fX12_sends_72 : hq_fl vwCl wsX12_sends RX12 72 12 34 true (.array .int) := ⟨RX12, TX12, 57, tyX12, rfl, by decide, iX12_sends_12, by decide +kernel, rfl, tyX12_ok 34 (by decide), tyX12_ok, nmX12⟩
set_option maxRecDepth 20000 in
theorem fX12_sends_75 : hq_fl vwCl wsX12_sends RX12 75 12 35 true (.array .int) := ⟨RX12, TX12, 57, tyX12, rfl, by decide, iX12_sends_12, by decide +kernel, rfl, tyX12_ok 35 (by decide), tyX12_ok, nmX12⟩
set_option maxRecDepth 20000 in
theorem fX12_sends_78 : hq_fl vwCl wsX12_sends RX12 78 12 36 true (.array .int) := ⟨RX12, TX12, 57, tyX12, rfl, by decide, iX12_sends_12, by decide +kernel, rfl, tyX12_ok 36 (by decide), tyX12_ok, nmX12⟩
set_option maxRecDepth 20000 in
theorem fX12_sends_81 : hq_fl vwCl wsX12_sends RX12 81 12 38 true (.array .int) := ⟨RX12, TX12, 57, tyX12, rfl, by decide, iX12_sends_12, by decide +kernel, rfl, tyX12_ok 38 (by decide), tyX12_ok, nmX12⟩
set_option maxRecDepth 20000 in
theorem fX12_sends_84 : hq_fl vwCl wsX12_sends RX12 84 12 40 true (.array .int) := ⟨RX12, TX12, 57, tyX12, rfl, by decide, iX12_sends_12, by decide +kernel, rfl, tyX12_ok 40 (by decide), tyX12_ok, nmX12⟩
set_option maxRecDepth 20000 in
theorem fX12_sends_99 : hq_fl vwCl wsX12_sends RX12 99 12 48 true (.array .int) := ⟨RX12, TX12, 57, tyX12, rfl, by decide, iX12_sends_12, by decide +kernel, rfl, tyX12_ok 48 (by decide), tyX12_ok, nmX12⟩
set_option maxRecDepth 20000 in
theorem fX12_sends_249 : hq_fl vwCl wsX12_sends RX12 249 12 39 false .int := ⟨RX12, TX12, 57, tyX12, rfl, by decide, iX12_sends_12, by decide +kernel, rfl, tyX12_ok 39 (by decide), tyX12_ok, nmX12⟩
set_option maxRecDepth 20000 in
theorem fX12_sends_252 : hq_fl vwCl wsX12_sends RX12 252 12 25 false .int := ⟨RX12, TX12, 57, tyX12, rfl, by decide, iX12_sends_12, by decide +kernel, rfl, tyX12_ok 25 (by decide), tyX12_ok, nmX12⟩
set_option maxRecDepth 20000 in
theorem fX12_sends_267 : hq_fl vwCl wsX12_sends RX12 267 12 49 false .int := ⟨RX12, TX12, 57, tyX12, rfl, by decide, iX12_sends_12, by decide +kernel, rfl, tyX12_ok 49 (by decide), tyX12_ok, nmX12⟩
set_option maxRecDepth 20000 in
theorem fX12_sends_325 : hq_fl vwCl wsX12_sends RX12 325 12 37 false .int := ⟨RX12, TX12, 57, tyX12, rfl, by decide, iX12_sends_12, by decide +kernel, rfl, tyX12_ok 37 (by decide), tyX12_ok, nmX12⟩
set_option maxRecDepth 20000 in
theorem fX12_sends_331 : hq_fl vwCl wsX12_sends RX12 331 12 41 false .int := ⟨RX12, TX12, 57, tyX12, rfl, by decide, iX12_sends_12, by decide +kernel, rfl, tyX12_ok 41 (by decide), tyX12_ok, nmX12⟩
set_option maxRecDepth 20000 in
theorem kX12_sends_356 : Cond.constantLong RX12 356 2 ∈ wsX12_sends := by decide +kernel
set_option maxHeartbeats 4000000 in
set_option maxRecDepth 100000 in
theorem cb_X12_sends_129 {p : Program} {l : Launch} {e : Env} {s : State} {m : MethodId} {args : Array Value} {below : List Frame} {meth : Method} {c : Code} {D : va_G} {cA : Nat → ClassId} {B : Nat} {Z : State → Prop} (v2 : Int) (rv2 : rg v2) (t1 : Int) (rt1 : rg t1) (t2 : Int) (rt2 : rg t2) {k_75 : Int → hq_M → Prop} {k : Int → hq_M → Prop} {M : hq_M} {H : Heap} {locs : List Loc} {ls : Array Slot} (C : hq_C vwCl p m c cX12_sends 3 s args wsX12_sends RX12 meth (some .int) D cA (hq_in B YM.length) Z)
    (hw : b_X12_sends_129 v2 t1 t2 k_75 k M) (hs : hq_S vwCl SLx D cA YM B s.heap M H locs) (hl : lv_has ls 3 [(0, .ref (B + 0)), (2, .int (w3 v2))])
    (hk_75 : ∀ (y2 : Int) (ry2 : rg y2) (M1 : hq_M) (H : Heap) (locs : List Loc) (ls : Array Slot), k_75 y2 M1 → hq_S vwCl SLx D cA YM B s.heap M1 H locs → lv_has ls 3 [(0, .ref (B + 0)), (2, .int (w3 y2))] → W p l e ({ frames := 8, cells := 0, slots := 0, locals := 188 } : Room) s m args below meth c H locs 0 0 (MQ below (hq_Q vwCl SLx D cA YM B (hq_qi k)) args s 0 0 (hq_in B YM.length)) (F0 m 75 ls [])) : W p l e ({ frames := 8, cells := 0, slots := 0, locals := 188 } : Room) s m args below meth c H locs 0 0 (MQ below (hq_Q vwCl SLx D cA YM B (hq_qi k)) args s 0 0 (hq_in B YM.length)) (F0 m 129 ls [.int (w3 t2), .int (w3 t1), .ref (B + 20)]) := by
  have hx := C.1.1
  have hb := C.1.2.1
  unfold b_X12_sends_129 at hw
  obtain ⟨g1, hw⟩ := hw
  refine hq_iast (o := 20) C hs tkM_20 rt1 g1 rt2 dX12_sends_129 (fun M2 eM2 H locs hs => ?_)
  have hw := hw M2 eM2
  obtain ⟨g4, hw⟩ := hw
  refine hq_iinc (k := 1) C dX12_sends_130 hl rfl (by decide) (fun x3 ex3 ls hl => ?_)
  have hw := hw x3 ex3
  have rx3 : rg x3 := by rw [ex3]; exact g4
  have hl : lv_has ls 3 [(2, .int (w3 x3)), (0, .ref (B + 0))] := hl
  refine hq_goto (tgt := 75) C dX12_sends_133 (by decide) ?_
  exact hk_75 x3 rx3 _ _ _ _ hw hs (lv_sub hl [1, 0] rfl)
set_option maxHeartbeats 4000000 in
set_option maxRecDepth 100000 in
theorem cl_X12_sends_75 {p : Program} {l : Launch} {e : Env} {s : State} {m : MethodId} {args : Array Value} {below : List Frame} {meth : Method} {c : Code} {D : va_G} {cA : Nat → ClassId} {B : Nat} {Z : State → Prop}  {k_136 : hq_M → Prop} {k : Int → hq_M → Prop} (C : hq_C vwCl p m c cX12_sends 3 s args wsX12_sends RX12 meth (some .int) D cA (hq_in B YM.length) Z)
    (hk_136 : ∀ (M1 : hq_M) (H : Heap) (locs : List Loc) (ls : Array Slot), k_136 M1 → hq_S vwCl SLx D cA YM B s.heap M1 H locs → lv_has ls 3 [(0, .ref (B + 0))] → W p l e ({ frames := 8, cells := 0, slots := 0, locals := 188 } : Room) s m args below meth c H locs 0 0 (MQ below (hq_Q vwCl SLx D cA YM B (hq_qi k)) args s 0 0 (hq_in B YM.length)) (F0 m 136 ls [])) : ∀ (n : Nat) (v2 : Int) (rv2 : rg v2) (M : hq_M) (H : Heap) (locs : List Loc) (ls : Array Slot), l_X12_sends_75 k_136 k n v2 M → hq_S vwCl SLx D cA YM B s.heap M H locs → lv_has ls 3 [(0, .ref (B + 0)), (2, .int (w3 v2))] → W p l e ({ frames := 8, cells := 0, slots := 0, locals := 188 } : Room) s m args below meth c H locs 0 0 (MQ below (hq_Q vwCl SLx D cA YM B (hq_qi k)) args s 0 0 (hq_in B YM.length)) (F0 m 75 ls []) := by
  have hx := C.1.1
  have hb := C.1.2.1
  intro n
  induction n with
  | zero => intro v2 rv2 M H locs ls hw hs hl; exact hw.elim
  | succ n ih =>
    intro v2 rv2 M H locs ls hw hs hl
    unfold l_X12_sends_75 at hw
    refine lv_iload_n hx hb dX12_sends_75 rfl (lv_at hl 1 rfl) ?_
    refine lv_aload_n hx hb dX12_sends_76 rfl (lv_at hl 0 rfl) ?_
    refine hq_getA (o := 0) C hs fX12_sends_53 tkM_0 (by decide) rfl dX12_sends_77 ?_
    refine lv_aload_n hx hb dX12_sends_80 rfl (lv_at hl 0 rfl) ?_
    refine hq_getI (o := 0) C hs fX12_sends_252 tkM_0 (by decide) rfl dX12_sends_81 (fun g1 => ?_)
    obtain ⟨g2, hw⟩ := hw
    refine hq_iald (o := 13) C hs tkM_13 g1 g2 dX12_sends_84 (fun g3 => ?_)
    refine hq_icmp_ge (tgt := 136) C rv2 g3 dX12_sends_85 (by decide) (fun h => ?_) (fun h => ?_)
    · have hw := hw.1 h
      exact hk_136 _ _ _ _ hw hs (lv_sub hl [0] rfl)
    · have hw := hw.2 h
      refine lv_aload_n hx hb dX12_sends_88 rfl (lv_at hl 0 rfl) ?_
      refine hq_getA (o := 0) C hs fX12_sends_75 tkM_0 (by decide) rfl dX12_sends_89 ?_
      refine hq_bipush C dX12_sends_92 (by decide) ?_
      refine lv_aload_n hx hb dX12_sends_94 rfl (lv_at hl 0 rfl) ?_
      refine hq_getI (o := 0) C hs fX12_sends_252 tkM_0 (by decide) rfl dX12_sends_95 (fun g4 => ?_)
      obtain ⟨g5, hw⟩ := hw
      refine hq_imul C dX12_sends_98 ?_
      refine lv_iload_n hx hb dX12_sends_99 rfl (lv_at hl 1 rfl) ?_
      obtain ⟨g6, hw⟩ := hw
      refine hq_iadd C dX12_sends_100 ?_
      refine lv_iload_n hx hb dX12_sends_101 rfl (lv_at hl 1 rfl) ?_
      refine lv_aload_n hx hb dX12_sends_102 rfl (lv_at hl 0 rfl) ?_
      refine hq_getI (o := 0) C hs fX12_sends_267 tkM_0 (by decide) rfl dX12_sends_103 (fun g7 => ?_)
      refine hq_icmp_ge (tgt := 118) C rv2 g7 dX12_sends_106 (by decide) (fun h => ?_) (fun h => ?_)
      · have hw := hw.1 h
        refine lv_aload_n hx hb dX12_sends_118 rfl (lv_at hl 0 rfl) ?_
        refine hq_getA (o := 0) C hs fX12_sends_84 tkM_0 (by decide) rfl dX12_sends_119 ?_
        refine lv_iload_n hx hb dX12_sends_122 rfl (lv_at hl 1 rfl) ?_
        refine lv_aload_n hx hb dX12_sends_123 rfl (lv_at hl 0 rfl) ?_
        refine hq_getI (o := 0) C hs fX12_sends_267 tkM_0 (by decide) rfl dX12_sends_124 (fun g8 => ?_)
        obtain ⟨g9, hw⟩ := hw
        refine hq_isub C dX12_sends_127 ?_
        obtain ⟨g10, hw⟩ := hw
        refine hq_iald (o := 23) C hs tkM_23 g9 g10 dX12_sends_128 (fun g11 => ?_)
        refine cb_X12_sends_129 v2 rv2 ((112 * (M 0 25)) + v2) g6 (M 23 (v2 - (M 0 49)).toNat) g11 C hw hs (lv_sub hl [0, 1] rfl) ?_
        · intro y2 ry2 M H locs ls hw hs hl
          exact ih y2 ry2 _ _ _ _ hw hs (lv_sub hl [0, 1] rfl)
      · have hw := hw.2 h
        refine lv_aload_n hx hb dX12_sends_109 rfl (lv_at hl 0 rfl) ?_
        refine hq_getA (o := 0) C hs fX12_sends_99 tkM_0 (by decide) rfl dX12_sends_110 ?_
        refine lv_iload_n hx hb dX12_sends_113 rfl (lv_at hl 1 rfl) ?_
        obtain ⟨g12, hw⟩ := hw
        refine hq_iald (o := 28) C hs tkM_28 rv2 g12 dX12_sends_114 (fun g13 => ?_)
        refine hq_goto (tgt := 129) C dX12_sends_115 (by decide) ?_
        refine cb_X12_sends_129 v2 rv2 ((112 * (M 0 25)) + v2) g6 (M 28 v2.toNat) g13 C hw hs (lv_sub hl [0, 1] rfl) ?_
        · intro y2 ry2 M H locs ls hw hs hl
          exact ih y2 ry2 _ _ _ _ hw hs (lv_sub hl [0, 1] rfl)
set_option maxHeartbeats 4000000 in
set_option maxRecDepth 100000 in
theorem cl_X12_sends_181 {p : Program} {l : Launch} {e : Env} {s : State} {m : MethodId} {args : Array Value} {below : List Frame} {meth : Method} {c : Code} {D : va_G} {cA : Nat → ClassId} {B : Nat} {Z : State → Prop}  {k_235 : hq_M → Prop} {k : Int → hq_M → Prop} (C : hq_C vwCl p m c cX12_sends 3 s args wsX12_sends RX12 meth (some .int) D cA (hq_in B YM.length) Z)
    (hk_235 : ∀ (M1 : hq_M) (H : Heap) (locs : List Loc) (ls : Array Slot), k_235 M1 → hq_S vwCl SLx D cA YM B s.heap M1 H locs → lv_has ls 3 [(0, .ref (B + 0))] → W p l e ({ frames := 8, cells := 0, slots := 0, locals := 188 } : Room) s m args below meth c H locs 0 0 (MQ below (hq_Q vwCl SLx D cA YM B (hq_qi k)) args s 0 0 (hq_in B YM.length)) (F0 m 235 ls [])) : ∀ (n : Nat) (v2 : Int) (rv2 : rg v2) (M : hq_M) (H : Heap) (locs : List Loc) (ls : Array Slot), l_X12_sends_181 k_235 k n v2 M → hq_S vwCl SLx D cA YM B s.heap M H locs → lv_has ls 3 [(0, .ref (B + 0)), (2, .int (w3 v2))] → W p l e ({ frames := 8, cells := 0, slots := 0, locals := 188 } : Room) s m args below meth c H locs 0 0 (MQ below (hq_Q vwCl SLx D cA YM B (hq_qi k)) args s 0 0 (hq_in B YM.length)) (F0 m 181 ls []) := by
  have hx := C.1.1
  have hb := C.1.2.1
  intro n
  induction n with
  | zero => intro v2 rv2 M H locs ls hw hs hl; exact hw.elim
  | succ n ih =>
    intro v2 rv2 M H locs ls hw hs hl
    unfold l_X12_sends_181 at hw
    refine lv_iload_n hx hb dX12_sends_181 rfl (lv_at hl 1 rfl) ?_
    refine lv_aload_n hx hb dX12_sends_182 rfl (lv_at hl 0 rfl) ?_
    refine hq_getI (o := 0) C hs fX12_sends_325 tkM_0 (by decide) rfl dX12_sends_183 (fun g1 => ?_)
    refine hq_icmp_ge (tgt := 235) C rv2 g1 dX12_sends_186 (by decide) (fun h => ?_) (fun h => ?_)
    · have hw := hw.1 h
      exact hk_235 _ _ _ _ hw hs (lv_sub hl [0] rfl)
    · have hw := hw.2 h
      refine lv_aload_n hx hb dX12_sends_189 rfl (lv_at hl 0 rfl) ?_
      refine hq_getA (o := 0) C hs fX12_sends_69 tkM_0 (by decide) rfl dX12_sends_190 ?_
      refine hq_bipush C dX12_sends_193 (by decide) ?_
      refine lv_aload_n hx hb dX12_sends_195 rfl (lv_at hl 0 rfl) ?_
      refine hq_getI (o := 0) C hs fX12_sends_252 tkM_0 (by decide) rfl dX12_sends_196 (fun g2 => ?_)
      obtain ⟨g3, hw⟩ := hw
      refine hq_imul C dX12_sends_199 ?_
      refine lv_iload_n hx hb dX12_sends_200 rfl (lv_at hl 1 rfl) ?_
      obtain ⟨g4, hw⟩ := hw
      refine hq_iadd C dX12_sends_201 ?_
      refine lv_aload_n hx hb dX12_sends_202 rfl (lv_at hl 0 rfl) ?_
      refine hq_getA (o := 0) C hs fX12_sends_78 tkM_0 (by decide) rfl dX12_sends_203 ?_
      refine lv_iload_n hx hb dX12_sends_206 rfl (lv_at hl 1 rfl) ?_
      obtain ⟨g5, hw⟩ := hw
      refine hq_iald (o := 21) C hs tkM_21 rv2 g5 dX12_sends_207 (fun g6 => ?_)
      obtain ⟨g7, hw⟩ := hw
      refine hq_iast (o := 18) C hs tkM_18 g4 g7 g6 dX12_sends_208 (fun M8 eM8 H locs hs => ?_)
      have hw := hw M8 eM8
      refine lv_aload_n hx hb dX12_sends_209 rfl (lv_at hl 0 rfl) ?_
      refine hq_getA (o := 0) C hs fX12_sends_72 tkM_0 (by decide) rfl dX12_sends_210 ?_
      refine hq_bipush C dX12_sends_213 (by decide) ?_
      refine lv_aload_n hx hb dX12_sends_215 rfl (lv_at hl 0 rfl) ?_
      refine hq_getI (o := 0) C hs fX12_sends_252 tkM_0 (by decide) rfl dX12_sends_216 (fun g9 => ?_)
      obtain ⟨g10, hw⟩ := hw
      refine hq_imul C dX12_sends_219 ?_
      refine lv_iload_n hx hb dX12_sends_220 rfl (lv_at hl 1 rfl) ?_
      obtain ⟨g11, hw⟩ := hw
      refine hq_iadd C dX12_sends_221 ?_
      refine lv_aload_n hx hb dX12_sends_222 rfl (lv_at hl 0 rfl) ?_
      refine hq_getA (o := 0) C hs fX12_sends_81 tkM_0 (by decide) rfl dX12_sends_223 ?_
      refine lv_iload_n hx hb dX12_sends_226 rfl (lv_at hl 1 rfl) ?_
      obtain ⟨g12, hw⟩ := hw
      refine hq_iald (o := 22) C hs tkM_22 rv2 g12 dX12_sends_227 (fun g13 => ?_)
      obtain ⟨g14, hw⟩ := hw
      refine hq_iast (o := 19) C hs tkM_19 g11 g14 g13 dX12_sends_228 (fun M15 eM15 H locs hs => ?_)
      have hw := hw M15 eM15
      obtain ⟨g17, hw⟩ := hw
      refine hq_iinc (k := 1) C dX12_sends_229 hl rfl (by decide) (fun x16 ex16 ls hl => ?_)
      have hw := hw x16 ex16
      have rx16 : rg x16 := by rw [ex16]; exact g17
      have hl : lv_has ls 3 [(2, .int (w3 x16)), (0, .ref (B + 0))] := hl
      refine hq_goto (tgt := 181) C dX12_sends_232 (by decide) ?_
      exact ih x16 rx16 _ _ _ _ hw hs (lv_sub hl [1, 0] rfl)
set_option maxHeartbeats 4000000 in
set_option maxRecDepth 100000 in
theorem c_X12_sends (l : Launch) {D : va_G} {cA : Nat → ClassId} {B : Nat} {Z : State → Prop} (hZ : hq_Zo Z (hq_in B YM.length)) (v1 : Int) (rv1 : rg v1) (M : hq_M) (k : Int → hq_M → Prop) (hw : w_X12_sends v1 M k) : hq_T vwCl SLx l yX12_sends wsX12_sends ({ frames := 8, cells := 0, slots := 0, locals := 188 } : Room) D cA YM B Z [.ref (B + 0), .int (w3 v1)] M (hq_qi k) := by
  refine hq_meth (cc := cX12_sends) (maxL := 3) (ret := (some .int)) (own := RX12) hZ rfl (by decide +kernel) rfl (Nat.le_of_ble_eq_true rfl) ?_
  intro p e s m below meth c ls C hs hl
  have hx := C.1.1
  have hb := C.1.2.1
  unfold w_X12_sends at hw
  have hl : lv_has ls 3 [(0, .ref (B + 0)), (1, .int (w3 v1))] := hl
  refine lv_iload_n hx hb dX12_sends_0 rfl (lv_at hl 1 rfl) ?_
  refine hq_i2l (y := 0) C rv1 dX12_sends_1 ?_
  refine hq_lconst (z := 0) C dX12_sends_2 rfl ?_
  refine hq_ldc2 (z := 2) C kX12_sends_356 (by decide) dX12_sends_3 ?_
  refine hq_cS (n := 3) C hs (c_X12_in l C.2.2.2.2.1 v1 (rg_rl rv1) 0 (by decide : rl 0) 2 (by decide : rl 2) _ _ hw) gX12_sends_X12_in rfl ⟨rfl, rfl⟩ (by decide +kernel) ⟨Nat.le_of_ble_eq_true rfl, Nat.le_of_ble_eq_true rfl⟩ rfl hl.1 rfl (Nat.le_of_ble_eq_true rfl) dX12_sends_6 (hq_kz (fun x1 M9 H locs rx1 hw hs => ?_))
  obtain ⟨e9, hw⟩ := hw; rw [e9] at hs
  refine hq_if_ne (tgt := 14) C (rb_rg rx1) dX12_sends_9 (by decide) (fun h => ?_) (fun h => ?_)
  · have hw := hw.1 h
    refine lv_aload_n hx hb dX12_sends_14 rfl (lv_at hl 0 rfl) ?_
    refine hq_getI (o := 0) C hs fX12_sends_252 tkM_0 (by decide) rfl dX12_sends_15 (fun g2 => ?_)
    refine hq_bipush C dX12_sends_18 (by decide) ?_
    refine hq_icmp_ne (tgt := 26) C g2 (by decide : rg 40) dX12_sends_20 (by decide) (fun h => ?_) (fun h => ?_)
    · have hw := hw.1 h
      refine lv_aload_n hx hb dX12_sends_26 rfl (lv_at hl 0 rfl) ?_
      refine hq_getA (o := 0) C hs fX12_sends_50 tkM_0 (by decide) rfl dX12_sends_27 ?_
      refine lv_aload_n hx hb dX12_sends_30 rfl (lv_at hl 0 rfl) ?_
      refine hq_getI (o := 0) C hs fX12_sends_252 tkM_0 (by decide) rfl dX12_sends_31 (fun g3 => ?_)
      refine lv_aload_n hx hb dX12_sends_34 rfl (lv_at hl 0 rfl) ?_
      refine hq_getA (o := 0) C hs fX12_sends_32 tkM_0 (by decide) rfl dX12_sends_35 ?_
      refine hq_iconst C dX12_sends_38 ?_
      obtain ⟨g4, hw⟩ := hw
      refine hq_iald (o := 6) C hs tkM_6 (by decide : rg 0) g4 dX12_sends_39 (fun g5 => ?_)
      obtain ⟨g6, hw⟩ := hw
      refine hq_iast (o := 12) C hs tkM_12 g3 g6 g5 dX12_sends_40 (fun M7 eM7 H locs hs => ?_)
      have hw := hw M7 eM7
      refine lv_aload_n hx hb dX12_sends_41 rfl (lv_at hl 0 rfl) ?_
      refine hq_getA (o := 0) C hs fX12_sends_47 tkM_0 (by decide) rfl dX12_sends_42 ?_
      refine lv_aload_n hx hb dX12_sends_45 rfl (lv_at hl 0 rfl) ?_
      refine hq_getI (o := 0) C hs fX12_sends_252 tkM_0 (by decide) rfl dX12_sends_46 (fun g8 => ?_)
      refine lv_aload_n hx hb dX12_sends_49 rfl (lv_at hl 0 rfl) ?_
      refine lv_iload_n hx hb dX12_sends_50 rfl (lv_at hl 1 rfl) ?_
      refine hq_cV (n := 1) (ci := 12) (o := 0) (qc := (TX12, 57)) C hs (c_X12_makes l C.2.2.2.2.1 v1 rv1 _ _ hw) gX12_sends_X12_makes rfl ⟨rfl, rfl⟩ (by decide +kernel) ⟨Nat.le_of_ble_eq_true rfl, Nat.le_of_ble_eq_true rfl⟩ tkM_0 (by decide) rfl rfl hl.1 rfl (Nat.le_of_ble_eq_true rfl) dX12_sends_51 (hq_ki (fun x10 M9 H locs rx10 hw hs => ?_))
      obtain ⟨g11, hw⟩ := hw
      refine hq_iast (o := 11) C hs tkM_11 g8 g11 rx10 dX12_sends_54 (fun M12 eM12 H locs hs => ?_)
      have hw := hw M12 eM12
      refine lv_aload_n hx hb dX12_sends_55 rfl (lv_at hl 0 rfl) ?_
      refine hq_getA (o := 0) C hs fX12_sends_53 tkM_0 (by decide) rfl dX12_sends_56 ?_
      refine lv_aload_n hx hb dX12_sends_59 rfl (lv_at hl 0 rfl) ?_
      refine hq_getI (o := 0) C hs fX12_sends_252 tkM_0 (by decide) rfl dX12_sends_60 (fun g13 => ?_)
      refine lv_aload_n hx hb dX12_sends_63 rfl (lv_at hl 0 rfl) ?_
      refine hq_getI (o := 0) C hs fX12_sends_267 tkM_0 (by decide) rfl dX12_sends_64 (fun g14 => ?_)
      refine lv_aload_n hx hb dX12_sends_67 rfl (lv_at hl 0 rfl) ?_
      refine hq_getI (o := 0) C hs fX12_sends_331 tkM_0 (by decide) rfl dX12_sends_68 (fun g15 => ?_)
      obtain ⟨g16, hw⟩ := hw
      refine hq_iadd C dX12_sends_71 ?_
      obtain ⟨g17, hw⟩ := hw
      refine hq_iast (o := 13) C hs tkM_13 g13 g17 g16 dX12_sends_72 (fun M18 eM18 H locs hs => ?_)
      have hw := hw M18 eM18
      refine hq_iconst C dX12_sends_73 ?_
      refine lv_istore_n (lv' := [(2, .int (w3 0)), (0, .ref (B + 0)), (1, .int (w3 v1))]) hx hb dX12_sends_74 rfl hl (by decide) rfl (fun ls hl => ?_)
      obtain ⟨n9, hw⟩ := hw
      refine cl_X12_sends_75  C ?_ n9 0 (by decide : rg 0) _ _ _ _ hw hs (lv_sub hl [1, 0] rfl)
      · intro M19 H locs ls hw hs hl
        refine lv_aload_n hx hb dX12_sends_136 rfl (lv_at hl 0 rfl) ?_
        refine hq_getA (o := 0) C hs fX12_sends_56 tkM_0 (by decide) rfl dX12_sends_137 ?_
        refine lv_aload_n hx hb dX12_sends_140 rfl (lv_at hl 0 rfl) ?_
        refine hq_getI (o := 0) C hs fX12_sends_252 tkM_0 (by decide) rfl dX12_sends_141 (fun g20 => ?_)
        refine hq_iconst C dX12_sends_144 ?_
        obtain ⟨g21, hw⟩ := hw
        refine hq_iast (o := 14) C hs tkM_14 g20 g21 (by decide : rg 0) dX12_sends_145 (fun M22 eM22 H locs hs => ?_)
        have hw := hw M22 eM22
        refine lv_aload_n hx hb dX12_sends_146 rfl (lv_at hl 0 rfl) ?_
        refine hq_getA (o := 0) C hs fX12_sends_59 tkM_0 (by decide) rfl dX12_sends_147 ?_
        refine lv_aload_n hx hb dX12_sends_150 rfl (lv_at hl 0 rfl) ?_
        refine hq_getI (o := 0) C hs fX12_sends_252 tkM_0 (by decide) rfl dX12_sends_151 (fun g23 => ?_)
        refine hq_iconst C dX12_sends_154 ?_
        obtain ⟨g24, hw⟩ := hw
        refine hq_iast (o := 15) C hs tkM_15 g23 g24 (by decide : rg 0) dX12_sends_155 (fun M25 eM25 H locs hs => ?_)
        have hw := hw M25 eM25
        refine lv_aload_n hx hb dX12_sends_156 rfl (lv_at hl 0 rfl) ?_
        refine hq_getA (o := 0) C hs fX12_sends_62 tkM_0 (by decide) rfl dX12_sends_157 ?_
        refine lv_aload_n hx hb dX12_sends_160 rfl (lv_at hl 0 rfl) ?_
        refine hq_getI (o := 0) C hs fX12_sends_252 tkM_0 (by decide) rfl dX12_sends_161 (fun g26 => ?_)
        refine hq_iconst C dX12_sends_164 ?_
        obtain ⟨g27, hw⟩ := hw
        refine hq_zast (o := 16) C hs tkM_16 g26 g27 (by decide) dX12_sends_165 (fun M28 eM28 H locs hs => ?_)
        have hw := hw M28 eM28
        refine lv_aload_n hx hb dX12_sends_166 rfl (lv_at hl 0 rfl) ?_
        refine hq_getA (o := 0) C hs fX12_sends_66 tkM_0 (by decide) rfl dX12_sends_167 ?_
        refine lv_aload_n hx hb dX12_sends_170 rfl (lv_at hl 0 rfl) ?_
        refine hq_getI (o := 0) C hs fX12_sends_252 tkM_0 (by decide) rfl dX12_sends_171 (fun g29 => ?_)
        refine lv_aload_n hx hb dX12_sends_174 rfl (lv_at hl 0 rfl) ?_
        refine hq_getI (o := 0) C hs fX12_sends_325 tkM_0 (by decide) rfl dX12_sends_175 (fun g30 => ?_)
        obtain ⟨g31, hw⟩ := hw
        refine hq_iast (o := 17) C hs tkM_17 g29 g31 g30 dX12_sends_178 (fun M32 eM32 H locs hs => ?_)
        have hw := hw M32 eM32
        refine hq_iconst C dX12_sends_179 ?_
        refine lv_istore_n (lv' := [(2, .int (w3 0)), (0, .ref (B + 0))]) hx hb dX12_sends_180 rfl hl (by decide) rfl (fun ls hl => ?_)
        obtain ⟨n9, hw⟩ := hw
        refine cl_X12_sends_181  C ?_ n9 0 (by decide : rg 0) _ _ _ _ hw hs (lv_sub hl [1, 0] rfl)
        · intro M33 H locs ls hw hs hl
          refine lv_aload_n hx hb dX12_sends_235 rfl (lv_at hl 0 rfl) ?_
          refine hq_iconst C dX12_sends_236 ?_
          refine hq_putI (o := 0) C hs fX12_sends_249 tkM_0 (by decide) rfl (by decide : rg 0) dX12_sends_237 (fun M34 eM34 H locs hs => ?_)
          have hw := hw M34 eM34
          refine lv_aload_n hx hb dX12_sends_240 rfl (lv_at hl 0 rfl) ?_
          refine hq_iconst C dX12_sends_241 ?_
          refine hq_putI (o := 0) C hs fX12_sends_325 tkM_0 (by decide) rfl (by decide : rg 0) dX12_sends_242 (fun M35 eM35 H locs hs => ?_)
          have hw := hw M35 eM35
          refine lv_aload_n hx hb dX12_sends_245 rfl (lv_at hl 0 rfl) ?_
          refine lv_dup hx hb dX12_sends_246 rfl ?_
          refine hq_getI (o := 0) C hs fX12_sends_252 tkM_0 (by decide) rfl dX12_sends_247 (fun g36 => ?_)
          refine hq_iconst C dX12_sends_250 ?_
          obtain ⟨g37, hw⟩ := hw
          refine hq_iadd C dX12_sends_251 ?_
          refine hq_putI (o := 0) C hs fX12_sends_252 tkM_0 (by decide) rfl g37 dX12_sends_252 (fun M38 eM38 H locs hs => ?_)
          have hw := hw M38 eM38
          refine lv_aload_n hx hb dX12_sends_255 rfl (lv_at hl 0 rfl) ?_
          refine hq_getI (o := 0) C hs fX12_sends_252 tkM_0 (by decide) rfl dX12_sends_256 (fun g39 => ?_)
          refine hq_iconst C dX12_sends_259 ?_
          obtain ⟨g40, hw⟩ := hw
          refine hq_isub C dX12_sends_260 ?_
          exact hq_iret C hs g40 hw dX12_sends_261
    · have hw := hw.2 h
      refine hq_bipush C dX12_sends_23 (by decide) ?_
      exact hq_iret C hs (by decide : rg (-3)) hw dX12_sends_25
  · have hw := hw.2 h
    refine hq_iconst C dX12_sends_12 ?_
    exact hq_iret C hs (by decide : rg (-1)) hw dX12_sends_13
theorem iX12_cost_12 : ∀ w ∈ u_ws RX12 TX12 57, w ∈ wsX12_cost := fun w h => List.mem_cons_of_mem _ (List.mem_append_right _ h)
set_option maxRecDepth 20000 in
theorem fX12_cost_32 : hq_fl vwCl wsX12_cost RX12 32 12 18 true (.array .int) := ⟨RX12, TX12, 57, tyX12, rfl, by decide, iX12_cost_12, by decide +kernel, rfl, tyX12_ok 18 (by decide), tyX12_ok, nmX12⟩
set_option maxRecDepth 20000 in
theorem fX12_cost_35 : hq_fl vwCl wsX12_cost RX12 35 12 19 true (.array .int) := ⟨RX12, TX12, 57, tyX12, rfl, by decide, iX12_cost_12, by decide +kernel, rfl, tyX12_ok 19 (by decide), tyX12_ok, nmX12⟩
set_option maxRecDepth 20000 in
theorem fX12_cost_41 : hq_fl vwCl wsX12_cost RX12 41 12 21 true (.array .int) := ⟨RX12, TX12, 57, tyX12, rfl, by decide, iX12_cost_12, by decide +kernel, rfl, tyX12_ok 21 (by decide), tyX12_ok, nmX12⟩
set_option maxRecDepth 20000 in
theorem fX12_cost_44 : hq_fl vwCl wsX12_cost RX12 44 12 22 true (.array .int) := ⟨RX12, TX12, 57, tyX12, rfl, by decide, iX12_cost_12, by decide +kernel, rfl, tyX12_ok 22 (by decide), tyX12_ok, nmX12⟩
set_option maxRecDepth 20000 in
theorem fX12_cost_102 : hq_fl vwCl wsX12_cost RX12 102 12 50 true (.array .int) := ⟨RX12, TX12, 57, tyX12, rfl, by decide, iX12_cost_12, by decide +kernel, rfl, tyX12_ok 50 (by decide), tyX12_ok, nmX12⟩
set_option maxRecDepth 20000 in
theorem fX12_cost_249 : hq_fl vwCl wsX12_cost RX12 249 12 39 false .int := ⟨RX12, TX12, 57, tyX12, rfl, by decide, iX12_cost_12, by decide +kernel, rfl, tyX12_ok 39 (by decide), tyX12_ok, nmX12⟩
set_option maxRecDepth 20000 in
theorem fX12_cost_267 : hq_fl vwCl wsX12_cost RX12 267 12 49 false .int := ⟨RX12, TX12, 57, tyX12, rfl, by decide, iX12_cost_12, by decide +kernel, rfl, tyX12_ok 49 (by decide), tyX12_ok, nmX12⟩
set_option maxRecDepth 20000 in
theorem fX12_cost_277 : hq_fl vwCl wsX12_cost RX12 277 12 43 false .int := ⟨RX12, TX12, 57, tyX12, rfl, by decide, iX12_cost_12, by decide +kernel, rfl, tyX12_ok 43 (by decide), tyX12_ok, nmX12⟩
set_option maxRecDepth 20000 in
theorem fX12_cost_280 : hq_fl vwCl wsX12_cost RX12 280 12 47 false .int := ⟨RX12, TX12, 57, tyX12, rfl, by decide, iX12_cost_12, by decide +kernel, rfl, tyX12_ok 47 (by decide), tyX12_ok, nmX12⟩
set_option maxRecDepth 20000 in
theorem fX12_cost_331 : hq_fl vwCl wsX12_cost RX12 331 12 41 false .int := ⟨RX12, TX12, 57, tyX12, rfl, by decide, iX12_cost_12, by decide +kernel, rfl, tyX12_ok 41 (by decide), tyX12_ok, nmX12⟩
set_option maxRecDepth 20000 in
theorem kX12_cost_356 : Cond.constantLong RX12 356 2 ∈ wsX12_cost := by decide +kernel
set_option maxHeartbeats 4000000 in
set_option maxRecDepth 100000 in
theorem cl_X12_cost_51 {p : Program} {l : Launch} {e : Env} {s : State} {m : MethodId} {args : Array Value} {below : List Frame} {meth : Method} {c : Code} {D : va_G} {cA : Nat → ClassId} {B : Nat} {Z : State → Prop} (u1 : Int) (u2 : Int) (u3 : Int) (u4 : Int) (u5 : Int) (u6 : Int) {k_78 : hq_M → Prop} {k : Int → hq_M → Prop} (C : hq_C vwCl p m c cX12_cost 9 s args wsX12_cost RX12 meth (some .int) D cA (hq_in B YM.length) Z)
    (hk_78 : ∀ (M1 : hq_M) (H : Heap) (locs : List Loc) (ls : Array Slot), k_78 M1 → hq_S vwCl SLx D cA YM B s.heap M1 H locs → lv_has ls 9 [(0, .ref (B + 0)), (1, .int (w3 u1)), (2, .int (w3 u2)), (3, .int (w3 u3)), (4, .int (w3 u4)), (5, .int (w3 u5)), (6, .int (w3 u6))] → W p l e ({ frames := 8, cells := 0, slots := 0, locals := 188 } : Room) s m args below meth c H locs 0 0 (MQ below (hq_Q vwCl SLx D cA YM B (hq_qi k)) args s 0 0 (hq_in B YM.length)) (F0 m 78 ls [])) : ∀ (n : Nat) (v7 : Int) (rv7 : rg v7) (M : hq_M) (H : Heap) (locs : List Loc) (ls : Array Slot), l_X12_cost_51 k_78 k n v7 M → hq_S vwCl SLx D cA YM B s.heap M H locs → lv_has ls 9 [(0, .ref (B + 0)), (1, .int (w3 u1)), (2, .int (w3 u2)), (3, .int (w3 u3)), (4, .int (w3 u4)), (5, .int (w3 u5)), (6, .int (w3 u6)), (7, .int (w3 v7))] → W p l e ({ frames := 8, cells := 0, slots := 0, locals := 188 } : Room) s m args below meth c H locs 0 0 (MQ below (hq_Q vwCl SLx D cA YM B (hq_qi k)) args s 0 0 (hq_in B YM.length)) (F0 m 51 ls []) := by
  have hx := C.1.1
  have hb := C.1.2.1
  intro n
  induction n with
  | zero => intro v7 rv7 M H locs ls hw hs hl; exact hw.elim
  | succ n ih =>
    intro v7 rv7 M H locs ls hw hs hl
    unfold l_X12_cost_51 at hw
    refine lv_iload hx hb dX12_cost_51 (lv_at hl 7 rfl) ?_
    refine hq_bipush C dX12_cost_53 (by decide) ?_
    refine hq_icmp_ge (tgt := 78) C rv7 (by decide : rg 64) dX12_cost_55 (by decide) (fun h => ?_) (fun h => ?_)
    · have hw := hw.1 h
      exact hk_78 _ _ _ _ hw hs (lv_sub hl [0, 1, 2, 3, 4, 5, 6] rfl)
    · have hw := hw.2 h
      refine lv_aload_n hx hb dX12_cost_58 rfl (lv_at hl 0 rfl) ?_
      refine hq_getA (o := 0) C hs fX12_cost_102 tkM_0 (by decide) rfl dX12_cost_59 ?_
      refine lv_iload hx hb dX12_cost_62 (lv_at hl 7 rfl) ?_
      refine lv_aload_n hx hb dX12_cost_64 rfl (lv_at hl 0 rfl) ?_
      refine hq_getA (o := 0) C hs fX12_cost_44 tkM_0 (by decide) rfl dX12_cost_65 ?_
      refine lv_iload hx hb dX12_cost_68 (lv_at hl 7 rfl) ?_
      obtain ⟨g1, hw⟩ := hw
      refine hq_iald (o := 10) C hs tkM_10 rv7 g1 dX12_cost_70 (fun g2 => ?_)
      obtain ⟨g3, hw⟩ := hw
      refine hq_iast (o := 29) C hs tkM_29 rv7 g3 g2 dX12_cost_71 (fun M4 eM4 H locs hs => ?_)
      have hw := hw M4 eM4
      obtain ⟨g6, hw⟩ := hw
      refine hq_iinc (k := 7) C dX12_cost_72 hl rfl (by decide) (fun x5 ex5 ls hl => ?_)
      have hw := hw x5 ex5
      have rx5 : rg x5 := by rw [ex5]; exact g6
      have hl : lv_has ls 9 [(7, .int (w3 x5)), (0, .ref (B + 0)), (1, .int (w3 u1)), (2, .int (w3 u2)), (3, .int (w3 u3)), (4, .int (w3 u4)), (5, .int (w3 u5)), (6, .int (w3 u6))] := hl
      refine hq_goto (tgt := 51) C dX12_cost_75 (by decide) ?_
      exact ih x5 rx5 _ _ _ _ hw hs (lv_sub hl [1, 2, 3, 4, 5, 6, 7, 0] rfl)
set_option maxHeartbeats 4000000 in
set_option maxRecDepth 100000 in
theorem cl_X12_cost_145 {p : Program} {l : Launch} {e : Env} {s : State} {m : MethodId} {args : Array Value} {below : List Frame} {meth : Method} {c : Code} {D : va_G} {cA : Nat → ClassId} {B : Nat} {Z : State → Prop} (v7 : Int) (rv7 : rg v7)  {k : Int → hq_M → Prop} (C : hq_C vwCl p m c cX12_cost 9 s args wsX12_cost RX12 meth (some .int) D cA (hq_in B YM.length) Z)
     : ∀ (n : Nat) (v8 : Int) (rv8 : rg v8) (M : hq_M) (H : Heap) (locs : List Loc) (ls : Array Slot), l_X12_cost_145 v7 k n v8 M → hq_S vwCl SLx D cA YM B s.heap M H locs → lv_has ls 9 [(0, .ref (B + 0)), (7, .int (w3 v7)), (8, .int (w3 v8))] → W p l e ({ frames := 8, cells := 0, slots := 0, locals := 188 } : Room) s m args below meth c H locs 0 0 (MQ below (hq_Q vwCl SLx D cA YM B (hq_qi k)) args s 0 0 (hq_in B YM.length)) (F0 m 145 ls []) := by
  have hx := C.1.1
  have hb := C.1.2.1
  intro n
  induction n with
  | zero => intro v8 rv8 M H locs ls hw hs hl; exact hw.elim
  | succ n ih =>
    intro v8 rv8 M H locs ls hw hs hl
    unfold l_X12_cost_145 at hw
    refine lv_iload hx hb dX12_cost_145 (lv_at hl 2 rfl) ?_
    refine hq_bipush C dX12_cost_147 (by decide) ?_
    refine hq_icmp_ge (tgt := 172) C rv8 (by decide : rg 64) dX12_cost_149 (by decide) (fun h => ?_) (fun h => ?_)
    · have hw := hw.1 h
      refine lv_iload hx hb dX12_cost_172 (lv_at hl 1 rfl) ?_
      exact hq_iret C hs rv7 hw dX12_cost_174
    · have hw := hw.2 h
      refine lv_aload_n hx hb dX12_cost_152 rfl (lv_at hl 0 rfl) ?_
      refine hq_getA (o := 0) C hs fX12_cost_44 tkM_0 (by decide) rfl dX12_cost_153 ?_
      refine lv_iload hx hb dX12_cost_156 (lv_at hl 2 rfl) ?_
      refine lv_aload_n hx hb dX12_cost_158 rfl (lv_at hl 0 rfl) ?_
      refine hq_getA (o := 0) C hs fX12_cost_102 tkM_0 (by decide) rfl dX12_cost_159 ?_
      refine lv_iload hx hb dX12_cost_162 (lv_at hl 2 rfl) ?_
      obtain ⟨g1, hw⟩ := hw
      refine hq_iald (o := 29) C hs tkM_29 rv8 g1 dX12_cost_164 (fun g2 => ?_)
      obtain ⟨g3, hw⟩ := hw
      refine hq_iast (o := 10) C hs tkM_10 rv8 g3 g2 dX12_cost_165 (fun M4 eM4 H locs hs => ?_)
      have hw := hw M4 eM4
      obtain ⟨g6, hw⟩ := hw
      refine hq_iinc (k := 2) C dX12_cost_166 hl rfl (by decide) (fun x5 ex5 ls hl => ?_)
      have hw := hw x5 ex5
      have rx5 : rg x5 := by rw [ex5]; exact g6
      have hl : lv_has ls 9 [(8, .int (w3 x5)), (0, .ref (B + 0)), (7, .int (w3 v7))] := hl
      refine hq_goto (tgt := 145) C dX12_cost_169 (by decide) ?_
      exact ih x5 rx5 _ _ _ _ hw hs (lv_sub hl [1, 2, 0] rfl)
set_option maxHeartbeats 4000000 in
set_option maxRecDepth 100000 in
theorem c_X12_cost (l : Launch) {D : va_G} {cA : Nat → ClassId} {B : Nat} {Z : State → Prop} (hZ : hq_Zo Z (hq_in B YM.length)) (v1 : Int) (rv1 : rg v1) (M : hq_M) (k : Int → hq_M → Prop) (hw : w_X12_cost v1 M k) : hq_T vwCl SLx l yX12_cost wsX12_cost ({ frames := 8, cells := 0, slots := 0, locals := 188 } : Room) D cA YM B Z [.ref (B + 0), .int (w3 v1)] M (hq_qi k) := by
  refine hq_meth (cc := cX12_cost) (maxL := 9) (ret := (some .int)) (own := RX12) hZ rfl (by decide +kernel) rfl (Nat.le_of_ble_eq_true rfl) ?_
  intro p e s m below meth c ls C hs hl
  have hx := C.1.1
  have hb := C.1.2.1
  unfold w_X12_cost at hw
  have hl : lv_has ls 9 [(0, .ref (B + 0)), (1, .int (w3 v1))] := hl
  refine lv_iload_n hx hb dX12_cost_0 rfl (lv_at hl 1 rfl) ?_
  refine hq_i2l (y := 0) C rv1 dX12_cost_1 ?_
  refine hq_lconst (z := 0) C dX12_cost_2 rfl ?_
  refine hq_ldc2 (z := 2) C kX12_cost_356 (by decide) dX12_cost_3 ?_
  refine hq_cS (n := 3) C hs (c_X12_in l C.2.2.2.2.1 v1 (rg_rl rv1) 0 (by decide : rl 0) 2 (by decide : rl 2) _ _ hw) gX12_cost_X12_in rfl ⟨rfl, rfl⟩ (by decide +kernel) ⟨Nat.le_of_ble_eq_true rfl, Nat.le_of_ble_eq_true rfl⟩ rfl hl.1 rfl (Nat.le_of_ble_eq_true rfl) dX12_cost_6 (hq_kz (fun x1 M9 H locs rx1 hw hs => ?_))
  obtain ⟨e9, hw⟩ := hw; rw [e9] at hs
  refine hq_if_ne (tgt := 14) C (rb_rg rx1) dX12_cost_9 (by decide) (fun h => ?_) (fun h => ?_)
  · have hw := hw.1 h
    refine lv_aload_n hx hb dX12_cost_14 rfl (lv_at hl 0 rfl) ?_
    refine hq_getA (o := 0) C hs fX12_cost_32 tkM_0 (by decide) rfl dX12_cost_15 ?_
    refine hq_iconst C dX12_cost_18 ?_
    obtain ⟨g2, hw⟩ := hw
    refine hq_iald (o := 6) C hs tkM_6 (by decide : rg 0) g2 dX12_cost_19 (fun g3 => ?_)
    refine hq_nm (fun x4 ex4 => ?_)
    have hw := hw x4 ex4
    have rx4 : rg x4 := by rw [ex4]; exact g3
    refine lv_istore_n (lv' := [(2, .int (w3 x4)), (0, .ref (B + 0)), (1, .int (w3 v1))]) hx hb dX12_cost_20 rfl hl (by decide) rfl (fun ls hl => ?_)
    refine lv_aload_n hx hb dX12_cost_21 rfl (lv_at hl 1 rfl) ?_
    refine hq_getA (o := 0) C hs fX12_cost_35 tkM_0 (by decide) rfl dX12_cost_22 ?_
    refine hq_iconst C dX12_cost_25 ?_
    obtain ⟨g5, hw⟩ := hw
    refine hq_iald (o := 7) C hs tkM_7 (by decide : rg 0) g5 dX12_cost_26 (fun g6 => ?_)
    refine hq_nm (fun x7 ex7 => ?_)
    have hw := hw x7 ex7
    have rx7 : rg x7 := by rw [ex7]; exact g6
    refine lv_istore_n (lv' := [(3, .int (w3 x7)), (2, .int (w3 x4)), (0, .ref (B + 0)), (1, .int (w3 v1))]) hx hb dX12_cost_27 rfl hl (by decide) rfl (fun ls hl => ?_)
    refine lv_aload_n hx hb dX12_cost_28 rfl (lv_at hl 2 rfl) ?_
    refine hq_getA (o := 0) C hs fX12_cost_41 tkM_0 (by decide) rfl dX12_cost_29 ?_
    refine hq_iconst C dX12_cost_32 ?_
    obtain ⟨g8, hw⟩ := hw
    refine hq_iald (o := 9) C hs tkM_9 (by decide : rg 0) g8 dX12_cost_33 (fun g9 => ?_)
    refine hq_nm (fun x10 ex10 => ?_)
    have hw := hw x10 ex10
    have rx10 : rg x10 := by rw [ex10]; exact g9
    refine lv_istore (lv' := [(4, .int (w3 x10)), (3, .int (w3 x7)), (2, .int (w3 x4)), (0, .ref (B + 0)), (1, .int (w3 v1))]) hx hb dX12_cost_34 hl (by decide) rfl (fun ls hl => ?_)
    refine lv_aload_n hx hb dX12_cost_36 rfl (lv_at hl 3 rfl) ?_
    refine hq_getI (o := 0) C hs fX12_cost_277 tkM_0 (by decide) rfl dX12_cost_37 (fun g11 => ?_)
    refine hq_nm (fun x12 ex12 => ?_)
    have hw := hw x12 ex12
    have rx12 : rg x12 := by rw [ex12]; exact g11
    refine lv_istore (lv' := [(5, .int (w3 x12)), (4, .int (w3 x10)), (3, .int (w3 x7)), (2, .int (w3 x4)), (0, .ref (B + 0)), (1, .int (w3 v1))]) hx hb dX12_cost_40 hl (by decide) rfl (fun ls hl => ?_)
    refine lv_aload_n hx hb dX12_cost_42 rfl (lv_at hl 4 rfl) ?_
    refine hq_getI (o := 0) C hs fX12_cost_280 tkM_0 (by decide) rfl dX12_cost_43 (fun g13 => ?_)
    refine hq_nm (fun x14 ex14 => ?_)
    have hw := hw x14 ex14
    have rx14 : rg x14 := by rw [ex14]; exact g13
    refine lv_istore (lv' := [(6, .int (w3 x14)), (5, .int (w3 x12)), (4, .int (w3 x10)), (3, .int (w3 x7)), (2, .int (w3 x4)), (0, .ref (B + 0)), (1, .int (w3 v1))]) hx hb dX12_cost_46 hl (by decide) rfl (fun ls hl => ?_)
    refine hq_iconst C dX12_cost_48 ?_
    refine lv_istore (lv' := [(7, .int (w3 0)), (6, .int (w3 x14)), (5, .int (w3 x12)), (4, .int (w3 x10)), (3, .int (w3 x7)), (2, .int (w3 x4)), (0, .ref (B + 0)), (1, .int (w3 v1))]) hx hb dX12_cost_49 hl (by decide) rfl (fun ls hl => ?_)
    obtain ⟨n9, hw⟩ := hw
    refine cl_X12_cost_51 v1 x4 x7 x10 x12 x14 C ?_ n9 0 (by decide : rg 0) _ _ _ _ hw hs (lv_sub hl [6, 7, 5, 4, 3, 2, 1, 0] rfl)
    · intro M15 H locs ls hw hs hl
      refine lv_aload_n hx hb dX12_cost_78 rfl (lv_at hl 0 rfl) ?_
      refine lv_iload_n hx hb dX12_cost_79 rfl (lv_at hl 1 rfl) ?_
      refine hq_cV (n := 1) (ci := 12) (o := 0) (qc := (TX12, 57)) C hs (c_X12_makes l C.2.2.2.2.1 v1 rv1 _ _ hw) gX12_cost_X12_makes rfl ⟨rfl, rfl⟩ (by decide +kernel) ⟨Nat.le_of_ble_eq_true rfl, Nat.le_of_ble_eq_true rfl⟩ tkM_0 (by decide) rfl rfl hl.1 rfl (Nat.le_of_ble_eq_true rfl) dX12_cost_80 (hq_ki (fun x17 M16 H locs rx17 hw hs => ?_))
      refine lv_pop hx hb dX12_cost_83 rfl ?_
      refine lv_aload_n hx hb dX12_cost_84 rfl (lv_at hl 0 rfl) ?_
      refine hq_getI (o := 0) C hs fX12_cost_267 tkM_0 (by decide) rfl dX12_cost_85 (fun g18 => ?_)
      refine lv_aload_n hx hb dX12_cost_88 rfl (lv_at hl 0 rfl) ?_
      refine hq_getI (o := 0) C hs fX12_cost_331 tkM_0 (by decide) rfl dX12_cost_89 (fun g19 => ?_)
      obtain ⟨g20, hw⟩ := hw
      refine hq_iadd C dX12_cost_92 ?_
      refine lv_aload_n hx hb dX12_cost_93 rfl (lv_at hl 0 rfl) ?_
      refine hq_getI (o := 0) C hs fX12_cost_277 tkM_0 (by decide) rfl dX12_cost_94 (fun g21 => ?_)
      obtain ⟨g22, hw⟩ := hw
      refine hq_iadd C dX12_cost_97 ?_
      refine lv_iload hx hb dX12_cost_98 (lv_at hl 5 rfl) ?_
      obtain ⟨g23, hw⟩ := hw
      refine hq_isub C dX12_cost_100 ?_
      refine hq_nm (fun x24 ex24 => ?_)
      have hw := hw x24 ex24
      have rx24 : rg x24 := by rw [ex24]; exact g23
      refine lv_istore (lv' := [(7, .int (w3 x24)), (0, .ref (B + 0)), (1, .int (w3 v1)), (2, .int (w3 x4)), (3, .int (w3 x7)), (4, .int (w3 x10)), (5, .int (w3 x12)), (6, .int (w3 x14))]) hx hb dX12_cost_101 hl (by decide) rfl (fun ls hl => ?_)
      refine lv_aload_n hx hb dX12_cost_103 rfl (lv_at hl 1 rfl) ?_
      refine hq_iconst C dX12_cost_104 ?_
      refine hq_putI (o := 0) C hs fX12_cost_249 tkM_0 (by decide) rfl (by decide : rg 0) dX12_cost_105 (fun M25 eM25 H locs hs => ?_)
      have hw := hw M25 eM25
      refine lv_aload_n hx hb dX12_cost_108 rfl (lv_at hl 1 rfl) ?_
      refine hq_getA (o := 0) C hs fX12_cost_32 tkM_0 (by decide) rfl dX12_cost_109 ?_
      refine hq_iconst C dX12_cost_112 ?_
      refine lv_iload_n hx hb dX12_cost_113 rfl (lv_at hl 3 rfl) ?_
      obtain ⟨g26, hw⟩ := hw
      refine hq_iast (o := 6) C hs tkM_6 (by decide : rg 0) g26 rx4 dX12_cost_114 (fun M27 eM27 H locs hs => ?_)
      have hw := hw M27 eM27
      refine lv_aload_n hx hb dX12_cost_115 rfl (lv_at hl 1 rfl) ?_
      refine hq_getA (o := 0) C hs fX12_cost_35 tkM_0 (by decide) rfl dX12_cost_116 ?_
      refine hq_iconst C dX12_cost_119 ?_
      refine lv_iload_n hx hb dX12_cost_120 rfl (lv_at hl 4 rfl) ?_
      obtain ⟨g28, hw⟩ := hw
      refine hq_iast (o := 7) C hs tkM_7 (by decide : rg 0) g28 rx7 dX12_cost_121 (fun M29 eM29 H locs hs => ?_)
      have hw := hw M29 eM29
      refine lv_aload_n hx hb dX12_cost_122 rfl (lv_at hl 1 rfl) ?_
      refine hq_getA (o := 0) C hs fX12_cost_41 tkM_0 (by decide) rfl dX12_cost_123 ?_
      refine hq_iconst C dX12_cost_126 ?_
      refine lv_iload hx hb dX12_cost_127 (lv_at hl 5 rfl) ?_
      obtain ⟨g30, hw⟩ := hw
      refine hq_iast (o := 9) C hs tkM_9 (by decide : rg 0) g30 rx10 dX12_cost_129 (fun M31 eM31 H locs hs => ?_)
      have hw := hw M31 eM31
      refine lv_aload_n hx hb dX12_cost_130 rfl (lv_at hl 1 rfl) ?_
      refine lv_iload hx hb dX12_cost_131 (lv_at hl 6 rfl) ?_
      refine hq_putI (o := 0) C hs fX12_cost_277 tkM_0 (by decide) rfl rx12 dX12_cost_133 (fun M32 eM32 H locs hs => ?_)
      have hw := hw M32 eM32
      refine lv_aload_n hx hb dX12_cost_136 rfl (lv_at hl 1 rfl) ?_
      refine lv_iload hx hb dX12_cost_137 (lv_at hl 7 rfl) ?_
      refine hq_putI (o := 0) C hs fX12_cost_280 tkM_0 (by decide) rfl rx14 dX12_cost_139 (fun M33 eM33 H locs hs => ?_)
      have hw := hw M33 eM33
      refine hq_iconst C dX12_cost_142 ?_
      refine lv_istore (lv' := [(8, .int (w3 0)), (7, .int (w3 x24)), (0, .ref (B + 0)), (1, .int (w3 v1)), (2, .int (w3 x4)), (3, .int (w3 x7)), (4, .int (w3 x10)), (5, .int (w3 x12)), (6, .int (w3 x14))]) hx hb dX12_cost_143 hl (by decide) rfl (fun ls hl => ?_)
      obtain ⟨n9, hw⟩ := hw
      refine cl_X12_cost_145 x24 rx24 C  n9 0 (by decide : rg 0) _ _ _ _ hw hs (lv_sub hl [2, 1, 0] rfl)
  · have hw := hw.2 h
    refine hq_iconst C dX12_cost_12 ?_
    exact hq_iret C hs (by decide : rg (-1)) hw dX12_cost_13
theorem iX12_loose_12 : ∀ w ∈ u_ws RX12 TX12 57, w ∈ wsX12_loose := fun w h => List.mem_cons_of_mem _ (List.mem_append_right _ h)
set_option maxRecDepth 20000 in
theorem fX12_loose_32 : hq_fl vwCl wsX12_loose RX12 32 12 18 true (.array .int) := ⟨RX12, TX12, 57, tyX12, rfl, by decide, iX12_loose_12, by decide +kernel, rfl, tyX12_ok 18 (by decide), tyX12_ok, nmX12⟩
set_option maxRecDepth 20000 in
theorem fX12_loose_35 : hq_fl vwCl wsX12_loose RX12 35 12 19 true (.array .int) := ⟨RX12, TX12, 57, tyX12, rfl, by decide, iX12_loose_12, by decide +kernel, rfl, tyX12_ok 19 (by decide), tyX12_ok, nmX12⟩
set_option maxHeartbeats 4000000 in
set_option maxRecDepth 100000 in
theorem cl_X12_loose_7 {p : Program} {l : Launch} {e : Env} {s : State} {m : MethodId} {args : Array Value} {below : List Frame} {meth : Method} {c : Code} {D : va_G} {cA : Nat → ClassId} {B : Nat} {Z : State → Prop}  {k_31 : Int → Prop} {k : Int → Prop} {M : hq_M} (C : hq_C vwCl p m c cX12_loose 2 s args wsX12_loose RX12 meth (some .int) D cA (hq_in B YM.length) Z)
    (hk_31 : ∀ (y1 : Int) (ry1 : rg y1) (H : Heap) (locs : List Loc) (ls : Array Slot), k_31 y1 → hq_S vwCl SLx D cA YM B s.heap M H locs → lv_has ls 2 [(0, .ref (B + 0)), (1, .int (w3 y1))] → W p l e ({ frames := 3, cells := 0, slots := 0, locals := 68 } : Room) s m args below meth c H locs 0 0 (MQ below (hq_Q vwCl SLx D cA YM B (hq_qi (fun z M' => M' = M ∧ k z))) args s 0 0 (hq_in B YM.length)) (F0 m 31 ls [])) : ∀ (n : Nat) (v1 : Int) (rv1 : rg v1) (H : Heap) (locs : List Loc) (ls : Array Slot), l_X12_loose_7 k_31 k M n v1 → hq_S vwCl SLx D cA YM B s.heap M H locs → lv_has ls 2 [(0, .ref (B + 0)), (1, .int (w3 v1))] → W p l e ({ frames := 3, cells := 0, slots := 0, locals := 68 } : Room) s m args below meth c H locs 0 0 (MQ below (hq_Q vwCl SLx D cA YM B (hq_qi (fun z M' => M' = M ∧ k z))) args s 0 0 (hq_in B YM.length)) (F0 m 7 ls []) := by
  have hx := C.1.1
  have hb := C.1.2.1
  intro n
  induction n with
  | zero => intro v1 rv1 H locs ls hw hs hl; exact hw.elim
  | succ n ih =>
    intro v1 rv1 H locs ls hw hs hl
    unfold l_X12_loose_7 at hw
    refine lv_iload_n hx hb dX12_loose_7 rfl (lv_at hl 1 rfl) ?_
    refine lv_aload_n hx hb dX12_loose_8 rfl (lv_at hl 0 rfl) ?_
    refine hq_getA (o := 0) C hs fX12_loose_32 tkM_0 (by decide) rfl dX12_loose_9 ?_
    refine hq_iconst C dX12_loose_12 ?_
    obtain ⟨g1, hw⟩ := hw
    refine hq_iald (o := 6) C hs tkM_6 (by decide : rg 0) g1 dX12_loose_13 (fun g2 => ?_)
    refine hq_icmp_ge (tgt := 31) C rv1 g2 dX12_loose_14 (by decide) (fun h => ?_) (fun h => ?_)
    · have hw := hw.1 h
      exact hk_31 v1 rv1 _ _ _ hw hs (lv_sub hl [0, 1] rfl)
    · have hw := hw.2 h
      refine lv_aload_n hx hb dX12_loose_17 rfl (lv_at hl 0 rfl) ?_
      refine lv_iload_n hx hb dX12_loose_18 rfl (lv_at hl 1 rfl) ?_
      refine hq_cV (n := 1) (ci := 12) (o := 0) (qc := (TX12, 57)) C hs (c_X12_isFree l C.2.2.2.2.1 v1 rv1 _ _ hw) gX12_loose_X12_isFree rfl ⟨rfl, rfl⟩ (by decide +kernel) ⟨Nat.le_of_ble_eq_true rfl, Nat.le_of_ble_eq_true rfl⟩ tkM_0 (by decide) rfl rfl hl.1 rfl (Nat.le_of_ble_eq_true rfl) dX12_loose_19 (hq_kz (fun x3 M9 H locs rx3 hw hs => ?_))
      obtain ⟨e9, hw⟩ := hw; rw [e9] at hs
      refine hq_if_eq (tgt := 31) C (rb_rg rx3) dX12_loose_22 (by decide) (fun h => ?_) (fun h => ?_)
      · have hw := hw.1 h
        exact hk_31 v1 rv1 _ _ _ hw hs (lv_sub hl [0, 1] rfl)
      · have hw := hw.2 h
        obtain ⟨g5, hw⟩ := hw
        refine hq_iinc (k := 1) C dX12_loose_25 hl rfl (by decide) (fun x4 ex4 ls hl => ?_)
        have hw := hw x4 ex4
        have rx4 : rg x4 := by rw [ex4]; exact g5
        have hl : lv_has ls 2 [(1, .int (w3 x4)), (0, .ref (B + 0))] := hl
        refine hq_goto (tgt := 7) C dX12_loose_28 (by decide) ?_
        exact ih x4 rx4 _ _ _ hw hs (lv_sub hl [1, 0] rfl)
set_option maxHeartbeats 4000000 in
set_option maxRecDepth 100000 in
theorem c_X12_loose (l : Launch) {D : va_G} {cA : Nat → ClassId} {B : Nat} {Z : State → Prop} (hZ : hq_Zo Z (hq_in B YM.length))  (M : hq_M) (k : Int → Prop) (hw : w_X12_loose  M k) : hq_T vwCl SLx l yX12_loose wsX12_loose ({ frames := 3, cells := 0, slots := 0, locals := 68 } : Room) D cA YM B Z [.ref (B + 0)] M (hq_qi (fun z M' => M' = M ∧ k z)) := by
  refine hq_meth (cc := cX12_loose) (maxL := 2) (ret := (some .int)) (own := RX12) hZ rfl (by decide +kernel) rfl (Nat.le_of_ble_eq_true rfl) ?_
  intro p e s m below meth c ls C hs hl
  have hx := C.1.1
  have hb := C.1.2.1
  unfold w_X12_loose at hw
  have hl : lv_has ls 2 [(0, .ref (B + 0))] := hl
  refine lv_aload_n hx hb dX12_loose_0 rfl (lv_at hl 0 rfl) ?_
  refine hq_getA (o := 0) C hs fX12_loose_35 tkM_0 (by decide) rfl dX12_loose_1 ?_
  refine hq_iconst C dX12_loose_4 ?_
  obtain ⟨g1, hw⟩ := hw
  refine hq_iald (o := 7) C hs tkM_7 (by decide : rg 0) g1 dX12_loose_5 (fun g2 => ?_)
  refine hq_nm (fun x3 ex3 => ?_)
  have hw := hw x3 ex3
  have rx3 : rg x3 := by rw [ex3]; exact g2
  refine lv_istore_n (lv' := [(1, .int (w3 x3)), (0, .ref (B + 0))]) hx hb dX12_loose_6 rfl hl (by decide) rfl (fun ls hl => ?_)
  obtain ⟨n9, hw⟩ := hw
  refine cl_X12_loose_7  C ?_ n9 x3 rx3 _ _ _ hw hs (lv_sub hl [1, 0] rfl)
  · intro x4 rx4 H locs ls hw hs hl
    refine lv_iload_n hx hb dX12_loose_31 rfl (lv_at hl 1 rfl) ?_
    refine lv_aload_n hx hb dX12_loose_32 rfl (lv_at hl 0 rfl) ?_
    refine hq_getA (o := 0) C hs fX12_loose_35 tkM_0 (by decide) rfl dX12_loose_33 ?_
    refine hq_iconst C dX12_loose_36 ?_
    obtain ⟨g5, hw⟩ := hw
    refine hq_iald (o := 7) C hs tkM_7 (by decide : rg 0) g5 dX12_loose_37 (fun g6 => ?_)
    obtain ⟨g7, hw⟩ := hw
    refine hq_isub C dX12_loose_38 ?_
    exact hq_iret C hs g7 ⟨rfl, hw⟩ dX12_loose_39
theorem iX12_answer_12 : ∀ w ∈ u_ws RX12 TX12 57, w ∈ wsX12_answer := fun w h => List.mem_cons_of_mem _ (List.mem_append_right _ h)
set_option maxRecDepth 20000 in
theorem fX12_answer_99 : hq_fl vwCl wsX12_answer RX12 99 12 48 true (.array .int) := ⟨RX12, TX12, 57, tyX12, rfl, by decide, iX12_answer_12, by decide +kernel, rfl, tyX12_ok 48 (by decide), tyX12_ok, nmX12⟩
set_option maxRecDepth 20000 in
theorem fX12_answer_105 : hq_fl vwCl wsX12_answer RX12 105 12 51 true (.array .int) := ⟨RX12, TX12, 57, tyX12, rfl, by decide, iX12_answer_12, by decide +kernel, rfl, tyX12_ok 51 (by decide), tyX12_ok, nmX12⟩
set_option maxRecDepth 20000 in
theorem fX12_answer_108 : hq_fl vwCl wsX12_answer RX12 108 12 53 true (.array .int) := ⟨RX12, TX12, 57, tyX12, rfl, by decide, iX12_answer_12, by decide +kernel, rfl, tyX12_ok 53 (by decide), tyX12_ok, nmX12⟩
set_option maxRecDepth 20000 in
theorem fX12_answer_111 : hq_fl vwCl wsX12_answer RX12 111 12 54 true (.array .int) := ⟨RX12, TX12, 57, tyX12, rfl, by decide, iX12_answer_12, by decide +kernel, rfl, tyX12_ok 54 (by decide), tyX12_ok, nmX12⟩
set_option maxRecDepth 20000 in
theorem fX12_answer_114 : hq_fl vwCl wsX12_answer RX12 114 12 55 true (.array .int) := ⟨RX12, TX12, 57, tyX12, rfl, by decide, iX12_answer_12, by decide +kernel, rfl, tyX12_ok 55 (by decide), tyX12_ok, nmX12⟩
set_option maxRecDepth 20000 in
theorem fX12_answer_267 : hq_fl vwCl wsX12_answer RX12 267 12 49 false .int := ⟨RX12, TX12, 57, tyX12, rfl, by decide, iX12_answer_12, by decide +kernel, rfl, tyX12_ok 49 (by decide), tyX12_ok, nmX12⟩
set_option maxRecDepth 20000 in
theorem fX12_answer_361 : hq_fl vwCl wsX12_answer RX12 361 12 52 false .int := ⟨RX12, TX12, 57, tyX12, rfl, by decide, iX12_answer_12, by decide +kernel, rfl, tyX12_ok 52 (by decide), tyX12_ok, nmX12⟩
set_option maxRecDepth 20000 in
theorem fX12_answer_364 : hq_fl vwCl wsX12_answer RX12 364 12 56 false .int := ⟨RX12, TX12, 57, tyX12, rfl, by decide, iX12_answer_12, by decide +kernel, rfl, tyX12_ok 56 (by decide), tyX12_ok, nmX12⟩
set_option maxHeartbeats 4000000 in
set_option maxRecDepth 100000 in
theorem cl_X12_answer_44 {p : Program} {l : Launch} {e : Env} {s : State} {m : MethodId} {args : Array Value} {below : List Frame} {meth : Method} {c : Code} {D : va_G} {cA : Nat → ClassId} {B : Nat} {Z : State → Prop} (u1 : Int) (u2 : Int) {k_75 : hq_M → Prop} {k : hq_M → Prop} (C : hq_C vwCl p m c cX12_answer 4 s args wsX12_answer RX12 meth none D cA (hq_in B YM.length) Z)
    (hk_75 : ∀ (M1 : hq_M) (H : Heap) (locs : List Loc) (ls : Array Slot), k_75 M1 → hq_S vwCl SLx D cA YM B s.heap M1 H locs → lv_has ls 4 [(0, .ref (B + 0)), (1, .int (w3 u1)), (2, .int (w3 u2))] → W p l e ({ frames := 2, cells := 0, slots := 0, locals := 46 } : Room) s m args below meth c H locs 0 0 (MQ below (hq_Q vwCl SLx D cA YM B (hq_qv k)) args s 0 0 (hq_in B YM.length)) (F0 m 75 ls [])) : ∀ (n : Nat) (v3 : Int) (rv3 : rg v3) (M : hq_M) (H : Heap) (locs : List Loc) (ls : Array Slot), l_X12_answer_44 k_75 k n v3 M → hq_S vwCl SLx D cA YM B s.heap M H locs → lv_has ls 4 [(0, .ref (B + 0)), (1, .int (w3 u1)), (2, .int (w3 u2)), (3, .int (w3 v3))] → W p l e ({ frames := 2, cells := 0, slots := 0, locals := 46 } : Room) s m args below meth c H locs 0 0 (MQ below (hq_Q vwCl SLx D cA YM B (hq_qv k)) args s 0 0 (hq_in B YM.length)) (F0 m 44 ls []) := by
  have hx := C.1.1
  have hb := C.1.2.1
  intro n
  induction n with
  | zero => intro v3 rv3 M H locs ls hw hs hl; exact hw.elim
  | succ n ih =>
    intro v3 rv3 M H locs ls hw hs hl
    unfold l_X12_answer_44 at hw
    refine lv_iload_n hx hb dX12_answer_44 rfl (lv_at hl 3 rfl) ?_
    refine lv_aload_n hx hb dX12_answer_45 rfl (lv_at hl 0 rfl) ?_
    refine hq_getI (o := 0) C hs fX12_answer_267 tkM_0 (by decide) rfl dX12_answer_46 (fun g1 => ?_)
    refine hq_icmp_ge (tgt := 75) C rv3 g1 dX12_answer_49 (by decide) (fun h => ?_) (fun h => ?_)
    · have hw := hw.1 h
      exact hk_75 _ _ _ _ hw hs (lv_sub hl [0, 1, 2] rfl)
    · have hw := hw.2 h
      refine lv_aload_n hx hb dX12_answer_52 rfl (lv_at hl 0 rfl) ?_
      refine hq_getA (o := 0) C hs fX12_answer_105 tkM_0 (by decide) rfl dX12_answer_53 ?_
      refine lv_aload_n hx hb dX12_answer_56 rfl (lv_at hl 0 rfl) ?_
      refine hq_getI (o := 0) C hs fX12_answer_361 tkM_0 (by decide) rfl dX12_answer_57 (fun g2 => ?_)
      refine lv_iload_n hx hb dX12_answer_60 rfl (lv_at hl 3 rfl) ?_
      obtain ⟨g3, hw⟩ := hw
      refine hq_iadd C dX12_answer_61 ?_
      refine lv_aload_n hx hb dX12_answer_62 rfl (lv_at hl 0 rfl) ?_
      refine hq_getA (o := 0) C hs fX12_answer_99 tkM_0 (by decide) rfl dX12_answer_63 ?_
      refine lv_iload_n hx hb dX12_answer_66 rfl (lv_at hl 3 rfl) ?_
      obtain ⟨g4, hw⟩ := hw
      refine hq_iald (o := 28) C hs tkM_28 rv3 g4 dX12_answer_67 (fun g5 => ?_)
      obtain ⟨g6, hw⟩ := hw
      refine hq_iast (o := 30) C hs tkM_30 g3 g6 g5 dX12_answer_68 (fun M7 eM7 H locs hs => ?_)
      have hw := hw M7 eM7
      obtain ⟨g9, hw⟩ := hw
      refine hq_iinc (k := 3) C dX12_answer_69 hl rfl (by decide) (fun x8 ex8 ls hl => ?_)
      have hw := hw x8 ex8
      have rx8 : rg x8 := by rw [ex8]; exact g9
      have hl : lv_has ls 4 [(3, .int (w3 x8)), (0, .ref (B + 0)), (1, .int (w3 u1)), (2, .int (w3 u2))] := hl
      refine hq_goto (tgt := 44) C dX12_answer_72 (by decide) ?_
      exact ih x8 rx8 _ _ _ _ hw hs (lv_sub hl [1, 2, 3, 0] rfl)
set_option maxHeartbeats 4000000 in
set_option maxRecDepth 100000 in
theorem cb_X12_answer_38 {p : Program} {l : Launch} {e : Env} {s : State} {m : MethodId} {args : Array Value} {below : List Frame} {meth : Method} {c : Code} {D : va_G} {cA : Nat → ClassId} {B : Nat} {Z : State → Prop} (v1 : Int) (rv1 : rg v1) (v2 : Int) (rv2 : rg v2) (t1 : Int) (rt1 : rg t1) (t2 : Int) (rt2 : rg t2)  {k : hq_M → Prop} {M : hq_M} {H : Heap} {locs : List Loc} {ls : Array Slot} (C : hq_C vwCl p m c cX12_answer 4 s args wsX12_answer RX12 meth none D cA (hq_in B YM.length) Z)
    (hw : b_X12_answer_38 v1 v2 t1 t2 k M) (hs : hq_S vwCl SLx D cA YM B s.heap M H locs) (hl : lv_has ls 4 [(0, .ref (B + 0)), (1, .int (w3 v1)), (2, .int (w3 v2))])
     : W p l e ({ frames := 2, cells := 0, slots := 0, locals := 46 } : Room) s m args below meth c H locs 0 0 (MQ below (hq_Q vwCl SLx D cA YM B (hq_qv k)) args s 0 0 (hq_in B YM.length)) (F0 m 38 ls [.int (w3 t2), .int (w3 t1), .ref (B + 0)]) := by
  have hx := C.1.1
  have hb := C.1.2.1
  unfold b_X12_answer_38 at hw
  refine lv_iload_n hx hb dX12_answer_38 rfl (lv_at hl 2 rfl) ?_
  refine hq_cV (n := 3) (ci := 12) (o := 0) (qc := (TX12, 57)) C hs (c_X12_laysNumber l C.2.2.2.2.1 t1 rt1 t2 rt2 v2 rv2 _ _ hw) gX12_answer_X12_laysNumber rfl ⟨rfl, rfl⟩ (by decide +kernel) ⟨Nat.le_of_ble_eq_true rfl, Nat.le_of_ble_eq_true rfl⟩ tkM_0 (by decide) rfl rfl hl.1 rfl (Nat.le_of_ble_eq_true rfl) dX12_answer_39 (hq_kv (fun M1 H locs hw hs => ?_))
  refine hq_iconst C dX12_answer_42 ?_
  refine lv_istore_n (lv' := [(3, .int (w3 0)), (0, .ref (B + 0)), (1, .int (w3 v1)), (2, .int (w3 v2))]) hx hb dX12_answer_43 rfl hl (by decide) rfl (fun ls hl => ?_)
  obtain ⟨n9, hw⟩ := hw
  refine cl_X12_answer_44 v1 v2 C ?_ n9 0 (by decide : rg 0) _ _ _ _ hw hs (lv_sub hl [1, 2, 3, 0] rfl)
  · intro M2 H locs ls hw hs hl
    refine lv_aload_n hx hb dX12_answer_75 rfl (lv_at hl 0 rfl) ?_
    refine lv_dup hx hb dX12_answer_76 rfl ?_
    refine hq_getI (o := 0) C hs fX12_answer_361 tkM_0 (by decide) rfl dX12_answer_77 (fun g3 => ?_)
    refine lv_aload_n hx hb dX12_answer_80 rfl (lv_at hl 0 rfl) ?_
    refine hq_getI (o := 0) C hs fX12_answer_267 tkM_0 (by decide) rfl dX12_answer_81 (fun g4 => ?_)
    obtain ⟨g5, hw⟩ := hw
    refine hq_iadd C dX12_answer_84 ?_
    refine hq_putI (o := 0) C hs fX12_answer_361 tkM_0 (by decide) rfl g5 dX12_answer_85 (fun M6 eM6 H locs hs => ?_)
    have hw := hw M6 eM6
    refine lv_aload_n hx hb dX12_answer_88 rfl (lv_at hl 0 rfl) ?_
    refine hq_getA (o := 0) C hs fX12_answer_108 tkM_0 (by decide) rfl dX12_answer_89 ?_
    refine lv_aload_n hx hb dX12_answer_92 rfl (lv_at hl 0 rfl) ?_
    refine hq_getI (o := 0) C hs fX12_answer_364 tkM_0 (by decide) rfl dX12_answer_93 (fun g7 => ?_)
    refine lv_iload_n hx hb dX12_answer_96 rfl (lv_at hl 1 rfl) ?_
    obtain ⟨g8, hw⟩ := hw
    refine hq_iast (o := 31) C hs tkM_31 g7 g8 rv1 dX12_answer_97 (fun M9 eM9 H locs hs => ?_)
    have hw := hw M9 eM9
    refine lv_aload_n hx hb dX12_answer_98 rfl (lv_at hl 0 rfl) ?_
    refine hq_getA (o := 0) C hs fX12_answer_111 tkM_0 (by decide) rfl dX12_answer_99 ?_
    refine lv_aload_n hx hb dX12_answer_102 rfl (lv_at hl 0 rfl) ?_
    refine hq_getI (o := 0) C hs fX12_answer_364 tkM_0 (by decide) rfl dX12_answer_103 (fun g10 => ?_)
    refine lv_iload_n hx hb dX12_answer_106 rfl (lv_at hl 2 rfl) ?_
    obtain ⟨g11, hw⟩ := hw
    refine hq_iast (o := 32) C hs tkM_32 g10 g11 rv2 dX12_answer_107 (fun M12 eM12 H locs hs => ?_)
    have hw := hw M12 eM12
    refine lv_aload_n hx hb dX12_answer_108 rfl (lv_at hl 0 rfl) ?_
    refine hq_getA (o := 0) C hs fX12_answer_114 tkM_0 (by decide) rfl dX12_answer_109 ?_
    refine lv_aload_n hx hb dX12_answer_112 rfl (lv_at hl 0 rfl) ?_
    refine hq_getI (o := 0) C hs fX12_answer_364 tkM_0 (by decide) rfl dX12_answer_113 (fun g13 => ?_)
    refine lv_aload_n hx hb dX12_answer_116 rfl (lv_at hl 0 rfl) ?_
    refine hq_getI (o := 0) C hs fX12_answer_267 tkM_0 (by decide) rfl dX12_answer_117 (fun g14 => ?_)
    obtain ⟨g15, hw⟩ := hw
    refine hq_iast (o := 33) C hs tkM_33 g13 g15 g14 dX12_answer_120 (fun M16 eM16 H locs hs => ?_)
    have hw := hw M16 eM16
    refine lv_aload_n hx hb dX12_answer_121 rfl (lv_at hl 0 rfl) ?_
    refine lv_dup hx hb dX12_answer_122 rfl ?_
    refine hq_getI (o := 0) C hs fX12_answer_364 tkM_0 (by decide) rfl dX12_answer_123 (fun g17 => ?_)
    refine hq_iconst C dX12_answer_126 ?_
    obtain ⟨g18, hw⟩ := hw
    refine hq_iadd C dX12_answer_127 ?_
    refine hq_putI (o := 0) C hs fX12_answer_364 tkM_0 (by decide) rfl g18 dX12_answer_128 (fun M19 eM19 H locs hs => ?_)
    have hw := hw M19 eM19
    exact hq_vret C hs hw dX12_answer_131
set_option maxHeartbeats 4000000 in
set_option maxRecDepth 100000 in
theorem cb_X12_answer_27 {p : Program} {l : Launch} {e : Env} {s : State} {m : MethodId} {args : Array Value} {below : List Frame} {meth : Method} {c : Code} {D : va_G} {cA : Nat → ClassId} {B : Nat} {Z : State → Prop} (v1 : Int) (rv1 : rg v1) (v2 : Int) (rv2 : rg v2) (t1 : Int) (rt1 : rg t1)  {k : hq_M → Prop} {M : hq_M} {H : Heap} {locs : List Loc} {ls : Array Slot} (C : hq_C vwCl p m c cX12_answer 4 s args wsX12_answer RX12 meth none D cA (hq_in B YM.length) Z)
    (hw : b_X12_answer_27 v1 v2 t1 k M) (hs : hq_S vwCl SLx D cA YM B s.heap M H locs) (hl : lv_has ls 4 [(0, .ref (B + 0)), (1, .int (w3 v1)), (2, .int (w3 v2))])
     : W p l e ({ frames := 2, cells := 0, slots := 0, locals := 46 } : Room) s m args below meth c H locs 0 0 (MQ below (hq_Q vwCl SLx D cA YM B (hq_qv k)) args s 0 0 (hq_in B YM.length)) (F0 m 27 ls [.int (w3 t1), .ref (B + 0)]) := by
  have hx := C.1.1
  have hb := C.1.2.1
  unfold b_X12_answer_27 at hw
  refine lv_iload_n hx hb dX12_answer_27 rfl (lv_at hl 1 rfl) ?_
  refine hq_if_ne (tgt := 36) C rv1 dX12_answer_28 (by decide) (fun h => ?_) (fun h => ?_)
  · have hw := hw.1 h
    refine hq_bipush C dX12_answer_36 (by decide) ?_
    refine cb_X12_answer_38 v1 rv1 v2 rv2 t1 rt1 6 (by decide : rg 6) C hw hs (lv_sub hl [0, 1, 2] rfl) 
  · have hw := hw.2 h
    refine hq_bipush C dX12_answer_31 (by decide) ?_
    refine hq_goto (tgt := 38) C dX12_answer_33 (by decide) ?_
    refine cb_X12_answer_38 v1 rv1 v2 rv2 t1 rt1 7 (by decide : rg 7) C hw hs (lv_sub hl [0, 1, 2] rfl) 
set_option maxHeartbeats 4000000 in
set_option maxRecDepth 100000 in
theorem c_X12_answer (l : Launch) {D : va_G} {cA : Nat → ClassId} {B : Nat} {Z : State → Prop} (hZ : hq_Zo Z (hq_in B YM.length)) (v1 : Int) (rv1 : rg v1) (v2 : Int) (rv2 : rg v2) (M : hq_M) (k : hq_M → Prop) (hw : w_X12_answer v1 v2 M k) : hq_T vwCl SLx l yX12_answer wsX12_answer ({ frames := 2, cells := 0, slots := 0, locals := 46 } : Room) D cA YM B Z [.ref (B + 0), .int (w3 v1), .int (w3 v2)] M (hq_qv k) := by
  refine hq_meth (cc := cX12_answer) (maxL := 4) (ret := none) (own := RX12) hZ rfl (by decide +kernel) rfl (Nat.le_of_ble_eq_true rfl) ?_
  intro p e s m below meth c ls C hs hl
  have hx := C.1.1
  have hb := C.1.2.1
  unfold w_X12_answer at hw
  have hl : lv_has ls 4 [(0, .ref (B + 0)), (1, .int (w3 v1)), (2, .int (w3 v2))] := hl
  refine lv_aload_n hx hb dX12_answer_0 rfl (lv_at hl 0 rfl) ?_
  refine hq_iconst C dX12_answer_1 ?_
  refine hq_putI (o := 0) C hs fX12_answer_267 tkM_0 (by decide) rfl (by decide : rg 0) dX12_answer_2 (fun M1 eM1 H locs hs => ?_)
  have hw := hw M1 eM1
  refine lv_aload_n hx hb dX12_answer_5 rfl (lv_at hl 0 rfl) ?_
  refine lv_iload_n hx hb dX12_answer_6 rfl (lv_at hl 1 rfl) ?_
  refine hq_if_ne (tgt := 16) C rv1 dX12_answer_7 (by decide) (fun h => ?_) (fun h => ?_)
  · have hw := hw.1 h
    refine lv_iload_n hx hb dX12_answer_16 rfl (lv_at hl 1 rfl) ?_
    refine hq_iconst C dX12_answer_17 ?_
    refine hq_icmp_ne (tgt := 26) C rv1 (by decide : rg 1) dX12_answer_18 (by decide) (fun h => ?_) (fun h => ?_)
    · have hw := hw.1 h
      refine hq_iconst C dX12_answer_26 ?_
      refine cb_X12_answer_27 v1 rv1 v2 rv2 0 (by decide : rg 0) C hw hs (lv_sub hl [0, 1, 2] rfl) 
    · have hw := hw.2 h
      refine hq_bipush C dX12_answer_21 (by decide) ?_
      refine hq_goto (tgt := 27) C dX12_answer_23 (by decide) ?_
      refine cb_X12_answer_27 v1 rv1 v2 rv2 64 (by decide : rg 64) C hw hs (lv_sub hl [0, 1, 2] rfl) 
  · have hw := hw.2 h
    refine hq_sipush C dX12_answer_10 (by decide) ?_
    refine hq_goto (tgt := 27) C dX12_answer_13 (by decide) ?_
    refine cb_X12_answer_27 v1 rv1 v2 rv2 128 (by decide : rg 128) C hw hs (lv_sub hl [0, 1, 2] rfl) 
theorem iX12_becomesRead_12 : ∀ w ∈ u_ws RX12 TX12 57, w ∈ wsX12_becomesRead := fun w h => List.mem_cons_of_mem _ (List.mem_append_right _ h)
set_option maxRecDepth 20000 in
theorem fX12_becomesRead_47 : hq_fl vwCl wsX12_becomesRead RX12 47 12 26 true (.array .int) := ⟨RX12, TX12, 57, tyX12, rfl, by decide, iX12_becomesRead_12, by decide +kernel, rfl, tyX12_ok 26 (by decide), tyX12_ok, nmX12⟩
set_option maxRecDepth 20000 in
theorem fX12_becomesRead_59 : hq_fl vwCl wsX12_becomesRead RX12 59 12 30 true (.array .int) := ⟨RX12, TX12, 57, tyX12, rfl, by decide, iX12_becomesRead_12, by decide +kernel, rfl, tyX12_ok 30 (by decide), tyX12_ok, nmX12⟩
set_option maxRecDepth 20000 in
theorem fX12_becomesRead_370 : hq_fl vwCl wsX12_becomesRead RX12 370 12 24 false .int := ⟨RX12, TX12, 57, tyX12, rfl, by decide, iX12_becomesRead_12, by decide +kernel, rfl, tyX12_ok 24 (by decide), tyX12_ok, nmX12⟩
set_option maxHeartbeats 4000000 in
set_option maxRecDepth 100000 in
theorem c_X12_becomesRead (l : Launch) {D : va_G} {cA : Nat → ClassId} {B : Nat} {Z : State → Prop} (hZ : hq_Zo Z (hq_in B YM.length)) (v1 : Int) (rv1 : rg v1) (M : hq_M) (k : hq_M → Prop) (hw : w_X12_becomesRead v1 M k) : hq_T vwCl SLx l yX12_becomesRead wsX12_becomesRead ({ frames := 3, cells := 0, slots := 0, locals := 69 } : Room) D cA YM B Z [.ref (B + 0), .int (w3 v1)] M (hq_qv k) := by
  refine hq_meth (cc := cX12_becomesRead) (maxL := 2) (ret := none) (own := RX12) hZ rfl (by decide +kernel) rfl (Nat.le_of_ble_eq_true rfl) ?_
  intro p e s m below meth c ls C hs hl
  have hx := C.1.1
  have hb := C.1.2.1
  unfold w_X12_becomesRead at hw
  have hl : lv_has ls 2 [(0, .ref (B + 0)), (1, .int (w3 v1))] := hl
  refine lv_aload_n hx hb dX12_becomesRead_0 rfl (lv_at hl 0 rfl) ?_
  refine hq_getA (o := 0) C hs fX12_becomesRead_59 tkM_0 (by decide) rfl dX12_becomesRead_1 ?_
  refine lv_iload_n hx hb dX12_becomesRead_4 rfl (lv_at hl 1 rfl) ?_
  refine hq_iconst C dX12_becomesRead_5 ?_
  obtain ⟨g1, hw⟩ := hw
  refine hq_iast (o := 15) C hs tkM_15 rv1 g1 (by decide : rg 2) dX12_becomesRead_6 (fun M2 eM2 H locs hs => ?_)
  have hw := hw M2 eM2
  refine lv_aload_n hx hb dX12_becomesRead_7 rfl (lv_at hl 0 rfl) ?_
  refine hq_getA (o := 0) C hs fX12_becomesRead_47 tkM_0 (by decide) rfl dX12_becomesRead_8 ?_
  refine lv_iload_n hx hb dX12_becomesRead_11 rfl (lv_at hl 1 rfl) ?_
  obtain ⟨g3, hw⟩ := hw
  refine hq_iald (o := 11) C hs tkM_11 rv1 g3 dX12_becomesRead_12 (fun g4 => ?_)
  refine hq_if_le (tgt := 39) C g4 dX12_becomesRead_13 (by decide) (fun h => ?_) (fun h => ?_)
  · have hw := hw.1 h
    exact hq_vret C hs hw dX12_becomesRead_39
  · have hw := hw.2 h
    refine lv_aload_n hx hb dX12_becomesRead_16 rfl (lv_at hl 0 rfl) ?_
    refine hq_iconst C dX12_becomesRead_17 ?_
    refine lv_iload_n hx hb dX12_becomesRead_18 rfl (lv_at hl 1 rfl) ?_
    refine hq_cV (n := 2) (ci := 12) (o := 0) (qc := (TX12, 57)) C hs (c_X12_answer l C.2.2.2.2.1 0 (by decide : rg 0) v1 rv1 _ _ hw) gX12_becomesRead_X12_answer rfl ⟨rfl, rfl⟩ (by decide +kernel) ⟨Nat.le_of_ble_eq_true rfl, Nat.le_of_ble_eq_true rfl⟩ tkM_0 (by decide) rfl rfl hl.1 rfl (Nat.le_of_ble_eq_true rfl) dX12_becomesRead_19 (hq_kv (fun M5 H locs hw hs => ?_))
    refine lv_aload_n hx hb dX12_becomesRead_22 rfl (lv_at hl 0 rfl) ?_
    refine lv_aload_n hx hb dX12_becomesRead_23 rfl (lv_at hl 0 rfl) ?_
    refine hq_getI (o := 0) C hs fX12_becomesRead_370 tkM_0 (by decide) rfl dX12_becomesRead_24 (fun g6 => ?_)
    refine lv_aload_n hx hb dX12_becomesRead_27 rfl (lv_at hl 0 rfl) ?_
    refine hq_getA (o := 0) C hs fX12_becomesRead_47 tkM_0 (by decide) rfl dX12_becomesRead_28 ?_
    refine lv_iload_n hx hb dX12_becomesRead_31 rfl (lv_at hl 1 rfl) ?_
    obtain ⟨g7, hw⟩ := hw
    refine hq_iald (o := 11) C hs tkM_11 rv1 g7 dX12_becomesRead_32 (fun g8 => ?_)
    refine hq_cS (n := 2) C hs (c_X12_greater l C.2.2.2.2.1 (M5 0 24) g6 (M5 11 v1.toNat) g8 _ _ hw) gX12_becomesRead_X12_greater rfl ⟨rfl, rfl⟩ (by decide +kernel) ⟨Nat.le_of_ble_eq_true rfl, Nat.le_of_ble_eq_true rfl⟩ rfl hl.1 rfl (Nat.le_of_ble_eq_true rfl) dX12_becomesRead_33 (hq_ki (fun x9 M9 H locs rx9 hw hs => ?_))
    obtain ⟨e9, hw⟩ := hw; rw [e9] at hs
    refine hq_putI (o := 0) C hs fX12_becomesRead_370 tkM_0 (by decide) rfl rx9 dX12_becomesRead_36 (fun M10 eM10 H locs hs => ?_)
    have hw := hw M10 eM10
    exact hq_vret C hs hw dX12_becomesRead_39
theorem iX12_waiting_12 : ∀ w ∈ u_ws RX12 TX12 57, w ∈ wsX12_waiting := fun w h => List.mem_cons_of_mem _ (List.mem_append_right _ h)
set_option maxRecDepth 20000 in
theorem fX12_waiting_32 : hq_fl vwCl wsX12_waiting RX12 32 12 18 true (.array .int) := ⟨RX12, TX12, 57, tyX12, rfl, by decide, iX12_waiting_12, by decide +kernel, rfl, tyX12_ok 18 (by decide), tyX12_ok, nmX12⟩
set_option maxRecDepth 20000 in
theorem fX12_waiting_47 : hq_fl vwCl wsX12_waiting RX12 47 12 26 true (.array .int) := ⟨RX12, TX12, 57, tyX12, rfl, by decide, iX12_waiting_12, by decide +kernel, rfl, tyX12_ok 26 (by decide), tyX12_ok, nmX12⟩
set_option maxRecDepth 20000 in
theorem fX12_waiting_59 : hq_fl vwCl wsX12_waiting RX12 59 12 30 true (.array .int) := ⟨RX12, TX12, 57, tyX12, rfl, by decide, iX12_waiting_12, by decide +kernel, rfl, tyX12_ok 30 (by decide), tyX12_ok, nmX12⟩
set_option maxRecDepth 20000 in
theorem fX12_waiting_252 : hq_fl vwCl wsX12_waiting RX12 252 12 25 false .int := ⟨RX12, TX12, 57, tyX12, rfl, by decide, iX12_waiting_12, by decide +kernel, rfl, tyX12_ok 25 (by decide), tyX12_ok, nmX12⟩
set_option maxHeartbeats 4000000 in
set_option maxRecDepth 100000 in
theorem cb_X12_waiting_58 {p : Program} {l : Launch} {e : Env} {s : State} {m : MethodId} {args : Array Value} {below : List Frame} {meth : Method} {c : Code} {D : va_G} {cA : Nat → ClassId} {B : Nat} {Z : State → Prop} (v2 : Int) (rv2 : rg v2) (v3 : Int) (rv3 : rg v3) (v4 : Int) (rv4 : rg v4) {k_17 : Int → Int → Prop} {k : Int → Prop} {M : hq_M} {H : Heap} {locs : List Loc} {ls : Array Slot} (C : hq_C vwCl p m c cX12_waiting 5 s args wsX12_waiting RX12 meth (some .int) D cA (hq_in B YM.length) Z)
    (hw : b_X12_waiting_58 v2 v3 v4 k_17 k M) (hs : hq_S vwCl SLx D cA YM B s.heap M H locs) (hl : lv_has ls 5 [(0, .ref (B + 0)), (2, .int (w3 v2)), (3, .int (w3 v3)), (4, .int (w3 v4))])
    (hk_17 : ∀ (y2 : Int) (ry2 : rg y2) (y4 : Int) (ry4 : rg y4) (H : Heap) (locs : List Loc) (ls : Array Slot), k_17 y2 y4 → hq_S vwCl SLx D cA YM B s.heap M H locs → lv_has ls 5 [(0, .ref (B + 0)), (2, .int (w3 y2)), (3, .int (w3 v3)), (4, .int (w3 y4))] → W p l e ({ frames := 0, cells := 0, slots := 0, locals := 0 } : Room) s m args below meth c H locs 0 0 (MQ below (hq_Q vwCl SLx D cA YM B (hq_qi (fun z M' => M' = M ∧ k z))) args s 0 0 (hq_in B YM.length)) (F0 m 17 ls [])) : W p l e ({ frames := 0, cells := 0, slots := 0, locals := 0 } : Room) s m args below meth c H locs 0 0 (MQ below (hq_Q vwCl SLx D cA YM B (hq_qi (fun z M' => M' = M ∧ k z))) args s 0 0 (hq_in B YM.length)) (F0 m 58 ls []) := by
  have hx := C.1.1
  have hb := C.1.2.1
  unfold b_X12_waiting_58 at hw
  obtain ⟨g2, hw⟩ := hw
  refine hq_iinc (k := 3) C dX12_waiting_58 hl rfl (by decide) (fun x1 ex1 ls hl => ?_)
  have hw := hw x1 ex1
  have rx1 : rg x1 := by rw [ex1]; exact g2
  have hl : lv_has ls 5 [(4, .int (w3 x1)), (0, .ref (B + 0)), (2, .int (w3 v2)), (3, .int (w3 v3))] := hl
  refine hq_goto (tgt := 17) C dX12_waiting_61 (by decide) ?_
  exact hk_17 v2 rv2 x1 rx1 _ _ _ hw hs (lv_sub hl [1, 2, 3, 0] rfl)
set_option maxHeartbeats 4000000 in
set_option maxRecDepth 100000 in
theorem cl_X12_waiting_17 {p : Program} {l : Launch} {e : Env} {s : State} {m : MethodId} {args : Array Value} {below : List Frame} {meth : Method} {c : Code} {D : va_G} {cA : Nat → ClassId} {B : Nat} {Z : State → Prop} (v3 : Int) (rv3 : rg v3) {k_64 : Int → Prop} {k : Int → Prop} {M : hq_M} (C : hq_C vwCl p m c cX12_waiting 5 s args wsX12_waiting RX12 meth (some .int) D cA (hq_in B YM.length) Z)
    (hk_64 : ∀ (y2 : Int) (ry2 : rg y2) (H : Heap) (locs : List Loc) (ls : Array Slot), k_64 y2 → hq_S vwCl SLx D cA YM B s.heap M H locs → lv_has ls 5 [(0, .ref (B + 0)), (2, .int (w3 y2)), (3, .int (w3 v3))] → W p l e ({ frames := 0, cells := 0, slots := 0, locals := 0 } : Room) s m args below meth c H locs 0 0 (MQ below (hq_Q vwCl SLx D cA YM B (hq_qi (fun z M' => M' = M ∧ k z))) args s 0 0 (hq_in B YM.length)) (F0 m 64 ls [])) : ∀ (n : Nat) (v2 : Int) (rv2 : rg v2) (v4 : Int) (rv4 : rg v4) (H : Heap) (locs : List Loc) (ls : Array Slot), l_X12_waiting_17 v3 k_64 k M n v2 v4 → hq_S vwCl SLx D cA YM B s.heap M H locs → lv_has ls 5 [(0, .ref (B + 0)), (2, .int (w3 v2)), (3, .int (w3 v3)), (4, .int (w3 v4))] → W p l e ({ frames := 0, cells := 0, slots := 0, locals := 0 } : Room) s m args below meth c H locs 0 0 (MQ below (hq_Q vwCl SLx D cA YM B (hq_qi (fun z M' => M' = M ∧ k z))) args s 0 0 (hq_in B YM.length)) (F0 m 17 ls []) := by
  have hx := C.1.1
  have hb := C.1.2.1
  intro n
  induction n with
  | zero => intro v2 rv2 v4 rv4 H locs ls hw hs hl; exact hw.elim
  | succ n ih =>
    intro v2 rv2 v4 rv4 H locs ls hw hs hl
    unfold l_X12_waiting_17 at hw
    refine lv_iload hx hb dX12_waiting_17 (lv_at hl 3 rfl) ?_
    refine lv_aload_n hx hb dX12_waiting_19 rfl (lv_at hl 0 rfl) ?_
    refine hq_getI (o := 0) C hs fX12_waiting_252 tkM_0 (by decide) rfl dX12_waiting_20 (fun g1 => ?_)
    refine hq_icmp_ge (tgt := 64) C rv4 g1 dX12_waiting_23 (by decide) (fun h => ?_) (fun h => ?_)
    · have hw := hw.1 h
      exact hk_64 v2 rv2 _ _ _ hw hs (lv_sub hl [0, 1, 2] rfl)
    · have hw := hw.2 h
      refine lv_aload_n hx hb dX12_waiting_26 rfl (lv_at hl 0 rfl) ?_
      refine hq_getA (o := 0) C hs fX12_waiting_59 tkM_0 (by decide) rfl dX12_waiting_27 ?_
      refine lv_iload hx hb dX12_waiting_30 (lv_at hl 3 rfl) ?_
      obtain ⟨g2, hw⟩ := hw
      refine hq_iald (o := 15) C hs tkM_15 rv4 g2 dX12_waiting_32 (fun g3 => ?_)
      refine hq_iconst C dX12_waiting_33 ?_
      refine hq_icmp_ne (tgt := 58) C g3 (by decide : rg 1) dX12_waiting_34 (by decide) (fun h => ?_) (fun h => ?_)
      · have hw := hw.1 h
        refine cb_X12_waiting_58 v2 rv2 v3 rv3 v4 rv4 C hw hs (lv_sub hl [0, 1, 2, 3] rfl) ?_
        · intro y2 ry2 y4 ry4 H locs ls hw hs hl
          exact ih y2 ry2 y4 ry4 _ _ _ hw hs (lv_sub hl [0, 1, 2, 3] rfl)
      · have hw := hw.2 h
        refine lv_aload_n hx hb dX12_waiting_37 rfl (lv_at hl 0 rfl) ?_
        refine hq_getA (o := 0) C hs fX12_waiting_47 tkM_0 (by decide) rfl dX12_waiting_38 ?_
        refine lv_iload hx hb dX12_waiting_41 (lv_at hl 3 rfl) ?_
        obtain ⟨g4, hw⟩ := hw
        refine hq_iald (o := 11) C hs tkM_11 rv4 g4 dX12_waiting_43 (fun g5 => ?_)
        refine lv_iload_n hx hb dX12_waiting_44 rfl (lv_at hl 2 rfl) ?_
        refine hq_icmp_ne (tgt := 58) C g5 rv3 dX12_waiting_45 (by decide) (fun h => ?_) (fun h => ?_)
        · have hw := hw.1 h
          refine cb_X12_waiting_58 v2 rv2 v3 rv3 v4 rv4 C hw hs (lv_sub hl [0, 1, 2, 3] rfl) ?_
          · intro y2 ry2 y4 ry4 H locs ls hw hs hl
            exact ih y2 ry2 y4 ry4 _ _ _ hw hs (lv_sub hl [0, 1, 2, 3] rfl)
        · have hw := hw.2 h
          refine lv_iload_n hx hb dX12_waiting_48 rfl (lv_at hl 1 rfl) ?_
          refine hq_if_ne (tgt := 55) C rv2 dX12_waiting_49 (by decide) (fun h => ?_) (fun h => ?_)
          · have hw := hw.1 h
            obtain ⟨g7, hw⟩ := hw
            refine hq_iinc (k := 1) C dX12_waiting_55 hl rfl (by decide) (fun x6 ex6 ls hl => ?_)
            have hw := hw x6 ex6
            have rx6 : rg x6 := by rw [ex6]; exact g7
            have hl : lv_has ls 5 [(2, .int (w3 x6)), (0, .ref (B + 0)), (3, .int (w3 v3)), (4, .int (w3 v4))] := hl
            refine cb_X12_waiting_58 x6 rx6 v3 rv3 v4 rv4 C hw hs (lv_sub hl [1, 0, 2, 3] rfl) ?_
            · intro y2 ry2 y4 ry4 H locs ls hw hs hl
              exact ih y2 ry2 y4 ry4 _ _ _ hw hs (lv_sub hl [0, 1, 2, 3] rfl)
          · have hw := hw.2 h
            refine lv_iload hx hb dX12_waiting_52 (lv_at hl 3 rfl) ?_
            exact hq_iret C hs rv4 ⟨rfl, hw⟩ dX12_waiting_54
set_option maxHeartbeats 4000000 in
set_option maxRecDepth 100000 in
theorem cl_X12_waiting_4 {p : Program} {l : Launch} {e : Env} {s : State} {m : MethodId} {args : Array Value} {below : List Frame} {meth : Method} {c : Code} {D : va_G} {cA : Nat → ClassId} {B : Nat} {Z : State → Prop}   {k : Int → Prop} {M : hq_M} (C : hq_C vwCl p m c cX12_waiting 5 s args wsX12_waiting RX12 meth (some .int) D cA (hq_in B YM.length) Z)
     : ∀ (n : Nat) (v2 : Int) (rv2 : rg v2) (v3 : Int) (rv3 : rg v3) (H : Heap) (locs : List Loc) (ls : Array Slot), l_X12_waiting_4 k M n v2 v3 → hq_S vwCl SLx D cA YM B s.heap M H locs → lv_has ls 5 [(0, .ref (B + 0)), (2, .int (w3 v2)), (3, .int (w3 v3))] → W p l e ({ frames := 0, cells := 0, slots := 0, locals := 0 } : Room) s m args below meth c H locs 0 0 (MQ below (hq_Q vwCl SLx D cA YM B (hq_qi (fun z M' => M' = M ∧ k z))) args s 0 0 (hq_in B YM.length)) (F0 m 4 ls []) := by
  have hx := C.1.1
  have hb := C.1.2.1
  intro n
  induction n with
  | zero => intro v2 rv2 v3 rv3 H locs ls hw hs hl; exact hw.elim
  | succ n ih =>
    intro v2 rv2 v3 rv3 H locs ls hw hs hl
    unfold l_X12_waiting_4 at hw
    refine lv_iload_n hx hb dX12_waiting_4 rfl (lv_at hl 2 rfl) ?_
    refine lv_aload_n hx hb dX12_waiting_5 rfl (lv_at hl 0 rfl) ?_
    refine hq_getA (o := 0) C hs fX12_waiting_32 tkM_0 (by decide) rfl dX12_waiting_6 ?_
    refine hq_iconst C dX12_waiting_9 ?_
    obtain ⟨g1, hw⟩ := hw
    refine hq_iald (o := 6) C hs tkM_6 (by decide : rg 0) g1 dX12_waiting_10 (fun g2 => ?_)
    refine hq_icmp_gt (tgt := 70) C rv3 g2 dX12_waiting_11 (by decide) (fun h => ?_) (fun h => ?_)
    · have hw := hw.1 h
      refine hq_bipush C dX12_waiting_70 (by decide) ?_
      exact hq_iret C hs (by decide : rg (-9)) ⟨rfl, hw⟩ dX12_waiting_72
    · have hw := hw.2 h
      refine hq_iconst C dX12_waiting_14 ?_
      refine lv_istore (lv' := [(4, .int (w3 0)), (0, .ref (B + 0)), (2, .int (w3 v2)), (3, .int (w3 v3))]) hx hb dX12_waiting_15 hl (by decide) rfl (fun ls hl => ?_)
      obtain ⟨n9, hw⟩ := hw
      refine cl_X12_waiting_17 v3 rv3 C ?_ n9 v2 rv2 0 (by decide : rg 0) _ _ _ hw hs (lv_sub hl [1, 2, 3, 0] rfl)
      · intro x3 rx3 H locs ls hw hs hl
        obtain ⟨g5, hw⟩ := hw
        refine hq_iinc (k := 2) C dX12_waiting_64 hl rfl (by decide) (fun x4 ex4 ls hl => ?_)
        have hw := hw x4 ex4
        have rx4 : rg x4 := by rw [ex4]; exact g5
        have hl : lv_has ls 5 [(3, .int (w3 x4)), (0, .ref (B + 0)), (2, .int (w3 x3))] := hl
        refine hq_goto (tgt := 4) C dX12_waiting_67 (by decide) ?_
        exact ih x3 rx3 x4 rx4 _ _ _ hw hs (lv_sub hl [1, 2, 0] rfl)
set_option maxHeartbeats 4000000 in
set_option maxRecDepth 100000 in
theorem c_X12_waiting (l : Launch) {D : va_G} {cA : Nat → ClassId} {B : Nat} {Z : State → Prop} (hZ : hq_Zo Z (hq_in B YM.length)) (v1 : Int) (rv1 : rg v1) (M : hq_M) (k : Int → Prop) (hw : w_X12_waiting v1 M k) : hq_T vwCl SLx l yX12_waiting wsX12_waiting ({ frames := 0, cells := 0, slots := 0, locals := 0 } : Room) D cA YM B Z [.ref (B + 0), .int (w3 v1)] M (hq_qi (fun z M' => M' = M ∧ k z)) := by
  refine hq_meth (cc := cX12_waiting) (maxL := 5) (ret := (some .int)) (own := RX12) hZ rfl (by decide +kernel) rfl (Nat.le_of_ble_eq_true rfl) ?_
  intro p e s m below meth c ls C hs hl
  have hx := C.1.1
  have hb := C.1.2.1
  unfold w_X12_waiting at hw
  have hl : lv_has ls 5 [(0, .ref (B + 0)), (1, .int (w3 v1))] := hl
  refine lv_iload_n hx hb dX12_waiting_0 rfl (lv_at hl 1 rfl) ?_
  refine lv_istore_n (lv' := [(2, .int (w3 v1)), (0, .ref (B + 0)), (1, .int (w3 v1))]) hx hb dX12_waiting_1 rfl hl (by decide) rfl (fun ls hl => ?_)
  refine hq_iconst C dX12_waiting_2 ?_
  refine lv_istore_n (lv' := [(3, .int (w3 0)), (2, .int (w3 v1)), (0, .ref (B + 0)), (1, .int (w3 v1))]) hx hb dX12_waiting_3 rfl hl (by decide) rfl (fun ls hl => ?_)
  obtain ⟨n9, hw⟩ := hw
  refine cl_X12_waiting_4  C  n9 v1 rv1 0 (by decide : rg 0) _ _ _ hw hs (lv_sub hl [2, 1, 0] rfl)
theorem iX12_readsAll_12 : ∀ w ∈ u_ws RX12 TX12 57, w ∈ wsX12_readsAll := fun w h => List.mem_cons_of_mem _ (List.mem_append_right _ h)
set_option maxRecDepth 20000 in
theorem fX12_readsAll_32 : hq_fl vwCl wsX12_readsAll RX12 32 12 18 true (.array .int) := ⟨RX12, TX12, 57, tyX12, rfl, by decide, iX12_readsAll_12, by decide +kernel, rfl, tyX12_ok 18 (by decide), tyX12_ok, nmX12⟩
set_option maxRecDepth 20000 in
theorem fX12_readsAll_47 : hq_fl vwCl wsX12_readsAll RX12 47 12 26 true (.array .int) := ⟨RX12, TX12, 57, tyX12, rfl, by decide, iX12_readsAll_12, by decide +kernel, rfl, tyX12_ok 26 (by decide), tyX12_ok, nmX12⟩
set_option maxHeartbeats 4000000 in
set_option maxRecDepth 100000 in
theorem cl_X12_readsAll_6 {p : Program} {l : Launch} {e : Env} {s : State} {m : MethodId} {args : Array Value} {below : List Frame} {meth : Method} {c : Code} {D : va_G} {cA : Nat → ClassId} {B : Nat} {Z : State → Prop}   {k : hq_M → Prop} (C : hq_C vwCl p m c cX12_readsAll 2 s args wsX12_readsAll RX12 meth none D cA (hq_in B YM.length) Z)
     : ∀ (n : Nat) (v1 : Int) (rv1 : rg v1) (M : hq_M) (H : Heap) (locs : List Loc) (ls : Array Slot), l_X12_readsAll_6 k n v1 M → hq_S vwCl SLx D cA YM B s.heap M H locs → lv_has ls 2 [(0, .ref (B + 0)), (1, .int (w3 v1))] → W p l e ({ frames := 4, cells := 0, slots := 0, locals := 90 } : Room) s m args below meth c H locs 0 0 (MQ below (hq_Q vwCl SLx D cA YM B (hq_qv k)) args s 0 0 (hq_in B YM.length)) (F0 m 6 ls []) := by
  have hx := C.1.1
  have hb := C.1.2.1
  intro n
  induction n with
  | zero => intro v1 rv1 M H locs ls hw hs hl; exact hw.elim
  | succ n ih =>
    intro v1 rv1 M H locs ls hw hs hl
    unfold l_X12_readsAll_6 at hw
    refine lv_iload_n hx hb dX12_readsAll_6 rfl (lv_at hl 1 rfl) ?_
    refine hq_bipush C dX12_readsAll_7 (by decide) ?_
    refine hq_icmp_eq (tgt := 41) C rv1 (by decide : rg (-9)) dX12_readsAll_9 (by decide) (fun h => ?_) (fun h => ?_)
    · have hw := hw.1 h
      exact hq_vret C hs hw dX12_readsAll_41
    · have hw := hw.2 h
      refine lv_aload_n hx hb dX12_readsAll_12 rfl (lv_at hl 0 rfl) ?_
      refine hq_getA (o := 0) C hs fX12_readsAll_47 tkM_0 (by decide) rfl dX12_readsAll_13 ?_
      refine lv_iload_n hx hb dX12_readsAll_16 rfl (lv_at hl 1 rfl) ?_
      obtain ⟨g1, hw⟩ := hw
      refine hq_iald (o := 11) C hs tkM_11 rv1 g1 dX12_readsAll_17 (fun g2 => ?_)
      refine lv_aload_n hx hb dX12_readsAll_18 rfl (lv_at hl 0 rfl) ?_
      refine hq_getA (o := 0) C hs fX12_readsAll_32 tkM_0 (by decide) rfl dX12_readsAll_19 ?_
      refine hq_iconst C dX12_readsAll_22 ?_
      obtain ⟨g3, hw⟩ := hw
      refine hq_iald (o := 6) C hs tkM_6 (by decide : rg 1) g3 dX12_readsAll_23 (fun g4 => ?_)
      refine hq_icmp_gt (tgt := 41) C g2 g4 dX12_readsAll_24 (by decide) (fun h => ?_) (fun h => ?_)
      · have hw := hw.1 h
        exact hq_vret C hs hw dX12_readsAll_41
      · have hw := hw.2 h
        refine lv_aload_n hx hb dX12_readsAll_27 rfl (lv_at hl 0 rfl) ?_
        refine lv_iload_n hx hb dX12_readsAll_28 rfl (lv_at hl 1 rfl) ?_
        refine hq_cV (n := 1) (ci := 12) (o := 0) (qc := (TX12, 57)) C hs (c_X12_becomesRead l C.2.2.2.2.1 v1 rv1 _ _ hw) gX12_readsAll_X12_becomesRead rfl ⟨rfl, rfl⟩ (by decide +kernel) ⟨Nat.le_of_ble_eq_true rfl, Nat.le_of_ble_eq_true rfl⟩ tkM_0 (by decide) rfl rfl hl.1 rfl (Nat.le_of_ble_eq_true rfl) dX12_readsAll_29 (hq_kv (fun M5 H locs hw hs => ?_))
        refine lv_aload_n hx hb dX12_readsAll_32 rfl (lv_at hl 0 rfl) ?_
        refine hq_iconst C dX12_readsAll_33 ?_
        refine hq_cV (n := 1) (ci := 12) (o := 0) (qc := (TX12, 57)) C hs (c_X12_waiting l C.2.2.2.2.1 0 (by decide : rg 0) _ _ hw) gX12_readsAll_X12_waiting rfl ⟨rfl, rfl⟩ (by decide +kernel) ⟨Nat.le_of_ble_eq_true rfl, Nat.le_of_ble_eq_true rfl⟩ tkM_0 (by decide) rfl rfl hl.1 rfl (Nat.le_of_ble_eq_true rfl) dX12_readsAll_34 (hq_ki (fun x6 M9 H locs rx6 hw hs => ?_))
        obtain ⟨e9, hw⟩ := hw; rw [e9] at hs
        refine lv_istore_n (lv' := [(1, .int (w3 x6)), (0, .ref (B + 0))]) hx hb dX12_readsAll_37 rfl hl (by decide) rfl (fun ls hl => ?_)
        refine hq_goto (tgt := 6) C dX12_readsAll_38 (by decide) ?_
        exact ih x6 rx6 _ _ _ _ hw hs (lv_sub hl [1, 0] rfl)
set_option maxHeartbeats 4000000 in
set_option maxRecDepth 100000 in
theorem c_X12_readsAll (l : Launch) {D : va_G} {cA : Nat → ClassId} {B : Nat} {Z : State → Prop} (hZ : hq_Zo Z (hq_in B YM.length))  (M : hq_M) (k : hq_M → Prop) (hw : w_X12_readsAll  M k) : hq_T vwCl SLx l yX12_readsAll wsX12_readsAll ({ frames := 4, cells := 0, slots := 0, locals := 90 } : Room) D cA YM B Z [.ref (B + 0)] M (hq_qv k) := by
  refine hq_meth (cc := cX12_readsAll) (maxL := 2) (ret := none) (own := RX12) hZ rfl (by decide +kernel) rfl (Nat.le_of_ble_eq_true rfl) ?_
  intro p e s m below meth c ls C hs hl
  have hx := C.1.1
  have hb := C.1.2.1
  unfold w_X12_readsAll at hw
  have hl : lv_has ls 2 [(0, .ref (B + 0))] := hl
  refine lv_aload_n hx hb dX12_readsAll_0 rfl (lv_at hl 0 rfl) ?_
  refine hq_iconst C dX12_readsAll_1 ?_
  refine hq_cV (n := 1) (ci := 12) (o := 0) (qc := (TX12, 57)) C hs (c_X12_waiting l C.2.2.2.2.1 0 (by decide : rg 0) _ _ hw) gX12_readsAll_X12_waiting rfl ⟨rfl, rfl⟩ (by decide +kernel) ⟨Nat.le_of_ble_eq_true rfl, Nat.le_of_ble_eq_true rfl⟩ tkM_0 (by decide) rfl rfl hl.1 rfl (Nat.le_of_ble_eq_true rfl) dX12_readsAll_2 (hq_ki (fun x1 M9 H locs rx1 hw hs => ?_))
  obtain ⟨e9, hw⟩ := hw; rw [e9] at hs
  refine lv_istore_n (lv' := [(1, .int (w3 x1)), (0, .ref (B + 0))]) hx hb dX12_readsAll_5 rfl hl (by decide) rfl (fun ls hl => ?_)
  obtain ⟨n9, hw⟩ := hw
  refine cl_X12_readsAll_6  C  n9 x1 rx1 _ _ _ _ hw hs (lv_sub hl [1, 0] rfl)
theorem iX12_does_12 : ∀ w ∈ u_ws RX12 TX12 57, w ∈ wsX12_does := fun w h => List.mem_cons_of_mem _ (List.mem_append_right _ h)
set_option maxRecDepth 20000 in
theorem fX12_does_38 : hq_fl vwCl wsX12_does RX12 38 12 20 true (.array .int) := ⟨RX12, TX12, 57, tyX12, rfl, by decide, iX12_does_12, by decide +kernel, rfl, tyX12_ok 20 (by decide), tyX12_ok, nmX12⟩
set_option maxRecDepth 20000 in
theorem fX12_does_90 : hq_fl vwCl wsX12_does RX12 90 12 44 true (.array .int) := ⟨RX12, TX12, 57, tyX12, rfl, by decide, iX12_does_12, by decide +kernel, rfl, tyX12_ok 44 (by decide), tyX12_ok, nmX12⟩
set_option maxRecDepth 20000 in
theorem fX12_does_93 : hq_fl vwCl wsX12_does RX12 93 12 45 true (.array .int) := ⟨RX12, TX12, 57, tyX12, rfl, by decide, iX12_does_12, by decide +kernel, rfl, tyX12_ok 45 (by decide), tyX12_ok, nmX12⟩
set_option maxRecDepth 20000 in
theorem fX12_does_96 : hq_fl vwCl wsX12_does RX12 96 12 46 true (.array .int) := ⟨RX12, TX12, 57, tyX12, rfl, by decide, iX12_does_12, by decide +kernel, rfl, tyX12_ok 46 (by decide), tyX12_ok, nmX12⟩
set_option maxRecDepth 20000 in
theorem fX12_does_280 : hq_fl vwCl wsX12_does RX12 280 12 47 false .int := ⟨RX12, TX12, 57, tyX12, rfl, by decide, iX12_does_12, by decide +kernel, rfl, tyX12_ok 47 (by decide), tyX12_ok, nmX12⟩
set_option maxHeartbeats 4000000 in
set_option maxRecDepth 100000 in
theorem cl_X12_does_58 {p : Program} {l : Launch} {e : Env} {s : State} {m : MethodId} {args : Array Value} {below : List Frame} {meth : Method} {c : Code} {D : va_G} {cA : Nat → ClassId} {B : Nat} {Z : State → Prop}   {k : hq_M → Prop} (C : hq_C vwCl p m c cX12_does 2 s args wsX12_does RX12 meth none D cA (hq_in B YM.length) Z)
     : ∀ (n : Nat) (v1 : Int) (rv1 : rg v1) (M : hq_M) (H : Heap) (locs : List Loc) (ls : Array Slot), l_X12_does_58 k n v1 M → hq_S vwCl SLx D cA YM B s.heap M H locs → lv_has ls 2 [(0, .ref (B + 0)), (1, .int (w3 v1))] → W p l e ({ frames := 5, cells := 0, slots := 0, locals := 111 } : Room) s m args below meth c H locs 0 0 (MQ below (hq_Q vwCl SLx D cA YM B (hq_qv k)) args s 0 0 (hq_in B YM.length)) (F0 m 58 ls []) := by
  have hx := C.1.1
  have hb := C.1.2.1
  intro n
  induction n with
  | zero => intro v1 rv1 M H locs ls hw hs hl; exact hw.elim
  | succ n ih =>
    intro v1 rv1 M H locs ls hw hs hl
    unfold l_X12_does_58 at hw
    refine lv_iload_n hx hb dX12_does_58 rfl (lv_at hl 1 rfl) ?_
    refine lv_aload_n hx hb dX12_does_59 rfl (lv_at hl 0 rfl) ?_
    refine hq_getI (o := 0) C hs fX12_does_280 tkM_0 (by decide) rfl dX12_does_60 (fun g1 => ?_)
    refine hq_icmp_ge (tgt := 114) C rv1 g1 dX12_does_63 (by decide) (fun h => ?_) (fun h => ?_)
    · have hw := hw.1 h
      exact hq_vret C hs hw dX12_does_114
    · have hw := hw.2 h
      refine lv_aload_n hx hb dX12_does_66 rfl (lv_at hl 0 rfl) ?_
      refine hq_getA (o := 0) C hs fX12_does_90 tkM_0 (by decide) rfl dX12_does_67 ?_
      refine lv_iload_n hx hb dX12_does_70 rfl (lv_at hl 1 rfl) ?_
      refine lv_aload_n hx hb dX12_does_71 rfl (lv_at hl 0 rfl) ?_
      refine hq_getA (o := 0) C hs fX12_does_90 tkM_0 (by decide) rfl dX12_does_72 ?_
      refine lv_iload_n hx hb dX12_does_75 rfl (lv_at hl 1 rfl) ?_
      refine hq_iconst C dX12_does_76 ?_
      obtain ⟨g2, hw⟩ := hw
      refine hq_iadd C dX12_does_77 ?_
      obtain ⟨g3, hw⟩ := hw
      refine hq_iald (o := 25) C hs tkM_25 g2 g3 dX12_does_78 (fun g4 => ?_)
      obtain ⟨g5, hw⟩ := hw
      refine hq_iast (o := 25) C hs tkM_25 rv1 g5 g4 dX12_does_79 (fun M6 eM6 H locs hs => ?_)
      have hw := hw M6 eM6
      refine lv_aload_n hx hb dX12_does_80 rfl (lv_at hl 0 rfl) ?_
      refine hq_getA (o := 0) C hs fX12_does_96 tkM_0 (by decide) rfl dX12_does_81 ?_
      refine lv_iload_n hx hb dX12_does_84 rfl (lv_at hl 1 rfl) ?_
      refine lv_aload_n hx hb dX12_does_85 rfl (lv_at hl 0 rfl) ?_
      refine hq_getA (o := 0) C hs fX12_does_96 tkM_0 (by decide) rfl dX12_does_86 ?_
      refine lv_iload_n hx hb dX12_does_89 rfl (lv_at hl 1 rfl) ?_
      refine hq_iconst C dX12_does_90 ?_
      obtain ⟨g7, hw⟩ := hw
      refine hq_iadd C dX12_does_91 ?_
      obtain ⟨g8, hw⟩ := hw
      refine hq_iald (o := 27) C hs tkM_27 g7 g8 dX12_does_92 (fun g9 => ?_)
      obtain ⟨g10, hw⟩ := hw
      refine hq_iast (o := 27) C hs tkM_27 rv1 g10 g9 dX12_does_93 (fun M11 eM11 H locs hs => ?_)
      have hw := hw M11 eM11
      refine lv_aload_n hx hb dX12_does_94 rfl (lv_at hl 0 rfl) ?_
      refine hq_getA (o := 0) C hs fX12_does_93 tkM_0 (by decide) rfl dX12_does_95 ?_
      refine lv_iload_n hx hb dX12_does_98 rfl (lv_at hl 1 rfl) ?_
      refine lv_aload_n hx hb dX12_does_99 rfl (lv_at hl 0 rfl) ?_
      refine hq_getA (o := 0) C hs fX12_does_93 tkM_0 (by decide) rfl dX12_does_100 ?_
      refine lv_iload_n hx hb dX12_does_103 rfl (lv_at hl 1 rfl) ?_
      refine hq_iconst C dX12_does_104 ?_
      obtain ⟨g12, hw⟩ := hw
      refine hq_iadd C dX12_does_105 ?_
      obtain ⟨g13, hw⟩ := hw
      refine hq_iald (o := 26) C hs tkM_26 g12 g13 dX12_does_106 (fun g14 => ?_)
      obtain ⟨g15, hw⟩ := hw
      refine hq_iast (o := 26) C hs tkM_26 rv1 g15 g14 dX12_does_107 (fun M16 eM16 H locs hs => ?_)
      have hw := hw M16 eM16
      obtain ⟨g18, hw⟩ := hw
      refine hq_iinc (k := 1) C dX12_does_108 hl rfl (by decide) (fun x17 ex17 ls hl => ?_)
      have hw := hw x17 ex17
      have rx17 : rg x17 := by rw [ex17]; exact g18
      have hl : lv_has ls 2 [(1, .int (w3 x17)), (0, .ref (B + 0))] := hl
      refine hq_goto (tgt := 58) C dX12_does_111 (by decide) ?_
      exact ih x17 rx17 _ _ _ _ hw hs (lv_sub hl [1, 0] rfl)
set_option maxHeartbeats 4000000 in
set_option maxRecDepth 100000 in
theorem cb_X12_does_46 {p : Program} {l : Launch} {e : Env} {s : State} {m : MethodId} {args : Array Value} {below : List Frame} {meth : Method} {c : Code} {D : va_G} {cA : Nat → ClassId} {B : Nat} {Z : State → Prop}   {k : hq_M → Prop} {M : hq_M} {H : Heap} {locs : List Loc} {ls : Array Slot} (C : hq_C vwCl p m c cX12_does 2 s args wsX12_does RX12 meth none D cA (hq_in B YM.length) Z)
    (hw : b_X12_does_46 k M) (hs : hq_S vwCl SLx D cA YM B s.heap M H locs) (hl : lv_has ls 2 [(0, .ref (B + 0))])
     : W p l e ({ frames := 5, cells := 0, slots := 0, locals := 111 } : Room) s m args below meth c H locs 0 0 (MQ below (hq_Q vwCl SLx D cA YM B (hq_qv k)) args s 0 0 (hq_in B YM.length)) (F0 m 46 ls []) := by
  have hx := C.1.1
  have hb := C.1.2.1
  unfold b_X12_does_46 at hw
  refine lv_aload_n hx hb dX12_does_46 rfl (lv_at hl 0 rfl) ?_
  refine lv_dup hx hb dX12_does_47 rfl ?_
  refine hq_getI (o := 0) C hs fX12_does_280 tkM_0 (by decide) rfl dX12_does_48 (fun g1 => ?_)
  refine hq_iconst C dX12_does_51 ?_
  obtain ⟨g2, hw⟩ := hw
  refine hq_isub C dX12_does_52 ?_
  refine hq_putI (o := 0) C hs fX12_does_280 tkM_0 (by decide) rfl g2 dX12_does_53 (fun M3 eM3 H locs hs => ?_)
  have hw := hw M3 eM3
  refine hq_iconst C dX12_does_56 ?_
  refine lv_istore_n (lv' := [(1, .int (w3 0)), (0, .ref (B + 0))]) hx hb dX12_does_57 rfl hl (by decide) rfl (fun ls hl => ?_)
  obtain ⟨n9, hw⟩ := hw
  refine cl_X12_does_58  C  n9 0 (by decide : rg 0) _ _ _ _ hw hs (lv_sub hl [1, 0] rfl)
set_option maxHeartbeats 4000000 in
set_option maxRecDepth 100000 in
theorem c_X12_does (l : Launch) {D : va_G} {cA : Nat → ClassId} {B : Nat} {Z : State → Prop} (hZ : hq_Zo Z (hq_in B YM.length))  (M : hq_M) (k : hq_M → Prop) (hw : w_X12_does  M k) : hq_T vwCl SLx l yX12_does wsX12_does ({ frames := 5, cells := 0, slots := 0, locals := 111 } : Room) D cA YM B Z [.ref (B + 0)] M (hq_qv k) := by
  refine hq_meth (cc := cX12_does) (maxL := 2) (ret := none) (own := RX12) hZ rfl (by decide +kernel) rfl (Nat.le_of_ble_eq_true rfl) ?_
  intro p e s m below meth c ls C hs hl
  have hx := C.1.1
  have hb := C.1.2.1
  unfold w_X12_does at hw
  have hl : lv_has ls 2 [(0, .ref (B + 0))] := hl
  refine lv_aload_n hx hb dX12_does_0 rfl (lv_at hl 0 rfl) ?_
  refine hq_getA (o := 0) C hs fX12_does_90 tkM_0 (by decide) rfl dX12_does_1 ?_
  refine hq_iconst C dX12_does_4 ?_
  obtain ⟨g1, hw⟩ := hw
  refine hq_iald (o := 25) C hs tkM_25 (by decide : rg 0) g1 dX12_does_5 (fun g2 => ?_)
  refine hq_if_ne (tgt := 31) C g2 dX12_does_6 (by decide) (fun h => ?_) (fun h => ?_)
  · have hw := hw.1 h
    refine lv_aload_n hx hb dX12_does_31 rfl (lv_at hl 0 rfl) ?_
    refine hq_iconst C dX12_does_32 ?_
    refine lv_aload_n hx hb dX12_does_33 rfl (lv_at hl 0 rfl) ?_
    refine hq_getA (o := 0) C hs fX12_does_96 tkM_0 (by decide) rfl dX12_does_34 ?_
    refine hq_iconst C dX12_does_37 ?_
    obtain ⟨g3, hw⟩ := hw
    refine hq_iald (o := 27) C hs tkM_27 (by decide : rg 0) g3 dX12_does_38 (fun g4 => ?_)
    refine hq_cV (n := 2) (ci := 12) (o := 0) (qc := (TX12, 57)) C hs (c_X12_comes l C.2.2.2.2.1 1 (by decide : rg 1) (M 27 0) g4 _ _ hw) gX12_does_X12_comes rfl ⟨rfl, rfl⟩ (by decide +kernel) ⟨Nat.le_of_ble_eq_true rfl, Nat.le_of_ble_eq_true rfl⟩ tkM_0 (by decide) rfl rfl hl.1 rfl (Nat.le_of_ble_eq_true rfl) dX12_does_39 (hq_kv (fun M5 H locs hw hs => ?_))
    refine lv_aload_n hx hb dX12_does_42 rfl (lv_at hl 0 rfl) ?_
    refine hq_cV (n := 0) (ci := 12) (o := 0) (qc := (TX12, 57)) C hs (c_X12_readsAll l C.2.2.2.2.1 _ _ hw) gX12_does_X12_readsAll rfl ⟨rfl, rfl⟩ (by decide +kernel) ⟨Nat.le_of_ble_eq_true rfl, Nat.le_of_ble_eq_true rfl⟩ tkM_0 (by decide) rfl rfl hl.1 rfl (Nat.le_of_ble_eq_true rfl) dX12_does_43 (hq_kv (fun M6 H locs hw hs => ?_))
    refine cb_X12_does_46  C hw hs (lv_sub hl [0] rfl) 
  · have hw := hw.2 h
    refine lv_aload_n hx hb dX12_does_9 rfl (lv_at hl 0 rfl) ?_
    refine hq_getA (o := 0) C hs fX12_does_38 tkM_0 (by decide) rfl dX12_does_10 ?_
    refine hq_iconst C dX12_does_13 ?_
    refine lv_aload_n hx hb dX12_does_14 rfl (lv_at hl 0 rfl) ?_
    refine hq_getA (o := 0) C hs fX12_does_96 tkM_0 (by decide) rfl dX12_does_15 ?_
    refine hq_iconst C dX12_does_18 ?_
    obtain ⟨g7, hw⟩ := hw
    refine hq_iald (o := 27) C hs tkM_27 (by decide : rg 0) g7 dX12_does_19 (fun g8 => ?_)
    obtain ⟨g9, hw⟩ := hw
    refine hq_iast (o := 8) C hs tkM_8 (by decide : rg 1) g9 g8 dX12_does_20 (fun M10 eM10 H locs hs => ?_)
    have hw := hw M10 eM10
    refine lv_aload_n hx hb dX12_does_21 rfl (lv_at hl 0 rfl) ?_
    refine hq_iconst C dX12_does_22 ?_
    refine hq_iconst C dX12_does_23 ?_
    refine hq_cV (n := 2) (ci := 12) (o := 0) (qc := (TX12, 57)) C hs (c_X12_makesRoom l C.2.2.2.2.1 1 (by decide : rg 1) 0 (by decide : rg 0) _ _ hw) gX12_does_X12_makesRoom rfl ⟨rfl, rfl⟩ (by decide +kernel) ⟨Nat.le_of_ble_eq_true rfl, Nat.le_of_ble_eq_true rfl⟩ tkM_0 (by decide) rfl rfl hl.1 rfl (Nat.le_of_ble_eq_true rfl) dX12_does_24 (hq_ki (fun x12 M11 H locs rx12 hw hs => ?_))
    refine lv_pop hx hb dX12_does_27 rfl ?_
    refine hq_goto (tgt := 46) C dX12_does_28 (by decide) ?_
    refine cb_X12_does_46  C hw hs (lv_sub hl [0] rfl) 
theorem iX12_feeds_12 : ∀ w ∈ u_ws RX12 TX12 57, w ∈ wsX12_feeds := fun w h => List.mem_cons_of_mem _ (List.mem_append_right _ h)
set_option maxRecDepth 20000 in
theorem fX12_feeds_87 : hq_fl vwCl wsX12_feeds RX12 87 12 42 true (.array .int) := ⟨RX12, TX12, 57, tyX12, rfl, by decide, iX12_feeds_12, by decide +kernel, rfl, tyX12_ok 42 (by decide), tyX12_ok, nmX12⟩
set_option maxRecDepth 20000 in
theorem fX12_feeds_93 : hq_fl vwCl wsX12_feeds RX12 93 12 45 true (.array .int) := ⟨RX12, TX12, 57, tyX12, rfl, by decide, iX12_feeds_12, by decide +kernel, rfl, tyX12_ok 45 (by decide), tyX12_ok, nmX12⟩
set_option maxRecDepth 20000 in
theorem fX12_feeds_277 : hq_fl vwCl wsX12_feeds RX12 277 12 43 false .int := ⟨RX12, TX12, 57, tyX12, rfl, by decide, iX12_feeds_12, by decide +kernel, rfl, tyX12_ok 43 (by decide), tyX12_ok, nmX12⟩
set_option maxRecDepth 20000 in
theorem kX12_feeds_382 : Cond.constantLong RX12 382 99 ∈ wsX12_feeds := by decide +kernel
set_option maxHeartbeats 4000000 in
set_option maxRecDepth 100000 in
theorem cb_X12_feeds_60 {p : Program} {l : Launch} {e : Env} {s : State} {m : MethodId} {args : Array Value} {below : List Frame} {meth : Method} {c : Code} {D : va_G} {cA : Nat → ClassId} {B : Nat} {Z : State → Prop} (v2 : Int) (rv2 : rg v2) (v3 : Int) (rv3 : rg v3) (v4 : Int) (rv4 : rg v4) {k_28 : Int → Int → hq_M → Prop} {k : Int → hq_M → Prop} {M : hq_M} {H : Heap} {locs : List Loc} {ls : Array Slot} (C : hq_C vwCl p m c cX12_feeds 5 s args wsX12_feeds RX12 meth (some .int) D cA (hq_in B YM.length) Z)
    (hw : b_X12_feeds_60 v2 v3 v4 k_28 k M) (hs : hq_S vwCl SLx D cA YM B s.heap M H locs) (hl : lv_has ls 5 [(0, .ref (B + 0)), (2, .int (w3 v2)), (3, .int (w3 v3)), (4, .int (w3 v4))])
    (hk_28 : ∀ (y2 : Int) (ry2 : rg y2) (y4 : Int) (ry4 : rg y4) (M1 : hq_M) (H : Heap) (locs : List Loc) (ls : Array Slot), k_28 y2 y4 M1 → hq_S vwCl SLx D cA YM B s.heap M1 H locs → lv_has ls 5 [(0, .ref (B + 0)), (2, .int (w3 y2)), (3, .int (w3 v3)), (4, .int (w3 y4))] → W p l e ({ frames := 6, cells := 0, slots := 0, locals := 132 } : Room) s m args below meth c H locs 0 0 (MQ below (hq_Q vwCl SLx D cA YM B (hq_qi k)) args s 0 0 (hq_in B YM.length)) (F0 m 28 ls [])) : W p l e ({ frames := 6, cells := 0, slots := 0, locals := 132 } : Room) s m args below meth c H locs 0 0 (MQ below (hq_Q vwCl SLx D cA YM B (hq_qi k)) args s 0 0 (hq_in B YM.length)) (F0 m 60 ls []) := by
  have hx := C.1.1
  have hb := C.1.2.1
  unfold b_X12_feeds_60 at hw
  obtain ⟨g2, hw⟩ := hw
  refine hq_iinc (k := 3) C dX12_feeds_60 hl rfl (by decide) (fun x1 ex1 ls hl => ?_)
  have hw := hw x1 ex1
  have rx1 : rg x1 := by rw [ex1]; exact g2
  have hl : lv_has ls 5 [(4, .int (w3 x1)), (0, .ref (B + 0)), (2, .int (w3 v2)), (3, .int (w3 v3))] := hl
  refine hq_goto (tgt := 28) C dX12_feeds_63 (by decide) ?_
  exact hk_28 v2 rv2 x1 rx1 _ _ _ _ hw hs (lv_sub hl [1, 2, 3, 0] rfl)
set_option maxHeartbeats 4000000 in
set_option maxRecDepth 100000 in
theorem cl_X12_feeds_28 {p : Program} {l : Launch} {e : Env} {s : State} {m : MethodId} {args : Array Value} {below : List Frame} {meth : Method} {c : Code} {D : va_G} {cA : Nat → ClassId} {B : Nat} {Z : State → Prop} (v3 : Int) (rv3 : rg v3) {k_66 : Int → hq_M → Prop} {k : Int → hq_M → Prop} (C : hq_C vwCl p m c cX12_feeds 5 s args wsX12_feeds RX12 meth (some .int) D cA (hq_in B YM.length) Z)
    (hk_66 : ∀ (y2 : Int) (ry2 : rg y2) (M1 : hq_M) (H : Heap) (locs : List Loc) (ls : Array Slot), k_66 y2 M1 → hq_S vwCl SLx D cA YM B s.heap M1 H locs → lv_has ls 5 [(0, .ref (B + 0)), (2, .int (w3 y2)), (3, .int (w3 v3))] → W p l e ({ frames := 6, cells := 0, slots := 0, locals := 132 } : Room) s m args below meth c H locs 0 0 (MQ below (hq_Q vwCl SLx D cA YM B (hq_qi k)) args s 0 0 (hq_in B YM.length)) (F0 m 66 ls [])) : ∀ (n : Nat) (v2 : Int) (rv2 : rg v2) (v4 : Int) (rv4 : rg v4) (M : hq_M) (H : Heap) (locs : List Loc) (ls : Array Slot), l_X12_feeds_28 v3 k_66 k n v2 v4 M → hq_S vwCl SLx D cA YM B s.heap M H locs → lv_has ls 5 [(0, .ref (B + 0)), (2, .int (w3 v2)), (3, .int (w3 v3)), (4, .int (w3 v4))] → W p l e ({ frames := 6, cells := 0, slots := 0, locals := 132 } : Room) s m args below meth c H locs 0 0 (MQ below (hq_Q vwCl SLx D cA YM B (hq_qi k)) args s 0 0 (hq_in B YM.length)) (F0 m 28 ls []) := by
  have hx := C.1.1
  have hb := C.1.2.1
  intro n
  induction n with
  | zero => intro v2 rv2 v4 rv4 M H locs ls hw hs hl; exact hw.elim
  | succ n ih =>
    intro v2 rv2 v4 rv4 M H locs ls hw hs hl
    unfold l_X12_feeds_28 at hw
    refine lv_iload hx hb dX12_feeds_28 (lv_at hl 3 rfl) ?_
    refine lv_iload_n hx hb dX12_feeds_30 rfl (lv_at hl 2 rfl) ?_
    refine hq_icmp_ge (tgt := 66) C rv4 rv3 dX12_feeds_31 (by decide) (fun h => ?_) (fun h => ?_)
    · have hw := hw.1 h
      exact hk_66 v2 rv2 _ _ _ _ hw hs (lv_sub hl [0, 1, 2] rfl)
    · have hw := hw.2 h
      refine lv_aload_n hx hb dX12_feeds_34 rfl (lv_at hl 0 rfl) ?_
      refine hq_getA (o := 0) C hs fX12_feeds_93 tkM_0 (by decide) rfl dX12_feeds_35 ?_
      refine hq_iconst C dX12_feeds_38 ?_
      refine lv_dup2_11 hx hb dX12_feeds_39 rfl rfl ?_
      obtain ⟨g1, hw⟩ := hw
      refine hq_iald (o := 26) C hs tkM_26 (by decide : rg 0) g1 dX12_feeds_40 (fun g2 => ?_)
      refine hq_iconst C dX12_feeds_41 ?_
      obtain ⟨g3, hw⟩ := hw
      refine hq_isub C dX12_feeds_42 ?_
      obtain ⟨g4, hw⟩ := hw
      refine hq_iast (o := 26) C hs tkM_26 (by decide : rg 0) g4 g3 dX12_feeds_43 (fun M5 eM5 H locs hs => ?_)
      have hw := hw M5 eM5
      refine lv_aload_n hx hb dX12_feeds_44 rfl (lv_at hl 0 rfl) ?_
      refine hq_getA (o := 0) C hs fX12_feeds_93 tkM_0 (by decide) rfl dX12_feeds_45 ?_
      refine hq_iconst C dX12_feeds_48 ?_
      obtain ⟨g6, hw⟩ := hw
      refine hq_iald (o := 26) C hs tkM_26 (by decide : rg 0) g6 dX12_feeds_49 (fun g7 => ?_)
      refine hq_if_ne (tgt := 60) C g7 dX12_feeds_50 (by decide) (fun h => ?_) (fun h => ?_)
      · have hw := hw.1 h
        refine cb_X12_feeds_60 v2 rv2 v3 rv3 v4 rv4 C hw hs (lv_sub hl [0, 1, 2, 3] rfl) ?_
        · intro y2 ry2 y4 ry4 M H locs ls hw hs hl
          exact ih y2 ry2 y4 ry4 _ _ _ _ hw hs (lv_sub hl [0, 1, 2, 3] rfl)
      · have hw := hw.2 h
        refine lv_aload_n hx hb dX12_feeds_53 rfl (lv_at hl 0 rfl) ?_
        refine hq_cV (n := 0) (ci := 12) (o := 0) (qc := (TX12, 57)) C hs (c_X12_does l C.2.2.2.2.1 _ _ hw) gX12_feeds_X12_does rfl ⟨rfl, rfl⟩ (by decide +kernel) ⟨Nat.le_of_ble_eq_true rfl, Nat.le_of_ble_eq_true rfl⟩ tkM_0 (by decide) rfl rfl hl.1 rfl (Nat.le_of_ble_eq_true rfl) dX12_feeds_54 (hq_kv (fun M8 H locs hw hs => ?_))
        obtain ⟨g10, hw⟩ := hw
        refine hq_iinc (k := 1) C dX12_feeds_57 hl rfl (by decide) (fun x9 ex9 ls hl => ?_)
        have hw := hw x9 ex9
        have rx9 : rg x9 := by rw [ex9]; exact g10
        have hl : lv_has ls 5 [(2, .int (w3 x9)), (0, .ref (B + 0)), (3, .int (w3 v3)), (4, .int (w3 v4))] := hl
        refine cb_X12_feeds_60 x9 rx9 v3 rv3 v4 rv4 C hw hs (lv_sub hl [1, 0, 2, 3] rfl) ?_
        · intro y2 ry2 y4 ry4 M H locs ls hw hs hl
          exact ih y2 ry2 y4 ry4 _ _ _ _ hw hs (lv_sub hl [0, 1, 2, 3] rfl)
set_option maxHeartbeats 4000000 in
set_option maxRecDepth 100000 in
theorem cl_X12_feeds_79 {p : Program} {l : Launch} {e : Env} {s : State} {m : MethodId} {args : Array Value} {below : List Frame} {meth : Method} {c : Code} {D : va_G} {cA : Nat → ClassId} {B : Nat} {Z : State → Prop} (v2 : Int) (rv2 : rg v2) (v3 : Int) (rv3 : rg v3)  {k : Int → hq_M → Prop} (C : hq_C vwCl p m c cX12_feeds 5 s args wsX12_feeds RX12 meth (some .int) D cA (hq_in B YM.length) Z)
     : ∀ (n : Nat) (v4 : Int) (rv4 : rg v4) (M : hq_M) (H : Heap) (locs : List Loc) (ls : Array Slot), l_X12_feeds_79 v2 v3 k n v4 M → hq_S vwCl SLx D cA YM B s.heap M H locs → lv_has ls 5 [(0, .ref (B + 0)), (2, .int (w3 v2)), (3, .int (w3 v3)), (4, .int (w3 v4))] → W p l e ({ frames := 6, cells := 0, slots := 0, locals := 132 } : Room) s m args below meth c H locs 0 0 (MQ below (hq_Q vwCl SLx D cA YM B (hq_qi k)) args s 0 0 (hq_in B YM.length)) (F0 m 79 ls []) := by
  have hx := C.1.1
  have hb := C.1.2.1
  intro n
  induction n with
  | zero => intro v4 rv4 M H locs ls hw hs hl; exact hw.elim
  | succ n ih =>
    intro v4 rv4 M H locs ls hw hs hl
    unfold l_X12_feeds_79 at hw
    refine lv_iload hx hb dX12_feeds_79 (lv_at hl 3 rfl) ?_
    refine lv_aload_n hx hb dX12_feeds_81 rfl (lv_at hl 0 rfl) ?_
    refine hq_getI (o := 0) C hs fX12_feeds_277 tkM_0 (by decide) rfl dX12_feeds_82 (fun g1 => ?_)
    refine hq_icmp_ge (tgt := 110) C rv4 g1 dX12_feeds_85 (by decide) (fun h => ?_) (fun h => ?_)
    · have hw := hw.1 h
      refine lv_iload_n hx hb dX12_feeds_110 rfl (lv_at hl 1 rfl) ?_
      exact hq_iret C hs rv2 hw dX12_feeds_111
    · have hw := hw.2 h
      refine lv_aload_n hx hb dX12_feeds_88 rfl (lv_at hl 0 rfl) ?_
      refine hq_getA (o := 0) C hs fX12_feeds_87 tkM_0 (by decide) rfl dX12_feeds_89 ?_
      refine lv_iload hx hb dX12_feeds_92 (lv_at hl 3 rfl) ?_
      refine lv_aload_n hx hb dX12_feeds_94 rfl (lv_at hl 0 rfl) ?_
      refine hq_getA (o := 0) C hs fX12_feeds_87 tkM_0 (by decide) rfl dX12_feeds_95 ?_
      refine lv_iload hx hb dX12_feeds_98 (lv_at hl 3 rfl) ?_
      refine lv_iload_n hx hb dX12_feeds_100 rfl (lv_at hl 2 rfl) ?_
      obtain ⟨g2, hw⟩ := hw
      refine hq_iadd C dX12_feeds_101 ?_
      obtain ⟨g3, hw⟩ := hw
      refine hq_iald (o := 24) C hs tkM_24 g2 g3 dX12_feeds_102 (fun g4 => ?_)
      obtain ⟨g5, hw⟩ := hw
      refine hq_iast (o := 24) C hs tkM_24 rv4 g5 g4 dX12_feeds_103 (fun M6 eM6 H locs hs => ?_)
      have hw := hw M6 eM6
      obtain ⟨g8, hw⟩ := hw
      refine hq_iinc (k := 3) C dX12_feeds_104 hl rfl (by decide) (fun x7 ex7 ls hl => ?_)
      have hw := hw x7 ex7
      have rx7 : rg x7 := by rw [ex7]; exact g8
      have hl : lv_has ls 5 [(4, .int (w3 x7)), (0, .ref (B + 0)), (2, .int (w3 v2)), (3, .int (w3 v3))] := hl
      refine hq_goto (tgt := 79) C dX12_feeds_107 (by decide) ?_
      exact ih x7 rx7 _ _ _ _ hw hs (lv_sub hl [1, 2, 3, 0] rfl)
set_option maxHeartbeats 4000000 in
set_option maxRecDepth 100000 in
theorem c_X12_feeds (l : Launch) {D : va_G} {cA : Nat → ClassId} {B : Nat} {Z : State → Prop} (hZ : hq_Zo Z (hq_in B YM.length)) (v1 : Int) (rv1 : rg v1) (M : hq_M) (k : Int → hq_M → Prop) (hw : w_X12_feeds v1 M k) : hq_T vwCl SLx l yX12_feeds wsX12_feeds ({ frames := 6, cells := 0, slots := 0, locals := 132 } : Room) D cA YM B Z [.ref (B + 0), .int (w3 v1)] M (hq_qi k) := by
  refine hq_meth (cc := cX12_feeds) (maxL := 5) (ret := (some .int)) (own := RX12) hZ rfl (by decide +kernel) rfl (Nat.le_of_ble_eq_true rfl) ?_
  intro p e s m below meth c ls C hs hl
  have hx := C.1.1
  have hb := C.1.2.1
  unfold w_X12_feeds at hw
  have hl : lv_has ls 5 [(0, .ref (B + 0)), (1, .int (w3 v1))] := hl
  refine lv_iload_n hx hb dX12_feeds_0 rfl (lv_at hl 1 rfl) ?_
  refine hq_i2l (y := 0) C rv1 dX12_feeds_1 ?_
  refine hq_lconst (z := 1) C dX12_feeds_2 rfl ?_
  refine hq_ldc2 (z := 99) C kX12_feeds_382 (by decide) dX12_feeds_3 ?_
  refine hq_cS (n := 3) C hs (c_X12_in l C.2.2.2.2.1 v1 (rg_rl rv1) 1 (by decide : rl 1) 99 (by decide : rl 99) _ _ hw) gX12_feeds_X12_in rfl ⟨rfl, rfl⟩ (by decide +kernel) ⟨Nat.le_of_ble_eq_true rfl, Nat.le_of_ble_eq_true rfl⟩ rfl hl.1 rfl (Nat.le_of_ble_eq_true rfl) dX12_feeds_6 (hq_kz (fun x1 M9 H locs rx1 hw hs => ?_))
  obtain ⟨e9, hw⟩ := hw; rw [e9] at hs
  refine hq_if_ne (tgt := 14) C (rb_rg rx1) dX12_feeds_9 (by decide) (fun h => ?_) (fun h => ?_)
  · have hw := hw.1 h
    refine hq_iconst C dX12_feeds_14 ?_
    refine lv_istore_n (lv' := [(2, .int (w3 0)), (0, .ref (B + 0)), (1, .int (w3 v1))]) hx hb dX12_feeds_15 rfl hl (by decide) rfl (fun ls hl => ?_)
    refine lv_iload_n hx hb dX12_feeds_16 rfl (lv_at hl 2 rfl) ?_
    refine lv_aload_n hx hb dX12_feeds_17 rfl (lv_at hl 1 rfl) ?_
    refine hq_getI (o := 0) C hs fX12_feeds_277 tkM_0 (by decide) rfl dX12_feeds_18 (fun g2 => ?_)
    refine hq_cS (n := 2) C hs (c_X12_lesser l C.2.2.2.2.1 v1 rv1 (M 0 43) g2 _ _ hw) gX12_feeds_X12_lesser rfl ⟨rfl, rfl⟩ (by decide +kernel) ⟨Nat.le_of_ble_eq_true rfl, Nat.le_of_ble_eq_true rfl⟩ rfl hl.1 rfl (Nat.le_of_ble_eq_true rfl) dX12_feeds_21 (hq_ki (fun x3 M9 H locs rx3 hw hs => ?_))
    obtain ⟨e9, hw⟩ := hw; rw [e9] at hs
    refine lv_istore_n (lv' := [(3, .int (w3 x3)), (2, .int (w3 0)), (0, .ref (B + 0)), (1, .int (w3 v1))]) hx hb dX12_feeds_24 rfl hl (by decide) rfl (fun ls hl => ?_)
    refine hq_iconst C dX12_feeds_25 ?_
    refine lv_istore (lv' := [(4, .int (w3 0)), (3, .int (w3 x3)), (2, .int (w3 0)), (0, .ref (B + 0)), (1, .int (w3 v1))]) hx hb dX12_feeds_26 hl (by decide) rfl (fun ls hl => ?_)
    obtain ⟨n9, hw⟩ := hw
    refine cl_X12_feeds_28 x3 rx3 C ?_ n9 0 (by decide : rg 0) 0 (by decide : rg 0) _ _ _ _ hw hs (lv_sub hl [3, 2, 1, 0] rfl)
    · intro x5 rx5 M4 H locs ls hw hs hl
      refine lv_aload_n hx hb dX12_feeds_66 rfl (lv_at hl 0 rfl) ?_
      refine lv_dup hx hb dX12_feeds_67 rfl ?_
      refine hq_getI (o := 0) C hs fX12_feeds_277 tkM_0 (by decide) rfl dX12_feeds_68 (fun g6 => ?_)
      refine lv_iload_n hx hb dX12_feeds_71 rfl (lv_at hl 2 rfl) ?_
      obtain ⟨g7, hw⟩ := hw
      refine hq_isub C dX12_feeds_72 ?_
      refine hq_putI (o := 0) C hs fX12_feeds_277 tkM_0 (by decide) rfl g7 dX12_feeds_73 (fun M8 eM8 H locs hs => ?_)
      have hw := hw M8 eM8
      refine hq_iconst C dX12_feeds_76 ?_
      refine lv_istore (lv' := [(4, .int (w3 0)), (0, .ref (B + 0)), (2, .int (w3 x5)), (3, .int (w3 x3))]) hx hb dX12_feeds_77 hl (by decide) rfl (fun ls hl => ?_)
      obtain ⟨n9, hw⟩ := hw
      refine cl_X12_feeds_79 x5 rx5 x3 rx3 C  n9 0 (by decide : rg 0) _ _ _ _ hw hs (lv_sub hl [1, 2, 3, 0] rfl)
  · have hw := hw.2 h
    refine hq_iconst C dX12_feeds_12 ?_
    exact hq_iret C hs (by decide : rg (-1)) hw dX12_feeds_13
