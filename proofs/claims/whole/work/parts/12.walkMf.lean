theorem iX12_waitingMany_12 : ∀ w ∈ u_ws RX12 TX12 57, w ∈ wsX12_waitingMany := fun w h => List.mem_cons_of_mem _ (List.mem_append_right _ h)
set_option maxRecDepth 20000 in
theorem fX12_waitingMany_59 : hq_fl vwCl wsX12_waitingMany RX12 59 12 30 true (.array .int) := ⟨RX12, TX12, 57, tyX12, rfl, by decide, iX12_waitingMany_12, by decide +kernel, rfl, tyX12_ok 30 (by decide), tyX12_ok, nmX12⟩
set_option maxRecDepth 20000 in
theorem fX12_waitingMany_252 : hq_fl vwCl wsX12_waitingMany RX12 252 12 25 false .int := ⟨RX12, TX12, 57, tyX12, rfl, by decide, iX12_waitingMany_12, by decide +kernel, rfl, tyX12_ok 25 (by decide), tyX12_ok, nmX12⟩
set_option maxHeartbeats 4000000 in
set_option maxRecDepth 100000 in
theorem cb_X12_waitingMany_28 {p : Program} {l : Launch} {e : Env} {s : State} {m : MethodId} {args : Array Value} {below : List Frame} {meth : Method} {c : Code} {D : va_G} {cA : Nat → ClassId} {B : Nat} {Z : State → Prop} (v2 : Int) (rv2 : rg v2) (t0 : Int) (rt0 : rg t0) (t1 : Int) (rt1 : rb t1) {k_4 : Int → Int → Prop} {k : Int → Prop} {M : hq_M} {H : Heap} {locs : List Loc} {ls : Array Slot} (C : hq_C vwCl p m c cX12_waitingMany 3 s args wsX12_waitingMany RX12 meth (some .int) D cA (hq_in B YM.length) Z)
    (hw : b_X12_waitingMany_28 v2 t0 t1 k_4 k M) (hs : hq_S vwCl SLx D cA YM B s.heap M H locs) (hl : lv_has ls 3 [(0, .ref (B + 0)), (2, .int (w3 v2))])
    (hk_4 : ∀ (y1 : Int) (ry1 : rg y1) (y2 : Int) (ry2 : rg y2) (H : Heap) (locs : List Loc) (ls : Array Slot), k_4 y1 y2 → hq_S vwCl SLx D cA YM B s.heap M H locs → lv_has ls 3 [(0, .ref (B + 0)), (1, .int (w3 y1)), (2, .int (w3 y2))] → W p l e ({ frames := 0, cells := 0, slots := 0, locals := 0 } : Room) s m args below meth c H locs 0 0 (MQ below (hq_Q vwCl SLx D cA YM B (hq_qi (fun z M' => M' = M ∧ k z))) args s 0 0 (hq_in B YM.length)) (F0 m 4 ls [])) : W p l e ({ frames := 0, cells := 0, slots := 0, locals := 0 } : Room) s m args below meth c H locs 0 0 (MQ below (hq_Q vwCl SLx D cA YM B (hq_qi (fun z M' => M' = M ∧ k z))) args s 0 0 (hq_in B YM.length)) (F0 m 28 ls [.int (w3 t1), .int (w3 t0)]) := by
  have hx := C.1.1
  have hb := C.1.2.1
  unfold b_X12_waitingMany_28 at hw
  obtain ⟨g1, hw⟩ := hw
  refine hq_iadd C dX12_waitingMany_28 ?_
  refine hq_nm (fun x2 ex2 => ?_)
  have hw := hw x2 ex2
  have rx2 : rg x2 := by rw [ex2]; exact g1
  refine lv_istore_n (lv' := [(1, .int (w3 x2)), (0, .ref (B + 0)), (2, .int (w3 v2))]) hx hb dX12_waitingMany_29 rfl hl (by decide) rfl (fun ls hl => ?_)
  obtain ⟨g4, hw⟩ := hw
  refine hq_iinc (k := 2) C dX12_waitingMany_30 hl rfl (by decide) (fun x3 ex3 ls hl => ?_)
  have hw := hw x3 ex3
  have rx3 : rg x3 := by rw [ex3]; exact g4
  have hl : lv_has ls 3 [(2, .int (w3 x3)), (1, .int (w3 x2)), (0, .ref (B + 0))] := hl
  refine hq_goto (tgt := 4) C dX12_waitingMany_33 (by decide) ?_
  exact hk_4 x2 rx2 x3 rx3 _ _ _ hw hs (lv_sub hl [2, 1, 0] rfl)
set_option maxHeartbeats 4000000 in
set_option maxRecDepth 100000 in
theorem cl_X12_waitingMany_4 {p : Program} {l : Launch} {e : Env} {s : State} {m : MethodId} {args : Array Value} {below : List Frame} {meth : Method} {c : Code} {D : va_G} {cA : Nat → ClassId} {B : Nat} {Z : State → Prop}   {k : Int → Prop} {M : hq_M} (C : hq_C vwCl p m c cX12_waitingMany 3 s args wsX12_waitingMany RX12 meth (some .int) D cA (hq_in B YM.length) Z)
     : ∀ (n : Nat) (v1 : Int) (rv1 : rg v1) (v2 : Int) (rv2 : rg v2) (H : Heap) (locs : List Loc) (ls : Array Slot), l_X12_waitingMany_4 k M n v1 v2 → hq_S vwCl SLx D cA YM B s.heap M H locs → lv_has ls 3 [(0, .ref (B + 0)), (1, .int (w3 v1)), (2, .int (w3 v2))] → W p l e ({ frames := 0, cells := 0, slots := 0, locals := 0 } : Room) s m args below meth c H locs 0 0 (MQ below (hq_Q vwCl SLx D cA YM B (hq_qi (fun z M' => M' = M ∧ k z))) args s 0 0 (hq_in B YM.length)) (F0 m 4 ls []) := by
  have hx := C.1.1
  have hb := C.1.2.1
  intro n
  induction n with
  | zero => intro v1 rv1 v2 rv2 H locs ls hw hs hl; exact hw.elim
  | succ n ih =>
    intro v1 rv1 v2 rv2 H locs ls hw hs hl
    unfold l_X12_waitingMany_4 at hw
    refine lv_iload_n hx hb dX12_waitingMany_4 rfl (lv_at hl 2 rfl) ?_
    refine lv_aload_n hx hb dX12_waitingMany_5 rfl (lv_at hl 0 rfl) ?_
    refine hq_getI (o := 0) C hs fX12_waitingMany_252 tkM_0 (by decide) rfl dX12_waitingMany_6 (fun g1 => ?_)
    refine hq_icmp_ge (tgt := 36) C rv2 g1 dX12_waitingMany_9 (by decide) (fun h => ?_) (fun h => ?_)
    · have hw := hw.1 h
      refine lv_iload_n hx hb dX12_waitingMany_36 rfl (lv_at hl 1 rfl) ?_
      exact hq_iret C hs rv1 ⟨rfl, hw⟩ dX12_waitingMany_37
    · have hw := hw.2 h
      refine lv_iload_n hx hb dX12_waitingMany_12 rfl (lv_at hl 1 rfl) ?_
      refine lv_aload_n hx hb dX12_waitingMany_13 rfl (lv_at hl 0 rfl) ?_
      refine hq_getA (o := 0) C hs fX12_waitingMany_59 tkM_0 (by decide) rfl dX12_waitingMany_14 ?_
      refine lv_iload_n hx hb dX12_waitingMany_17 rfl (lv_at hl 2 rfl) ?_
      obtain ⟨g2, hw⟩ := hw
      refine hq_iald (o := 15) C hs tkM_15 rv2 g2 dX12_waitingMany_18 (fun g3 => ?_)
      refine hq_iconst C dX12_waitingMany_19 ?_
      refine hq_icmp_ne (tgt := 27) C g3 (by decide : rg 1) dX12_waitingMany_20 (by decide) (fun h => ?_) (fun h => ?_)
      · have hw := hw.1 h
        refine hq_iconst C dX12_waitingMany_27 ?_
        refine cb_X12_waitingMany_28 v2 rv2 v1 rv1 0 (by decide) C hw hs (lv_sub hl [0, 2] rfl) ?_
        · intro y1 ry1 y2 ry2 H locs ls hw hs hl
          exact ih y1 ry1 y2 ry2 _ _ _ hw hs (lv_sub hl [0, 1, 2] rfl)
      · have hw := hw.2 h
        refine hq_iconst C dX12_waitingMany_23 ?_
        refine hq_goto (tgt := 28) C dX12_waitingMany_24 (by decide) ?_
        refine cb_X12_waitingMany_28 v2 rv2 v1 rv1 1 (by decide) C hw hs (lv_sub hl [0, 2] rfl) ?_
        · intro y1 ry1 y2 ry2 H locs ls hw hs hl
          exact ih y1 ry1 y2 ry2 _ _ _ hw hs (lv_sub hl [0, 1, 2] rfl)
set_option maxHeartbeats 4000000 in
set_option maxRecDepth 100000 in
theorem c_X12_waitingMany (l : Launch) {D : va_G} {cA : Nat → ClassId} {B : Nat} {Z : State → Prop} (hZ : hq_Zo Z (hq_in B YM.length))  (M : hq_M) (k : Int → Prop) (hw : w_X12_waitingMany  M k) : hq_T vwCl SLx l yX12_waitingMany wsX12_waitingMany ({ frames := 0, cells := 0, slots := 0, locals := 0 } : Room) D cA YM B Z [.ref (B + 0)] M (hq_qi (fun z M' => M' = M ∧ k z)) := by
  refine hq_meth (cc := cX12_waitingMany) (maxL := 3) (ret := (some .int)) (own := RX12) hZ rfl (by decide +kernel) rfl (Nat.le_of_ble_eq_true rfl) ?_
  intro p e s m below meth c ls C hs hl
  have hx := C.1.1
  have hb := C.1.2.1
  unfold w_X12_waitingMany at hw
  have hl : lv_has ls 3 [(0, .ref (B + 0))] := hl
  refine hq_iconst C dX12_waitingMany_0 ?_
  refine lv_istore_n (lv' := [(1, .int (w3 0)), (0, .ref (B + 0))]) hx hb dX12_waitingMany_1 rfl hl (by decide) rfl (fun ls hl => ?_)
  refine hq_iconst C dX12_waitingMany_2 ?_
  refine lv_istore_n (lv' := [(2, .int (w3 0)), (1, .int (w3 0)), (0, .ref (B + 0))]) hx hb dX12_waitingMany_3 rfl hl (by decide) rfl (fun ls hl => ?_)
  obtain ⟨n9, hw⟩ := hw
  refine cl_X12_waitingMany_4  C  n9 0 (by decide : rg 0) 0 (by decide : rg 0) _ _ _ hw hs (lv_sub hl [2, 1, 0] rfl)
theorem iX12_count_12 : ∀ w ∈ u_ws RX12 TX12 57, w ∈ wsX12_count := fun w h => List.mem_cons_of_mem _ (List.mem_append_right _ h)
set_option maxRecDepth 20000 in
theorem fX12_count_7 : hq_fl vwCl wsX12_count RX12 7 12 2 false .int := ⟨RX12, TX12, 57, tyX12, rfl, by decide, iX12_count_12, by decide +kernel, rfl, tyX12_ok 2 (by decide), tyX12_ok, nmX12⟩
set_option maxRecDepth 20000 in
theorem fX12_count_13 : hq_fl vwCl wsX12_count RX12 13 12 3 false .int := ⟨RX12, TX12, 57, tyX12, rfl, by decide, iX12_count_12, by decide +kernel, rfl, tyX12_ok 3 (by decide), tyX12_ok, nmX12⟩
set_option maxRecDepth 20000 in
theorem fX12_count_135 : hq_fl vwCl wsX12_count RX12 135 12 9 false .int := ⟨RX12, TX12, 57, tyX12, rfl, by decide, iX12_count_12, by decide +kernel, rfl, tyX12_ok 9 (by decide), tyX12_ok, nmX12⟩
set_option maxRecDepth 20000 in
theorem fX12_count_223 : hq_fl vwCl wsX12_count RX12 223 12 1 false .int := ⟨RX12, TX12, 57, tyX12, rfl, by decide, iX12_count_12, by decide +kernel, rfl, tyX12_ok 1 (by decide), tyX12_ok, nmX12⟩
set_option maxRecDepth 20000 in
theorem fX12_count_231 : hq_fl vwCl wsX12_count RX12 231 12 0 false .int := ⟨RX12, TX12, 57, tyX12, rfl, by decide, iX12_count_12, by decide +kernel, rfl, tyX12_ok 0 (by decide), tyX12_ok, nmX12⟩
set_option maxRecDepth 20000 in
theorem fX12_count_252 : hq_fl vwCl wsX12_count RX12 252 12 25 false .int := ⟨RX12, TX12, 57, tyX12, rfl, by decide, iX12_count_12, by decide +kernel, rfl, tyX12_ok 25 (by decide), tyX12_ok, nmX12⟩
set_option maxRecDepth 20000 in
theorem fX12_count_258 : hq_fl vwCl wsX12_count RX12 258 12 23 false .int := ⟨RX12, TX12, 57, tyX12, rfl, by decide, iX12_count_12, by decide +kernel, rfl, tyX12_ok 23 (by decide), tyX12_ok, nmX12⟩
set_option maxRecDepth 20000 in
theorem fX12_count_277 : hq_fl vwCl wsX12_count RX12 277 12 43 false .int := ⟨RX12, TX12, 57, tyX12, rfl, by decide, iX12_count_12, by decide +kernel, rfl, tyX12_ok 43 (by decide), tyX12_ok, nmX12⟩
set_option maxRecDepth 20000 in
theorem fX12_count_325 : hq_fl vwCl wsX12_count RX12 325 12 37 false .int := ⟨RX12, TX12, 57, tyX12, rfl, by decide, iX12_count_12, by decide +kernel, rfl, tyX12_ok 37 (by decide), tyX12_ok, nmX12⟩
set_option maxRecDepth 20000 in
theorem fX12_count_361 : hq_fl vwCl wsX12_count RX12 361 12 52 false .int := ⟨RX12, TX12, 57, tyX12, rfl, by decide, iX12_count_12, by decide +kernel, rfl, tyX12_ok 52 (by decide), tyX12_ok, nmX12⟩
set_option maxRecDepth 20000 in
theorem fX12_count_370 : hq_fl vwCl wsX12_count RX12 370 12 24 false .int := ⟨RX12, TX12, 57, tyX12, rfl, by decide, iX12_count_12, by decide +kernel, rfl, tyX12_ok 24 (by decide), tyX12_ok, nmX12⟩
set_option maxHeartbeats 4000000 in
set_option maxRecDepth 100000 in
theorem c_X12_count (l : Launch) {D : va_G} {cA : Nat → ClassId} {B : Nat} {Z : State → Prop} (hZ : hq_Zo Z (hq_in B YM.length)) (v1 : Int) (rv1 : rg v1) (M : hq_M) (k : Int → Prop) (hw : w_X12_count v1 M k) : hq_T vwCl SLx l yX12_count wsX12_count ({ frames := 2, cells := 0, slots := 0, locals := 43 } : Room) D cA YM B Z [.ref (B + 0), .int (w3 v1)] M (hq_qi (fun z M' => M' = M ∧ k z)) := by
  refine hq_meth (cc := cX12_count) (maxL := 2) (ret := (some .int)) (own := RX12) hZ rfl (by decide +kernel) rfl (Nat.le_of_ble_eq_true rfl) ?_
  intro p e s m below meth c ls C hs hl
  have hx := C.1.1
  have hb := C.1.2.1
  unfold w_X12_count at hw
  have hl : lv_has ls 2 [(0, .ref (B + 0)), (1, .int (w3 v1))] := hl
  refine lv_iload_n hx hb dX12_count_0 rfl (lv_at hl 1 rfl) ?_
  rcases Decidable.em (v1 = 0) with h | h0
  · obtain ⟨hw, -⟩ := hw
    have hw := hw h
    refine hq_tabIn (tgt := 68) 0 (by decide) C h dX12_count_1 (by decide) (by decide) rfl (by decide) ?_
    refine lv_aload_n hx hb dX12_count_68 rfl (lv_at hl 0 rfl) ?_
    refine hq_getI (o := 0) C hs fX12_count_231 tkM_0 (by decide) rfl dX12_count_69 (fun g1 => ?_)
    exact hq_iret C hs g1 ⟨rfl, hw⟩ dX12_count_72
  obtain ⟨-, hw⟩ := hw
  rcases Decidable.em (v1 = 1) with h | h1
  · obtain ⟨hw, -⟩ := hw
    have hw := hw h
    refine hq_tabIn (tgt := 73) 1 (by decide) C h dX12_count_1 (by decide) (by decide) rfl (by decide) ?_
    refine lv_aload_n hx hb dX12_count_73 rfl (lv_at hl 0 rfl) ?_
    refine hq_getI (o := 0) C hs fX12_count_223 tkM_0 (by decide) rfl dX12_count_74 (fun g2 => ?_)
    exact hq_iret C hs g2 ⟨rfl, hw⟩ dX12_count_77
  obtain ⟨-, hw⟩ := hw
  rcases Decidable.em (v1 = 2) with h | h2
  · obtain ⟨hw, -⟩ := hw
    have hw := hw h
    refine hq_tabIn (tgt := 78) 2 (by decide) C h dX12_count_1 (by decide) (by decide) rfl (by decide) ?_
    refine lv_aload_n hx hb dX12_count_78 rfl (lv_at hl 0 rfl) ?_
    refine hq_getI (o := 0) C hs fX12_count_7 tkM_0 (by decide) rfl dX12_count_79 (fun g3 => ?_)
    exact hq_iret C hs g3 ⟨rfl, hw⟩ dX12_count_82
  obtain ⟨-, hw⟩ := hw
  rcases Decidable.em (v1 = 3) with h | h3
  · obtain ⟨hw, -⟩ := hw
    have hw := hw h
    refine hq_tabIn (tgt := 83) 3 (by decide) C h dX12_count_1 (by decide) (by decide) rfl (by decide) ?_
    refine lv_aload_n hx hb dX12_count_83 rfl (lv_at hl 0 rfl) ?_
    refine hq_getI (o := 0) C hs fX12_count_13 tkM_0 (by decide) rfl dX12_count_84 (fun g4 => ?_)
    exact hq_iret C hs g4 ⟨rfl, hw⟩ dX12_count_87
  obtain ⟨-, hw⟩ := hw
  rcases Decidable.em (v1 = 4) with h | h4
  · obtain ⟨hw, -⟩ := hw
    have hw := hw h
    refine hq_tabIn (tgt := 88) 4 (by decide) C h dX12_count_1 (by decide) (by decide) rfl (by decide) ?_
    refine lv_aload_n hx hb dX12_count_88 rfl (lv_at hl 0 rfl) ?_
    refine hq_getI (o := 0) C hs fX12_count_258 tkM_0 (by decide) rfl dX12_count_89 (fun g5 => ?_)
    exact hq_iret C hs g5 ⟨rfl, hw⟩ dX12_count_92
  obtain ⟨-, hw⟩ := hw
  rcases Decidable.em (v1 = 5) with h | h5
  · obtain ⟨hw, -⟩ := hw
    have hw := hw h
    refine hq_tabIn (tgt := 93) 5 (by decide) C h dX12_count_1 (by decide) (by decide) rfl (by decide) ?_
    refine lv_aload_n hx hb dX12_count_93 rfl (lv_at hl 0 rfl) ?_
    refine hq_getI (o := 0) C hs fX12_count_370 tkM_0 (by decide) rfl dX12_count_94 (fun g6 => ?_)
    exact hq_iret C hs g6 ⟨rfl, hw⟩ dX12_count_97
  obtain ⟨-, hw⟩ := hw
  rcases Decidable.em (v1 = 6) with h | h6
  · obtain ⟨hw, -⟩ := hw
    have hw := hw h
    refine hq_tabIn (tgt := 98) 6 (by decide) C h dX12_count_1 (by decide) (by decide) rfl (by decide) ?_
    refine lv_aload_n hx hb dX12_count_98 rfl (lv_at hl 0 rfl) ?_
    refine hq_getI (o := 0) C hs fX12_count_252 tkM_0 (by decide) rfl dX12_count_99 (fun g7 => ?_)
    exact hq_iret C hs g7 ⟨rfl, hw⟩ dX12_count_102
  obtain ⟨-, hw⟩ := hw
  rcases Decidable.em (v1 = 7) with h | h7
  · obtain ⟨hw, -⟩ := hw
    have hw := hw h
    refine hq_tabIn (tgt := 103) 7 (by decide) C h dX12_count_1 (by decide) (by decide) rfl (by decide) ?_
    refine lv_aload_n hx hb dX12_count_103 rfl (lv_at hl 0 rfl) ?_
    refine hq_cV (n := 0) (ci := 12) (o := 0) (qc := (TX12, 57)) C hs (c_X12_waitingMany l C.2.2.2.2.1 _ _ hw) gX12_count_X12_waitingMany rfl ⟨rfl, rfl⟩ (by decide +kernel) ⟨Nat.le_of_ble_eq_true rfl, Nat.le_of_ble_eq_true rfl⟩ tkM_0 (by decide) rfl rfl hl.1 rfl (Nat.le_of_ble_eq_true rfl) dX12_count_104 (hq_ki (fun x8 M9 H locs rx8 hw hs => ?_))
    obtain ⟨e9, hw⟩ := hw; rw [e9] at hs
    exact hq_iret C hs rx8 ⟨rfl, hw⟩ dX12_count_107
  obtain ⟨-, hw⟩ := hw
  rcases Decidable.em (v1 = 8) with h | h8
  · obtain ⟨hw, -⟩ := hw
    have hw := hw h
    refine hq_tabIn (tgt := 108) 8 (by decide) C h dX12_count_1 (by decide) (by decide) rfl (by decide) ?_
    refine lv_aload_n hx hb dX12_count_108 rfl (lv_at hl 0 rfl) ?_
    refine hq_cV (n := 0) (ci := 12) (o := 0) (qc := (TX12, 57)) C hs (c_X12_risks l C.2.2.2.2.1 _ _ hw) gX12_count_X12_risks rfl ⟨rfl, rfl⟩ (by decide +kernel) ⟨Nat.le_of_ble_eq_true rfl, Nat.le_of_ble_eq_true rfl⟩ tkM_0 (by decide) rfl rfl hl.1 rfl (Nat.le_of_ble_eq_true rfl) dX12_count_109 (hq_ki (fun x9 M9 H locs rx9 hw hs => ?_))
    obtain ⟨e9, hw⟩ := hw; rw [e9] at hs
    exact hq_iret C hs rx9 ⟨rfl, hw⟩ dX12_count_112
  obtain ⟨-, hw⟩ := hw
  rcases Decidable.em (v1 = 9) with h | h9
  · obtain ⟨hw, -⟩ := hw
    have hw := hw h
    refine hq_tabIn (tgt := 113) 9 (by decide) C h dX12_count_1 (by decide) (by decide) rfl (by decide) ?_
    refine lv_aload_n hx hb dX12_count_113 rfl (lv_at hl 0 rfl) ?_
    refine hq_getI (o := 0) C hs fX12_count_277 tkM_0 (by decide) rfl dX12_count_114 (fun g10 => ?_)
    exact hq_iret C hs g10 ⟨rfl, hw⟩ dX12_count_117
  obtain ⟨-, hw⟩ := hw
  rcases Decidable.em (v1 = 10) with h | h10
  · obtain ⟨hw, -⟩ := hw
    have hw := hw h
    refine hq_tabIn (tgt := 118) 10 (by decide) C h dX12_count_1 (by decide) (by decide) rfl (by decide) ?_
    refine lv_aload_n hx hb dX12_count_118 rfl (lv_at hl 0 rfl) ?_
    refine hq_getI (o := 0) C hs fX12_count_361 tkM_0 (by decide) rfl dX12_count_119 (fun g11 => ?_)
    exact hq_iret C hs g11 ⟨rfl, hw⟩ dX12_count_122
  obtain ⟨-, hw⟩ := hw
  rcases Decidable.em (v1 = 11) with h | h11
  · obtain ⟨hw, -⟩ := hw
    have hw := hw h
    refine hq_tabIn (tgt := 123) 11 (by decide) C h dX12_count_1 (by decide) (by decide) rfl (by decide) ?_
    refine lv_aload_n hx hb dX12_count_123 rfl (lv_at hl 0 rfl) ?_
    refine hq_getI (o := 0) C hs fX12_count_325 tkM_0 (by decide) rfl dX12_count_124 (fun g12 => ?_)
    exact hq_iret C hs g12 ⟨rfl, hw⟩ dX12_count_127
  obtain ⟨-, hw⟩ := hw
  rcases Decidable.em (v1 = 12) with h | h12
  · obtain ⟨hw, -⟩ := hw
    have hw := hw h
    refine hq_tabIn (tgt := 128) 12 (by decide) C h dX12_count_1 (by decide) (by decide) rfl (by decide) ?_
    refine lv_aload_n hx hb dX12_count_128 rfl (lv_at hl 0 rfl) ?_
    refine hq_getI (o := 0) C hs fX12_count_135 tkM_0 (by decide) rfl dX12_count_129 (fun g13 => ?_)
    exact hq_iret C hs g13 ⟨rfl, hw⟩ dX12_count_132
  obtain ⟨-, hw⟩ := hw
  have hd9 : v1 < 0 ∨ 12 < v1 := by omega
  have hw := hw hd9
  refine hq_tabOut (tgt := 133) C rv1 dX12_count_1 hd9 (by decide) ?_
  refine hq_iconst C dX12_count_133 ?_
  exact hq_iret C hs (by decide : rg (-1)) ⟨rfl, hw⟩ dX12_count_134
