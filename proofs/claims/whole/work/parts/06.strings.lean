/-! ===== the four words that the reader of the text compares with: String constants ===== -/
def sTx : List (List Int) := [[116, 97, 98, 108, 101], [98, 108, 111, 99, 107, 101, 100], [115, 116, 105, 108, 108], [102, 105, 101, 108, 100]]
def sL (i : Nat) : Nat := (sTx.getD i []).length
def sC (i j : Nat) : Int := (sTx.getD i []).getD j 0
def hqLen : List Nat := [5, 7, 5, 5]
def hqByt : List (List Int32) := [[116, 97, 98, 108, 101], [98, 108, 111, 99, 107, 101, 100], [115, 116, 105, 108, 108], [102, 105, 101, 108, 100]]
/-- what the text's reader needs of the old cells and the tables -/
def hq_St (Z : State → Prop) (hqS hqV : Nat → Nat) (A : Nat → Prop) : Prop := ∀ s : State, Z s → vk_S 4 hqLen hqByt hqS hqV A s s.heap ∧ (vk_R RX4 49 "table" (hqS 0) s ∧ vk_R RX4 66 "blocked" (hqS 1) s ∧ vk_R RX4 71 "still" (hqS 2) s ∧ vk_R RX4 81 "field" (hqS 3) s) ∧ va_Z "java/lang/String" "COMPACT_STRINGS" "Z" (.int 1) A s s.heap ∧ va_Zq "jdk/internal/util/Preconditions" "SIOOBE_FORMATTER" "Ljava/util/function/BiFunction;" A s s.heap
theorem sL_len : ∀ i, i < 4 → hqLen.getD i 0 = sL i ∧ sL i ≤ 7 := by decide +kernel
theorem sC_chr : ∀ i, i < 4 → ∀ j, j < sL i → (((hqByt.getD i []).getD j 0 &&& 255).toUInt32 % 65536).toInt32 = w3 (sC i j) ∧ narrow .char (.int (w3 (sC i j))) = .int (w3 (sC i j)) ∧ 0 ≤ sC i j ∧ sC i j ≤ 255 := by decide +kernel
section HST
variable {p : Program} {l : Launch} {e : Env} {R : Room} {s : State} {m : MethodId} {args : Array Value} {below : List Frame} {meth : Method} {c : Code} {H : Heap} {locs : List Loc} {cells slots : Nat} {Q : State → Prop}
variable {cc : ByteArray} {pc nL : Nat} {ls : Array Slot} {rest : List Value} {Ts : List Cond} {own : String} {ret : Option FieldType} {D : va_G} {cA : Nat → ClassId} {B : Nat} {Z : State → Prop} {M : hq_M} {hqS hqV : Nat → Nat}
theorem hq_nret {k : Int → hq_M → Prop} {z : Int} {ty : FieldType} (C : hq_C vwCl p m c cc nL s args Ts own meth (some ty) D cA (hq_in B YC.length) Z) (hs : hq_S vwCl SLx D cA YC B s.heap M H locs) (hn : narrow ty (.int (w3 z)) = .int (w3 z)) (rz : rg z) (hk : k z M) (hdg : decode cc pc = .ok (.ireturn, 1)) : W p l e R s m args below meth c H locs cells slots (MQ below (hq_Q vwCl SLx D cA YC B (hq_qi k)) args s cells slots (hq_in B YC.length)) (F0 m pc ls [.int (w3 z)]) := by
  obtain ⟨⟨hx, hb, -, -, -⟩, hr, hlocks, -, -, -⟩ := C
  exact W.zret hx hb hr hn (fun t ht hW => ⟨⟨some (.int (w3 z)), M, rfl, ⟨z, rfl, rz, hk⟩, by rw [ht]; exact hs.1, hs.2.2⟩, hs.2.1.F ht⟩) hs.2.1.2.2 hdg
theorem hq_gets {C' n d : String} {v : Value} {index : Nat} (C : hq_C vwCl p m c cc nL s args Ts own meth ret D cA (hq_in B YC.length) Z) (hs : hq_S vwCl SLx D cA YC B s.heap M H locs) (hZ : va_Z C' n d v (hq_in B YC.length) s s.heap) (hl : Cond.fieldLink own index C' n d ∈ Ts) (hdg : decode cc pc = .ok (.getstatic index, 3)) (kk : W p l e R s m args below meth c H locs cells slots Q (F0 m (pc + 3) ls (v :: rest))) : W p l e R s m args below meth c H locs cells slots Q (F0 m pc ls rest) :=
  va_gets C.1.1 C.1.2.1 hZ hs.2.1 C.1.2.2.2.1 (C.1.2.2.2.2 _ hl) (fun _ h => h) hdg kk
theorem hq_sget {n d : String} {v : Value} {index q : Nat} (C : hq_C vwCl p m c cc nL s args Ts own meth ret D cA (hq_in B YC.length) Z) (hs : hq_S vwCl SLx D cA YC B s.heap M H locs) (hE : va_OF "java/lang/String" n d v q (hq_in B YC.length) s s.heap) (hl : Cond.fieldLink own index "java/lang/String" n d ∈ Ts) (hdg : decode cc pc = .ok (.getfield index, 3)) (kk : W p l e R s m args below meth c H locs cells slots Q (F0 m (pc + 3) ls (v :: rest))) : W p l e R s m args below meth c H locs cells slots Q (F0 m pc ls (.ref q :: rest)) :=
  vk_getf C.1.1 C.1.2.1 hE hs.2.1 C.1.2.2.2.1 (C.1.2.2.2.2 _ hl) (fun _ h => h) hdg kk
/-- a call on a String constant -/
theorem hq_cStr {Q' : Option Value → hq_M → Prop} {y : MethodName} {bytes : ByteArray} {maxL index n : Nat} {rt : Option FieldType} {ws ws' : List Cond} {rm : Room} {i : Nat} {As st0 : List Value} (hSt : hq_St Z hqS hqV (hq_in B YC.length)) (hi : i < 4) (C : hq_C vwCl p m c cc nL s args Ts own meth ret D cA (hq_in B YC.length) Z) (hs : hq_S vwCl SLx D cA YC B s.heap M H locs) (hM : hq_T vwCl SLx l y ws rm D cA YC B Z (.ref (hqS i) :: As) M Q') (g : GoodIn Ts (wsV own index RJ0 y ws)) (hw : ws = Cond.code y bytes maxL rt :: ws') (hrc : rm.cells = 0 ∧ rm.slots = 0) (hd : y.cls = RJ0 ∧ y.cls ≠ "java/lang/invoke/MethodHandle" ∧ y.cls ≠ "java/lang/invoke/VarHandle" ∧ (parseMethodDescriptor y.desc).map (fun d => d.parameters.length) = some n) (hR : rm.frames + 1 ≤ R.frames ∧ 8 + (maxL + 11) + rm.locals ≤ R.locals) (hn : As.length = n) (hl : ls.size = nL) (hst : st0 = As.reverse ++ .ref (hqS i) :: rest) (hrest : (rest.map fun v => v.category).sum ≤ 8) (hdg : decode cc pc = .ok (.invokevirtual index, 3))
    (kk : ∀ (v : Option Value) (M1 : hq_M) (H1 : Heap) (locs1 : List Loc), Q' v M1 → hq_S vwCl SLx D cA YC B s.heap M1 H1 locs1 → W p l e R s m args below meth c H1 locs1 0 0 Q (F0 m (pc + 3) ls (v.toList ++ rest))) : W p l e R s m args below meth c H locs 0 0 Q (F0 m pc ls st0) :=
  hq_go (va_runV (As := As) (rest := rest) C.1 hM (cwV n C.1.2.2.2.2 g hw hrc.1 hrc.2 hd hR) ⟨hq_blind C.2.2.2.2.1, vk_recv (hSt s C.2.2.2.2.2).1 hi hs.2.1, hq_pre C.2.2.2.1 C.2.2.2.2.1 C.2.2.2.2.2 hs⟩ rfl hn hl hst (lv_room hrest) hdg ⟨Nat.zero_le _, Nat.zero_le _⟩) hs kk
theorem hq_ldcS {tx : String} {i index : Nat} (C : hq_C vwCl p m c cc nL s args Ts own meth ret D cA (hq_in B YC.length) Z) (hR : vk_R own index tx (hqS i) s) (hdg : decode cc pc = .ok (.ldc index, 2)) (kk : W p l e R s m args below meth c H locs cells slots Q (F0 m (pc + 2) ls (.ref (hqS i) :: rest))) : W p l e R s m args below meth c H locs cells slots Q (F0 m pc ls rest) := va_ldcS C.1.1 C.1.2.1 C.1.2.2.2.1 hR hdg kk
end HST
abbrev rm_0 : Room := { frames := 0, cells := 0, slots := 0, locals := 0 }
set_option maxHeartbeats 4000000 in
set_option maxRecDepth 100000 in
theorem c_J0_coder (l : Launch) {D : va_G} {cA : Nat → ClassId} {B : Nat} {Z : State → Prop} {hqS hqV : Nat → Nat} (hZ : hq_Zo Z (hq_in B YC.length)) (hSt : hq_St Z hqS hqV (hq_in B YC.length)) (i : Nat) (hi : i < 4) (M : hq_M) : hq_T vwCl SLx l yJ0_coder_7d493 wsJ0_coder_7d493 rm_0 D cA YC B Z [.ref (hqS i)] M (hq_qi (fun z M' => M' = M ∧ z = 0)) := by
  refine hq_meth (cc := cJ0_coder_7d493) (maxL := 1) (ret := (some .byte)) (own := RJ0) hZ rfl (by decide +kernel) rfl (Nat.le_of_ble_eq_true rfl) ?_
  intro p e s m below meth c ls C hs hl
  have hx := C.1.1
  have hb := C.1.2.1
  have hl : lv_has ls 1 [(0, .ref (hqS i))] := hl
  obtain ⟨hS1, -, hC1, -⟩ := hSt s C.2.2.2.2.2
  refine hq_gets C hs hC1 (by decide +kernel) dJ0_coder_7d493_0 ?_
  refine hq_if_eq (x := 1) (tgt := 13) C (by decide) dJ0_coder_7d493_3 (by decide) (fun h => absurd h (by decide)) (fun _ => ?_)
  refine lv_aload_n hx hb dJ0_coder_7d493_6 rfl (lv_at hl 0 rfl) ?_
  refine hq_sget C hs (hS1.1 i hi).2.1 (by decide +kernel) dJ0_coder_7d493_7 ?_
  refine hq_goto (tgt := 14) C dJ0_coder_7d493_10 (by decide) ?_
  exact hq_nret (z := 0) C hs (by decide) (by decide) ⟨rfl, rfl⟩ dJ0_coder_7d493_14
set_option maxHeartbeats 4000000 in
set_option maxRecDepth 100000 in
theorem c_J0_length (l : Launch) {D : va_G} {cA : Nat → ClassId} {B : Nat} {Z : State → Prop} {hqS hqV : Nat → Nat} (hZ : hq_Zo Z (hq_in B YC.length)) (hSt : hq_St Z hqS hqV (hq_in B YC.length)) (i : Nat) (hi : i < 4) (M : hq_M) : hq_T vwCl SLx l yJ0_length_8abf5 wsJ0_length_8abf5 ({ frames := 1, cells := 0, slots := 0, locals := 20 } : Room) D cA YC B Z [.ref (hqS i)] M (hq_qi (fun z M' => M' = M ∧ z = (sL i : Int))) := by
  refine hq_meth (cc := cJ0_length_8abf5) (maxL := 1) (ret := (some .int)) (own := RJ0) hZ rfl (by decide +kernel) rfl (Nat.le_of_ble_eq_true rfl) ?_
  intro p e s m below meth c ls C hs hl
  have hx := C.1.1
  have hb := C.1.2.1
  have hl : lv_has ls 1 [(0, .ref (hqS i))] := hl
  obtain ⟨hS1, -, hC1, -⟩ := hSt s C.2.2.2.2.2
  obtain ⟨el, el7⟩ := sL_len i hi
  refine lv_aload_n hx hb dJ0_length_8abf5_0 rfl (lv_at hl 0 rfl) ?_
  refine hq_sget C hs (hS1.1 i hi).2.2.1 (by decide +kernel) dJ0_length_8abf5_1 ?_
  refine va_tlen hx hb (hS1.1 i hi).2.2.2 hs.2.1 (v := w3 (sL i : Int)) (by rw [el]; rfl) dJ0_length_8abf5_4 ?_
  refine lv_aload_n hx hb dJ0_length_8abf5_5 rfl (lv_at hl 0 rfl) ?_
  refine hq_cStr (n := 0) hSt hi C hs (c_J0_coder l hZ hSt i hi M) gJ0_length_8abf5_J0_coder_7d493 rfl ⟨rfl, rfl⟩ (by decide +kernel) ⟨Nat.le_of_ble_eq_true rfl, Nat.le_of_ble_eq_true rfl⟩ rfl hl.1 rfl (Nat.le_of_ble_eq_true rfl) dJ0_length_8abf5_6 (hq_ki (fun z M9 H locs rz hw hs => ?_))
  obtain ⟨hw1, rfl⟩ := hw
  rw [hw1] at hs
  have r1 : rg (sL i : Int) := ⟨by omega, by omega⟩
  refine hq_ishr (n := 1) 0 C (by decide) r1 (by omega) dJ0_length_8abf5_9 ?_
  rw [Int.ediv_one]
  exact hq_iret C hs r1 ⟨rfl, rfl⟩ dJ0_length_8abf5_10
set_option maxHeartbeats 4000000 in
set_option maxRecDepth 100000 in
theorem c_J0_isLatin1 (l : Launch) {D : va_G} {cA : Nat → ClassId} {B : Nat} {Z : State → Prop} {hqS hqV : Nat → Nat} (hZ : hq_Zo Z (hq_in B YC.length)) (hSt : hq_St Z hqS hqV (hq_in B YC.length)) (i : Nat) (hi : i < 4) (M : hq_M) : hq_T vwCl SLx l yJ0_isLatin1_aae02 wsJ0_isLatin1_aae02 rm_0 D cA YC B Z [.ref (hqS i)] M (hq_qz (fun z M' => M' = M ∧ z = 1)) := by
  refine hq_meth (cc := cJ0_isLatin1_aae02) (maxL := 1) (ret := (some .boolean)) (own := RJ0) hZ rfl (by decide +kernel) rfl (Nat.le_of_ble_eq_true rfl) ?_
  intro p e s m below meth c ls C hs hl
  have hx := C.1.1
  have hb := C.1.2.1
  have hl : lv_has ls 1 [(0, .ref (hqS i))] := hl
  obtain ⟨hS1, -, hC1, -⟩ := hSt s C.2.2.2.2.2
  refine hq_gets C hs hC1 (by decide +kernel) dJ0_isLatin1_aae02_0 ?_
  refine hq_if_eq (x := 1) (tgt := 17) C (by decide) dJ0_isLatin1_aae02_3 (by decide) (fun h => absurd h (by decide)) (fun _ => ?_)
  refine lv_aload_n hx hb dJ0_isLatin1_aae02_6 rfl (lv_at hl 0 rfl) ?_
  refine hq_sget C hs (hS1.1 i hi).2.1 (by decide +kernel) dJ0_isLatin1_aae02_7 ?_
  refine hq_if_ne (x := 0) (tgt := 17) C (by decide) dJ0_isLatin1_aae02_10 (by decide) (fun h => absurd rfl h) (fun _ => ?_)
  refine hq_iconst C dJ0_isLatin1_aae02_13 ?_
  refine hq_goto (tgt := 18) C dJ0_isLatin1_aae02_14 (by decide) ?_
  exact hq_zret (z := 1) C hs (by decide) ⟨rfl, rfl⟩ dJ0_isLatin1_aae02_18
set_option maxHeartbeats 4000000 in
set_option maxRecDepth 100000 in
theorem c_J3_checkIndex (l : Launch) {D : va_G} {cA : Nat → ClassId} {B : Nat} {Z : State → Prop} (hZ : hq_Zo Z (hq_in B YC.length)) (a b : Int) (ra : rg a) (rb : rg b) (hab : 0 ≤ a ∧ a < b) (t : Nat) (M : hq_M) : hq_T vwCl SLx l yJ3_checkIndex_8e157 wsJ3_checkIndex_8e157 rm_0 D cA YC B Z [.int (w3 a), .int (w3 b), .ref t] M (hq_qi (fun z M' => M' = M ∧ z = a)) := by
  refine hq_meth (cc := cJ3_checkIndex_8e157) (maxL := 3) (ret := (some .int)) (own := RJ3) hZ rfl (by decide +kernel) rfl (Nat.le_of_ble_eq_true rfl) ?_
  intro p e s m below meth c ls C hs hl
  have hx := C.1.1
  have hb := C.1.2.1
  have hl : lv_has ls 3 [(0, .int (w3 a)), (1, .int (w3 b)), (2, .ref t)] := hl
  refine lv_iload_n hx hb dJ3_checkIndex_8e157_0 rfl (lv_at hl 0 rfl) ?_
  refine hq_if_lt (tgt := 9) C ra dJ3_checkIndex_8e157_1 (by decide) (fun h => by omega) (fun _ => ?_)
  refine lv_iload_n hx hb dJ3_checkIndex_8e157_4 rfl (lv_at hl 0 rfl) ?_
  refine lv_iload_n hx hb dJ3_checkIndex_8e157_5 rfl (lv_at hl 1 rfl) ?_
  refine hq_icmp_lt (tgt := 16) C ra rb dJ3_checkIndex_8e157_6 (by decide) (fun _ => ?_) (fun h => by omega)
  refine lv_iload_n hx hb dJ3_checkIndex_8e157_16 rfl (lv_at hl 0 rfl) ?_
  exact hq_iret C hs ra ⟨rfl, rfl⟩ dJ3_checkIndex_8e157_17
set_option maxHeartbeats 4000000 in
set_option maxRecDepth 100000 in
theorem c_J3_checkIndexN (l : Launch) {D : va_G} {cA : Nat → ClassId} {B : Nat} {Z : State → Prop} (hZ : hq_Zo Z (hq_in B YC.length)) (a b : Int) (ra : rg a) (rb : rg b) (hab : 0 ≤ a ∧ a < b) (M : hq_M) : hq_T vwCl SLx l yJ3_checkIndex_8e157 wsJ3_checkIndex_8e157 rm_0 D cA YC B Z [.int (w3 a), .int (w3 b), .null] M (hq_qi (fun z M' => M' = M ∧ z = a)) := by
  refine hq_meth (cc := cJ3_checkIndex_8e157) (maxL := 3) (ret := (some .int)) (own := RJ3) hZ rfl (by decide +kernel) rfl (Nat.le_of_ble_eq_true rfl) ?_
  intro p e s m below meth c ls C hs hl
  have hx := C.1.1
  have hb := C.1.2.1
  have hl : lv_has ls 3 [(0, .int (w3 a)), (1, .int (w3 b)), (2, .null)] := hl
  refine lv_iload_n hx hb dJ3_checkIndex_8e157_0 rfl (lv_at hl 0 rfl) ?_
  refine hq_if_lt (tgt := 9) C ra dJ3_checkIndex_8e157_1 (by decide) (fun h => by omega) (fun _ => ?_)
  refine lv_iload_n hx hb dJ3_checkIndex_8e157_4 rfl (lv_at hl 0 rfl) ?_
  refine lv_iload_n hx hb dJ3_checkIndex_8e157_5 rfl (lv_at hl 1 rfl) ?_
  refine hq_icmp_lt (tgt := 16) C ra rb dJ3_checkIndex_8e157_6 (by decide) (fun _ => ?_) (fun h => by omega)
  refine lv_iload_n hx hb dJ3_checkIndex_8e157_16 rfl (lv_at hl 0 rfl) ?_
  exact hq_iret C hs ra ⟨rfl, rfl⟩ dJ3_checkIndex_8e157_17
set_option maxHeartbeats 4000000 in
set_option maxRecDepth 100000 in
theorem c_J0_checkIndex (l : Launch) {D : va_G} {cA : Nat → ClassId} {B : Nat} {Z : State → Prop} {hqS hqV : Nat → Nat} (hZ : hq_Zo Z (hq_in B YC.length)) (hSt : hq_St Z hqS hqV (hq_in B YC.length)) (a b : Int) (ra : rg a) (rb : rg b) (hab : 0 ≤ a ∧ a < b) (M : hq_M) : hq_T vwCl SLx l yJ0_checkIndex_df160 wsJ0_checkIndex_df160 ({ frames := 1, cells := 0, slots := 0, locals := 22 } : Room) D cA YC B Z [.int (w3 a), .int (w3 b)] M (hq_qv (fun M' => M' = M)) := by
  refine hq_meth (cc := cJ0_checkIndex_df160) (maxL := 2) (ret := none) (own := RJ0) hZ rfl (by decide +kernel) rfl (Nat.le_of_ble_eq_true rfl) ?_
  intro p e s m below meth c ls C hs hl
  have hx := C.1.1
  have hb := C.1.2.1
  have hl : lv_has ls 2 [(0, .int (w3 a)), (1, .int (w3 b))] := hl
  obtain ⟨-, -, -, hT | ⟨t, hT⟩⟩ := hSt s C.2.2.2.2.2
  · refine lv_iload_n hx hb dJ0_checkIndex_df160_0 rfl (lv_at hl 0 rfl) ?_
    refine lv_iload_n hx hb dJ0_checkIndex_df160_1 rfl (lv_at hl 1 rfl) ?_
    refine hq_gets C hs hT (by decide +kernel) dJ0_checkIndex_df160_2 ?_
    refine hq_cS (n := 3) C hs (c_J3_checkIndexN l hZ a b ra rb hab M) gJ0_checkIndex_df160_J3_checkIndex_8e157 rfl ⟨rfl, rfl⟩ (by decide +kernel) ⟨Nat.le_of_ble_eq_true rfl, Nat.le_of_ble_eq_true rfl⟩ rfl hl.1 rfl (Nat.le_of_ble_eq_true rfl) dJ0_checkIndex_df160_5 (hq_ki (fun z M9 H locs rz hw hs => ?_))
    obtain ⟨hw1, -⟩ := hw
    rw [hw1] at hs
    refine lv_pop hx hb dJ0_checkIndex_df160_8 rfl ?_
    exact hq_vret C hs rfl dJ0_checkIndex_df160_9
  · refine lv_iload_n hx hb dJ0_checkIndex_df160_0 rfl (lv_at hl 0 rfl) ?_
    refine lv_iload_n hx hb dJ0_checkIndex_df160_1 rfl (lv_at hl 1 rfl) ?_
    refine hq_gets C hs hT (by decide +kernel) dJ0_checkIndex_df160_2 ?_
    refine hq_cS (n := 3) C hs (c_J3_checkIndex l hZ a b ra rb hab t M) gJ0_checkIndex_df160_J3_checkIndex_8e157 rfl ⟨rfl, rfl⟩ (by decide +kernel) ⟨Nat.le_of_ble_eq_true rfl, Nat.le_of_ble_eq_true rfl⟩ rfl hl.1 rfl (Nat.le_of_ble_eq_true rfl) dJ0_checkIndex_df160_5 (hq_ki (fun z M9 H locs rz hw hs => ?_))
    obtain ⟨hw1, -⟩ := hw
    rw [hw1] at hs
    refine lv_pop hx hb dJ0_checkIndex_df160_8 rfl ?_
    exact hq_vret C hs rfl dJ0_checkIndex_df160_9
set_option maxHeartbeats 4000000 in
set_option maxRecDepth 100000 in
theorem c_J1_charAt (l : Launch) {D : va_G} {cA : Nat → ClassId} {B : Nat} {Z : State → Prop} {hqS hqV : Nat → Nat} (hZ : hq_Zo Z (hq_in B YC.length)) (hSt : hq_St Z hqS hqV (hq_in B YC.length)) (i : Nat) (hi : i < 4) (j : Int) (rj : rg j) (hj : 0 ≤ j ∧ j < (sL i : Int)) (M : hq_M) : hq_T vwCl SLx l yJ1_charAt_3b067 wsJ1_charAt_3b067 ({ frames := 2, cells := 0, slots := 0, locals := 43 } : Room) D cA YC B Z [.ref (hqV i), .int (w3 j)] M (hq_qi (fun z M' => M' = M ∧ z = sC i j.toNat)) := by
  refine hq_meth (cc := cJ1_charAt_3b067) (maxL := 2) (ret := (some .char)) (own := RJ1) hZ rfl (by decide +kernel) rfl (Nat.le_of_ble_eq_true rfl) ?_
  intro p e s m below meth c ls C hs hl
  have hx := C.1.1
  have hb := C.1.2.1
  have hl : lv_has ls 2 [(0, .ref (hqV i)), (1, .int (w3 j))] := hl
  obtain ⟨hS1, -, -, -⟩ := hSt s C.2.2.2.2.2
  obtain ⟨el, el7⟩ := sL_len i hi
  have r1 : rg (sL i : Int) := ⟨by omega, by omega⟩
  refine lv_iload_n hx hb dJ1_charAt_3b067_0 rfl (lv_at hl 1 rfl) ?_
  refine lv_aload_n hx hb dJ1_charAt_3b067_1 rfl (lv_at hl 0 rfl) ?_
  refine va_tlen hx hb (hS1.1 i hi).2.2.2 hs.2.1 (v := w3 (sL i : Int)) (by rw [el]; rfl) dJ1_charAt_3b067_2 ?_
  refine hq_cS (n := 2) C hs (c_J0_checkIndex l hZ hSt j (sL i : Int) rj r1 hj M) gJ1_charAt_3b067_J0_checkIndex_df160 rfl ⟨rfl, rfl⟩ (by decide +kernel) ⟨Nat.le_of_ble_eq_true rfl, Nat.le_of_ble_eq_true rfl⟩ rfl hl.1 rfl (Nat.le_of_ble_eq_true rfl) dJ1_charAt_3b067_3 (hq_kv (fun M9 H locs hw hs => ?_))
  rw [hw] at hs
  refine lv_aload_n hx hb dJ1_charAt_3b067_6 rfl (lv_at hl 0 rfl) ?_
  refine lv_iload_n hx hb dJ1_charAt_3b067_7 rfl (lv_at hl 1 rfl) ?_
  obtain ⟨q1, q2, q3, q4⟩ := sC_chr i hi j.toNat (by omega)
  refine va_tb hx hb (hS1.1 i hi).2.2.2 hs.2.1 (i := w3 j) (v := .int ((hqByt.getD i []).getD j.toNat 0)) (by rw [el]; exact w3_in rj hj.1 hj.2) (by rw [w3_clamp rj]) dJ1_charAt_3b067_8 ?_
  refine lv_sipush hx hb dJ1_charAt_3b067_9 (v := 255) (by decide) ?_
  refine lv_iand hx hb dJ1_charAt_3b067_12 ?_
  refine lv_i2c hx hb dJ1_charAt_3b067_13 q1 ?_
  exact hq_nret C hs q2 ⟨by omega, by omega⟩ ⟨rfl, rfl⟩ dJ1_charAt_3b067_14
set_option maxHeartbeats 4000000 in
set_option maxRecDepth 100000 in
theorem c_J0_charAt (l : Launch) {D : va_G} {cA : Nat → ClassId} {B : Nat} {Z : State → Prop} {hqS hqV : Nat → Nat} (hZ : hq_Zo Z (hq_in B YC.length)) (hSt : hq_St Z hqS hqV (hq_in B YC.length)) (i : Nat) (hi : i < 4) (j : Int) (rj : rg j) (hj : 0 ≤ j ∧ j < (sL i : Int)) (M : hq_M) : hq_T vwCl SLx l yJ0_charAt_5068e wsJ0_charAt_5068e ({ frames := 3, cells := 0, slots := 0, locals := 64 } : Room) D cA YC B Z [.ref (hqS i), .int (w3 j)] M (hq_qi (fun z M' => M' = M ∧ z = sC i j.toNat)) := by
  refine hq_meth (cc := cJ0_charAt_5068e) (maxL := 2) (ret := (some .char)) (own := RJ0) hZ rfl (by decide +kernel) rfl (Nat.le_of_ble_eq_true rfl) ?_
  intro p e s m below meth c ls C hs hl
  have hx := C.1.1
  have hb := C.1.2.1
  have hl : lv_has ls 2 [(0, .ref (hqS i)), (1, .int (w3 j))] := hl
  obtain ⟨hS1, -, -, -⟩ := hSt s C.2.2.2.2.2
  refine lv_aload_n hx hb dJ0_charAt_5068e_0 rfl (lv_at hl 0 rfl) ?_
  refine hq_cStr (n := 0) hSt hi C hs (c_J0_isLatin1 l hZ hSt i hi M) gJ0_charAt_5068e_J0_isLatin1_aae02 rfl ⟨rfl, rfl⟩ (by decide +kernel) ⟨Nat.le_of_ble_eq_true rfl, Nat.le_of_ble_eq_true rfl⟩ rfl hl.1 rfl (Nat.le_of_ble_eq_true rfl) dJ0_charAt_5068e_1 (hq_kz (fun z M9 H locs rz hw hs => ?_))
  obtain ⟨hw1, rfl⟩ := hw
  rw [hw1] at hs
  refine hq_if_eq (x := 1) (tgt := 16) C (by decide) dJ0_charAt_5068e_4 (by decide) (fun h => absurd h (by decide)) (fun _ => ?_)
  refine lv_aload_n hx hb dJ0_charAt_5068e_7 rfl (lv_at hl 0 rfl) ?_
  refine hq_sget C hs (hS1.1 i hi).2.2.1 (by decide +kernel) dJ0_charAt_5068e_8 ?_
  refine lv_iload_n hx hb dJ0_charAt_5068e_11 rfl (lv_at hl 1 rfl) ?_
  refine hq_cS (n := 2) C hs (c_J1_charAt l hZ hSt i hi j rj hj _) gJ0_charAt_5068e_J1_charAt_3b067 rfl ⟨rfl, rfl⟩ (by decide +kernel) ⟨Nat.le_of_ble_eq_true rfl, Nat.le_of_ble_eq_true rfl⟩ rfl hl.1 rfl (Nat.le_of_ble_eq_true rfl) dJ0_charAt_5068e_12 (hq_ki (fun z M8 H locs rz hw hs => ?_))
  obtain ⟨hw1, rfl⟩ := hw
  rw [hw1] at hs
  obtain ⟨q1, q2, q3, q4⟩ := sC_chr i hi j.toNat (by omega)
  exact hq_nret C hs q2 ⟨by omega, by omega⟩ ⟨rfl, rfl⟩ dJ0_charAt_5068e_15
