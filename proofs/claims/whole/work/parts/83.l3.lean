/-! ===== the law: the old cells, the two worlds side by side, its calls ===== -/
theorem l_SF {A0 A1 : Nat → Prop} {H0 H H1 : Heap} {locs L : List Loc} (hS : va_S A0 H0 H locs) (hA : ∀ q, A1 q → A0 q) (hz : H.size ≤ H1.size) (hk : ∀ q : Nat, q < H.size → ¬ A1 q → H1[q]? = H[q]?) (hL : ∀ q ∈ L, A1 q.base) : va_S A0 H0 H1 (locs ++ L) := by
  refine ⟨Nat.le_trans hS.1 hz, fun q h1 h2 => (hk q (Nat.lt_of_lt_of_le h1 hS.1) (fun e => h2 (hA q e))).trans (hS.2.1 q h1 h2), fun q hq => ?_⟩
  rcases List.mem_append.mp hq with h4 | h4
  · exact hS.2.2 q h4
  · exact hA _ (hL q h4)
def l_Z (hqS hqV : Nat → Nat) (B : Nat) (U : State) : Prop := k_Z U ∧ vk_S 4 hqLen hqByt hqS hqV (fun q => B ≤ q) U U.heap ∧ (vk_R RX4 49 "table" (hqS 0) U ∧ vk_R RX4 66 "blocked" (hqS 1) U ∧ vk_R RX4 71 "still" (hqS 2) U ∧ vk_R RX4 81 "field" (hqS 3) U) ∧ va_Z "java/lang/String" "COMPACT_STRINGS" "Z" (.int 1) (fun q => B ≤ q) U U.heap ∧ va_Zq "jdk/internal/util/Preconditions" "SIOOBE_FORMATTER" "Ljava/util/function/BiFunction;" (fun q => B ≤ q) U U.heap
theorem l_Zo {hqS hqV : Nat → Nat} {B : Nat} {A : Nat → Prop} (hA : ∀ q, A q → B ≤ q) : hq_Zo (l_Z hqS hqV B) A := by
  refine ⟨fun u U hv hh z => ?_, fun s U hW hk z => ?_⟩
  · obtain ⟨z1, z2, ⟨r1, r2, r3, r4⟩, z4, z5⟩ := z
    have ha : u.vm.Alike U.vm := by rw [hv]; exact Vm.Alike.refl _
    refine ⟨k_Zv hv z1, ?_, ⟨vk_R.same hv r1, vk_R.same hv r2, vk_R.same hv r3, vk_R.same hv r4⟩, ?_, ?_⟩
    · rw [hh]; exact z2.moved ha
    · rw [hh]; exact z4.moved ha
    · rw [hh]; exact z5.moved ha
  · obtain ⟨z1, z2, ⟨r1, r2, r3, r4⟩, z4, z5⟩ := z
    have hk' : ∀ a : Nat, a < s.heap.size → ¬ (B ≤ a) → U.heap[a]? = s.heap[a]? := fun a h1 h2 => hk a h1 (fun h3 => h2 (hA a h3))
    exact ⟨k_Zw hW z1, (z2.moved hW.alike).kept hk', ⟨r1.warm hW, r2.warm hW, r3.warm hW, r4.warm hW⟩, (z4.moved hW.alike).kept hk', (z5.moved hW.alike).kept hk'⟩
theorem l_St {hqS hqV : Nat → Nat} {B : Nat} : hq_St (l_Z hqS hqV B) hqS hqV (hq_in B YC.length) := fun s z => ⟨z.2.1.narrow (fun q h => h.1), z.2.2.1, z.2.2.2.1.narrow (fun q h => h.1), z.2.2.2.2.narrow (fun q h => h.1)⟩
def l_S (D : va_G) (cA : Nat → ClassId) (B : Nat) (C M : hq_M) (H0 H : Heap) (locs : List Loc) : Prop := va_P D vwCl (hq_ws SLx cA YC B C) H ∧ va_P D vwCl (hq_ws SLx cA YM (B + 410) M) H ∧ hq_vd SLx YC C ∧ hq_vd SLx YM M ∧ va_S (fun q => B ≤ q) H0 H locs
def l_C (p : Program) (m : MethodId) (c : Code) (s : State) (b : Nat) (meth : Method) (D : va_G) (cA : Nat → ClassId) (hqS hqV : Nat → Nat) (B : Nat) : Prop := hq_C vwCl p m c code 4 s #[Value.ref b] wsL_B RL meth ret D cA (fun q => B ≤ q) (l_Z hqS hqV B)
theorem l_inC {B q : Nat} (h : hq_in B YC.length q) : B ≤ q := h.1
theorem l_inM {B q : Nat} (h : hq_in (B + 410) YM.length q) : B ≤ q := by have := h.1; omega
section LAWC
variable {p : Program} {l : Launch} {e : Env} {s : State} {m : MethodId} {below : List Frame} {meth : Method} {c : Code} {H : Heap} {locs : List Loc} {Q : State → Prop}
variable {pc b : Nat} {ls : Array Slot} {rest : List Value} {D : va_G} {cA : Nat → ClassId} {hqS hqV : Nat → Nat} {B : Nat} {C M : hq_M}
theorem l_cC {Q' : Option Value → hq_M → Prop} {y : MethodName} {bytes : ByteArray} {maxL index n : Nat} {rt : Option FieldType} {ws ws' : List Cond} {rm : Room} {As st0 : List Value} (LC : l_C p m c s b meth D cA hqS hqV B) (h : l_S D cA B C M s.heap H locs) (hM : hq_T vwCl SLx l y ws rm D cA YC B (l_Z hqS hqV B) (.ref (B + 0) :: As) C Q') (g : GoodIn wsL_B (wsV RL index RX11 y ws)) (hw : ws = Cond.code y bytes maxL rt :: ws') (hrc : rm.cells = 0 ∧ rm.slots = 0) (hd : y.cls = RX11 ∧ y.cls ≠ "java/lang/invoke/MethodHandle" ∧ y.cls ≠ "java/lang/invoke/VarHandle" ∧ (parseMethodDescriptor y.desc).map (fun d => d.parameters.length) = some n) (hR : rm.frames + 1 ≤ room_1.frames ∧ 8 + (maxL + 11) + rm.locals ≤ room_1.locals) (hn : As.length = n) (hl : ls.size = 4) (hst : st0 = As.reverse ++ .ref (B + 0) :: rest) (hrest : (rest.map fun v => v.category).sum ≤ 8) (hdg : decode code pc = .ok (.invokevirtual index, 3))
    (kk : ∀ (v : Option Value) (C1 : hq_M) (H1 : Heap) (locs1 : List Loc), Q' v C1 → l_S D cA B C1 M s.heap H1 locs1 → W p l e room_1 s m #[Value.ref b] below meth c H1 locs1 444 15984 Q (F0 m (pc + 3) ls (v.toList ++ rest))) : W p l e room_1 s m #[Value.ref b] below meth c H locs 444 15984 Q (F0 m pc ls st0) := by
  obtain ⟨hP, hPM, hV, hVM, hS⟩ := h
  have hat : (hq_ws SLx cA YC B C)[0]? = some (B + 0, .inr (11, (SLx 11).zipIdx.map (fun t => hq_val B C 0 t.2 t.1))) := by rw [hq_ws_at SLx cA B C tkC_0, hq_cel_o (by decide)]
  refine g_go (va_runV (As := As) (rest := rest) LC.1 hM (cwV n LC.1.2.2.2.2 g hw hrc.1 hrc.2 hd hR) ⟨hq_blind (l_Zo (A := fun q => B ≤ q) (fun _ h => h)), va_recv LC.2.2.2.1 hP rfl hat, fun U hU hW => ⟨rfl, by rw [hU]; exact hP, va_K.moved hW.alike LC.2.2.2.1, hV, LC.2.2.2.2.1.2 s U hW (fun q h1 h2 => by rw [hU]; exact hS.2.1 q h1 h2) LC.2.2.2.2.2⟩⟩ rfl hn hl hst (lv_room hrest) hdg ⟨Nat.le_of_ble_eq_true rfl, Nat.le_of_ble_eq_true rfl⟩) (fun v st₀ t L h0 hq hL => ?_)
  obtain ⟨⟨v', C1, hv, hq1, hP1, hV1⟩, hz1, hk1⟩ := hq
  cases hv
  rw [h0] at hz1 hk1
  exact kk v C1 t.heap (locs ++ L) hq1 ⟨hP1, hPM.kept (fun k x hx => hk1 x.1 ((hPM k x hx).lt) (fun e => by
    obtain ⟨q1, h1, rfl⟩ := hq_ws_of hx
    have := e.2
    rw [YC_len] at this
    simp only at this
    omega)), hV1, hVM, l_SF hS (fun q hq => hq.1) hz1 hk1 hL⟩
theorem l_cM {Q' : Option Value → hq_M → Prop} {y : MethodName} {bytes : ByteArray} {maxL index n : Nat} {rt : Option FieldType} {ws ws' : List Cond} {rm : Room} {As st0 : List Value} (LC : l_C p m c s b meth D cA hqS hqV B) (h : l_S D cA B C M s.heap H locs) (hM : hq_T vwCl SLx l y ws rm D cA YM (B + 410) (l_Z hqS hqV B) (.ref (B + 410 + 0) :: As) M Q') (g : GoodIn wsL_B (wsV RL index RX12 y ws)) (hw : ws = Cond.code y bytes maxL rt :: ws') (hrc : rm.cells = 0 ∧ rm.slots = 0) (hd : y.cls = RX12 ∧ y.cls ≠ "java/lang/invoke/MethodHandle" ∧ y.cls ≠ "java/lang/invoke/VarHandle" ∧ (parseMethodDescriptor y.desc).map (fun d => d.parameters.length) = some n) (hR : rm.frames + 1 ≤ room_1.frames ∧ 8 + (maxL + 11) + rm.locals ≤ room_1.locals) (hn : As.length = n) (hl : ls.size = 4) (hst : st0 = As.reverse ++ .ref (B + 410 + 0) :: rest) (hrest : (rest.map fun v => v.category).sum ≤ 8) (hdg : decode code pc = .ok (.invokevirtual index, 3))
    (kk : ∀ (v : Option Value) (M1 : hq_M) (H1 : Heap) (locs1 : List Loc), Q' v M1 → l_S D cA B C M1 s.heap H1 locs1 → W p l e room_1 s m #[Value.ref b] below meth c H1 locs1 444 15984 Q (F0 m (pc + 3) ls (v.toList ++ rest))) : W p l e room_1 s m #[Value.ref b] below meth c H locs 444 15984 Q (F0 m pc ls st0) := by
  obtain ⟨hP, hPM, hV, hVM, hS⟩ := h
  have hat : (hq_ws SLx cA YM (B + 410) M)[0]? = some (B + 410 + 0, .inr (12, (SLx 12).zipIdx.map (fun t => hq_val (B + 410) M 0 t.2 t.1))) := by rw [hq_ws_at SLx cA (B + 410) M (show YM[0]? = some (12, 0) by decide +kernel), hq_cel_o (by decide)]
  refine g_go (va_runV (As := As) (rest := rest) LC.1 hM (cwV n LC.1.2.2.2.2 g hw hrc.1 hrc.2 hd hR) ⟨hq_blind (l_Zo (A := fun q => B ≤ q) (fun _ h => h)), va_recv LC.2.2.2.1 hPM rfl hat, fun U hU hW => ⟨rfl, by rw [hU]; exact hPM, va_K.moved hW.alike LC.2.2.2.1, hVM, LC.2.2.2.2.1.2 s U hW (fun q h1 h2 => by rw [hU]; exact hS.2.1 q h1 h2) LC.2.2.2.2.2⟩⟩ rfl hn hl hst (lv_room hrest) hdg ⟨Nat.le_of_ble_eq_true rfl, Nat.le_of_ble_eq_true rfl⟩) (fun v st₀ t L h0 hq hL => ?_)
  obtain ⟨⟨v', M1, hv, hq1, hP1, hV1⟩, hz1, hk1⟩ := hq
  cases hv
  rw [h0] at hz1 hk1
  exact kk v M1 t.heap (locs ++ L) hq1 ⟨hP.kept (fun k x hx => hk1 x.1 ((hP k x hx).lt) (fun e => by
    obtain ⟨q1, h1, rfl⟩ := hq_ws_of hx
    have h2 := (List.getElem?_eq_some_iff.mp h1).1
    rw [YC_len] at h2
    have := e.1
    simp only at this
    omega)), hP1, hV, hV1, l_SF hS (fun q hq => l_inM hq) hz1 hk1 hL⟩
theorem l_arg {L i k : Nat} {xs : Nat → Int32} (LC : l_C p m c s b meth D cA hqS hqV B) (h : l_S D cA B C M s.heap H locs) (hX : va_X b L xs s s.heap) (hb : b < s.heap.size ∧ b < B) (hl : lv_has ls 4 [(3, .int (w3 (i : Int))), (2, .ref (B + 410 + 0)), (1, .ref (B + 0)), (0, .ref b)]) (hik : i + k < L) (hL : L ≤ 2560) (d0 : decode code pc = .ok (.aload_n 0, 1)) (d1 : decode code (pc + 1) = .ok (.iload_n 3, 1)) (d2 : decode code (pc + 1 + 1) = .ok (.iconst (k : Int), 1)) (d3 : decode code (pc + 1 + 1 + 1) = .ok (.iadd, 1)) (d4 : decode code (pc + 1 + 1 + 1 + 1) = .ok (.iaload, 1))
    (kk : W p l e room_1 s m #[Value.ref b] below meth c H locs 444 15984 Q (F0 m (pc + 1 + 1 + 1 + 1 + 1) ls (.int (w3 (xs (i + k)).toInt) :: rest))) : W p l e room_1 s m #[Value.ref b] below meth c H locs 444 15984 Q (F0 m pc ls rest) := by
  have hx := LC.1.1
  have hbc := LC.1.2.1
  refine lv_aload_n hx hbc d0 rfl (lv_at hl 3 rfl) ?_
  refine lv_iload_n hx hbc d1 rfl (lv_at hl 0 rfl) ?_
  refine hq_iconst LC d2 ?_
  refine hq_iadd LC d3 ?_
  have hr : rg ((i : Int) + (k : Int)) := ⟨by omega, by omega⟩
  refine va_sld hx hbc hX hb.1 (fun e => by have : B ≤ b := e; omega) h.2.2.2.2 (w3_in hr (by omega) (by omega)) d4 ?_
  rw [w3_clamp hr, show ((i : Int) + (k : Int)).toNat = i + k by omega, ← w3_of (xs (i + k))]
  exact kk
end LAWC
