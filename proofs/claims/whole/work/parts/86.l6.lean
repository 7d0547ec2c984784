/-! ===== the law: its start ===== -/
def l_C0 : hq_M := fun q j => if j = 0 ∧ 170 ≤ q ∧ q < 370 ∧ (q - 170) % 5 = 0 then (((q - 170) / 5 : Nat) : Int) else if q = 405 ∧ j = 0 then 40 else if (q = 8 ∨ q = 88) ∧ j = 2 then 60 else if (q = 8 ∨ q = 88) ∧ j = 3 then 2 else if (q = 370 ∨ q = 391) ∧ j = 4 then 8 else if q = 0 ∧ j = 9 then 8 else if q = 0 ∧ j = 10 then 88 else 0
def l_M0 : hq_M := fun q j => if q = 0 ∧ j = 2 then 60 else if q = 0 ∧ j = 3 then 2 else 0
theorem l_C0k : ∀ k : Nat, k < 40 → l_C0 (168 + 2 + 5 * k) 0 = (k : Int) := fun k hk => by
  unfold l_C0
  rw [if_pos ⟨rfl, by omega, by omega, by omega⟩]
  omega
theorem l_C0z : ∀ q j, ¬ ((j = 0 ∧ 170 ≤ q ∧ q < 370 ∧ (q - 170) % 5 = 0) ∨ (q = 405 ∧ j = 0) ∨ ((q = 8 ∨ q = 88) ∧ (j = 2 ∨ j = 3)) ∨ ((q = 370 ∨ q = 391) ∧ j = 4) ∨ (q = 0 ∧ (j = 9 ∨ j = 10))) → l_C0 q j = 0 := fun q j h => by
  unfold l_C0
  rw [if_neg (by omega), if_neg (by omega), if_neg (by omega), if_neg (by omega), if_neg (by omega), if_neg (by omega), if_neg (by omega)]
theorem l_M0z : ∀ q j, ¬ (q = 0 ∧ (j = 2 ∨ j = 3)) → l_M0 q j = 0 := fun q j h => by
  unfold l_M0
  rw [if_neg (by omega), if_neg (by omega)]
theorem l_C0r (o j : Nat) : 0 ≤ l_C0 o j ∧ l_C0 o j ≤ 1000 := by
  unfold l_C0
  split
  · omega
  · repeat (split; omega)
    omega
def l_chk (o k : Nat) : Bool := match (SLx (YC.getD o (0, 0)).1)[k]? with
  | none => true
  | some t => (t.1 != 1 || decide (l_C0 o k = 0)) && (t.1 != 4 || decide (YC[(l_C0 o k).toNat]? = some (7, 0)))
theorem l_chk_ok : ∀ o, o < 410 → ∀ k, k < 11 → l_chk o k = true := by decide +kernel
set_option maxRecDepth 20000 in
theorem l_C0v : hq_vd SLx YC l_C0 := by
  have key : ∀ o, o < 410 → ∀ k, k < 11 → ∀ t, (SLx (YC.getD o (0, 0)).1)[k]? = some t → (t.1 = 1 → l_C0 o k = 0) ∧ (t.1 = 4 → YC[(l_C0 o k).toNat]? = some (7, 0)) := fun o ho k hk t ht => by
    have h := l_chk_ok o ho k hk
    unfold l_chk at h
    rw [ht] at h
    simp only [Bool.and_eq_true, Bool.or_eq_true, bne_iff_ne, decide_eq_true_eq] at h
    exact ⟨fun e => h.1.resolve_left (fun n => n e), fun e => h.2.resolve_left (fun n => n e)⟩
  have key2 : ∀ o, o < 410 → (YC.getD o (0, 0)).1 ≠ 15 ∧ (YC.getD o (0, 0)).1 ≠ 12 := by decide +kernel
  have hl : ∀ c, c < 12 → (SLx c).length ≤ 11 := by decide +kernel
  refine k_vd l_C0r (fun o q hq k t hk ht => ?_) (fun o n hq j => ?_)
  · have ho := hq_ltC hq
    have e : YC.getD o (0, 0) = q := by rw [List.getD_eq_getElem?_getD, hq]; rfl
    have h12 := (key2 o ho).2
    rw [e] at h12
    have hk11 : k < 11 := by
      have h1 := (List.getElem?_eq_some_iff.mp ht).1
      have := hl q.1 (by omega)
      omega
    exact key o ho k hk11 t (by rw [e]; exact ht)
  · have ho := hq_ltC hq
    have e : YC.getD o (0, 0) = (15, n) := by rw [List.getD_eq_getElem?_getD, hq]; rfl
    exact absurd (by rw [e]) (key2 o ho).1
theorem l_M1 {M' : hq_M} (h : Q12 l_M0 M') : ∀ q j, M' q j = l_M0 q j := fun q j => by
  obtain ⟨h1, h2, h3⟩ := h
  by_cases a : 6 ≤ q ∧ q ≤ 9 ∧ j < 2
  · rw [h1 q j a.1 a.2.1 a.2.2, l_M0z q j (by omega)]
  · by_cases b : q = 0 ∧ (j = 23 ∨ j = 24 ∨ j = 25 ∨ j = 37 ∨ j = 39 ∨ j = 43 ∨ j = 47 ∨ j = 52 ∨ j = 56)
    · obtain ⟨rfl, b⟩ := b
      rw [h2 j b, l_M0z 0 j (by omega)]
    · exact h3 q j (by omega)
theorem l_JJ {M' : hq_M} (h : Q12 l_M0 M') : JJ 0 l_C0 M' := by
  have e := l_M1 h
  have z : ∀ q j, ¬ (q = 0 ∧ (j = 2 ∨ j = 3)) → M' q j = 0 := fun q j hq => by rw [e, l_M0z q j hq]
  have rw0 : ∀ a, l_C0 a 1 = 0 → Rw l_C0 a [] := fun a ha => ⟨ha, fun i hi => absurd hi (by simp)⟩
  refine JJ.fresh (o := 8) (Or.inl rfl) (by decide) (by decide) (by decide) ⟨?_, ?_, ?_, ?_, ?_, ?_, ?_, ?_, ?_⟩ (rw0 1 (by decide)) (rw0 3 (by decide)) (by decide) (fun k hk => ?_) (by decide) (by unfold TW; decide) (fun j a b => l_C0z _ _ (by omega)) (fun j a b => l_C0z _ _ (by omega)) (rw0 376 (by decide)) (by decide) (by decide) (rw0 389 (by decide)) (by decide) (by decide) (z _ _ (by decide)) (z _ _ (by decide)) (z _ _ (by decide)) (fun q j a b c => z _ _ (by omega)) (z _ _ (by decide)) (z _ _ (by decide)) (z _ _ (by decide)) (z _ _ (by decide)) (z _ _ (by decide)) (z _ _ (by decide)) (z _ _ (by decide))
  · rw [z 0 0 (by decide)]; decide
  · rw [z 0 1 (by decide)]; decide
  · intro f hf
    rw [z 1 f (by omega), z 2 f (by omega)]
    decide
  · rw [z 0 0 (by decide)]
    exact ⟨by decide, fun i hi => absurd hi (by omega)⟩
  · rw [z 0 1 (by decide)]
    exact ⟨by decide, fun i hi => absurd hi (by omega)⟩
  · rw [e]; decide
  · rw [e]; decide
  · rw [e, z 8 0 (by decide)]; decide
  · rw [e]; decide
  · have := l_C0k k hk
    rw [show 168 + 2 + 5 * k = 170 + 5 * k by omega] at this
    exact this
/-! the classes and the arrays -/
theorem tb_0 : Cond.instantiable RX0 8 ∈ lw_tbl := List.mem_of_getElem? (i := 233) (by decide +kernel)
theorem tb_1 : Cond.instantiable RX1 2 ∈ lw_tbl := List.mem_of_getElem? (i := 226) (by decide +kernel)
theorem tb_2 : Cond.instantiable RX2 2 ∈ lw_tbl := List.mem_of_getElem? (i := 167) (by decide +kernel)
theorem tb_3 : Cond.instantiable RX3 2 ∈ lw_tbl := List.mem_of_getElem? (i := 159) (by decide +kernel)
theorem tb_4 : Cond.instantiable RX4 6 ∈ lw_tbl := List.mem_of_getElem? (i := 126) (by decide +kernel)
theorem tb_5 : Cond.instantiable RX5 3 ∈ lw_tbl := List.mem_of_getElem? (i := 392) (by decide +kernel)
theorem tb_6 : Cond.instantiable RX6 2 ∈ lw_tbl := List.mem_of_getElem? (i := 104) (by decide +kernel)
theorem tb_7 : Cond.instantiable RX7 4 ∈ lw_tbl := List.mem_of_getElem? (i := 153) (by decide +kernel)
theorem tb_8 : Cond.instantiable RX8 5 ∈ lw_tbl := List.mem_of_getElem? (i := 336) (by decide +kernel)
theorem tb_9 : Cond.instantiable RX9 7 ∈ lw_tbl := List.mem_of_getElem? (i := 300) (by decide +kernel)
theorem tb_10 : Cond.instantiable RX10 8 ∈ lw_tbl := List.mem_of_getElem? (i := 294) (by decide +kernel)
theorem tb_11 : Cond.instantiable RX11 11 ∈ lw_tbl := List.mem_of_getElem? (i := 96) (by decide +kernel)
theorem tb_12 : Cond.instantiable RX12 57 ∈ lw_tbl := List.mem_of_getElem? (i := 981) (by decide +kernel)
theorem tb_aI : Cond.arrayClass .int ∈ lw_tbl := List.mem_of_getElem? (i := 124) (by decide +kernel)
theorem tb_aL : Cond.arrayClass .long ∈ lw_tbl := List.mem_of_getElem? (i := 334) (by decide +kernel)
theorem tb_aZ : Cond.arrayClass .boolean ∈ lw_tbl := List.mem_of_getElem? (i := 1162) (by decide +kernel)
theorem tb_oL : Cond.arrayOver (.object "HeadTables$Letter") ∈ lw_tbl := List.mem_of_getElem? (i := 232) (by decide +kernel)
theorem tb_oP : Cond.arrayOver (.object "HeadTables$Pair") ∈ lw_tbl := List.mem_of_getElem? (i := 166) (by decide +kernel)
theorem tb_n0 : Cond.methodLinkNest RX11 35 yX7_init "HeadTables" ∈ lw_tbl := List.mem_of_getElem? (i := 154) (by decide +kernel)
theorem tb_n1 : Cond.methodLinkNest RX3 23 yX2_init "HeadTables" ∈ lw_tbl := List.mem_of_getElem? (i := 168) (by decide +kernel)
theorem tb_n2 : Cond.methodLinkNest RX10 11 yX9_init "HeadTables" ∈ lw_tbl := List.mem_of_getElem? (i := 301) (by decide +kernel)
theorem tb_n3 : Cond.methodLinkNest RX10 20 yX8_init "HeadTables" ∈ lw_tbl := List.mem_of_getElem? (i := 337) (by decide +kernel)
theorem tb_n4 : Cond.methodLinkNest RX11 61 yX5_init "HeadTables" ∈ lw_tbl := List.mem_of_getElem? (i := 393) (by decide +kernel)
theorem tb_n5 : Cond.methodLinkNest RX5 11 yX9_init "HeadTables" ∈ lw_tbl := List.mem_of_getElem? (i := 398) (by decide +kernel)
theorem tb_s0 : Cond.stringRef RX4 49 "table" ∈ lw_tbl := List.mem_of_getElem? (i := 496) (by decide +kernel)
theorem tb_s1 : Cond.stringRef RX4 66 "blocked" ∈ lw_tbl := List.mem_of_getElem? (i := 557) (by decide +kernel)
theorem tb_s2 : Cond.stringRef RX4 71 "still" ∈ lw_tbl := List.mem_of_getElem? (i := 558) (by decide +kernel)
theorem tb_s3 : Cond.stringRef RX4 81 "field" ∈ lw_tbl := List.mem_of_getElem? (i := 589) (by decide +kernel)
theorem tb_l0 : Cond.laysStatic "java/lang/String" "COMPACT_STRINGS" "Z" ∈ lw_tbl := List.mem_of_getElem? (i := 510) (by decide +kernel)
theorem tb_i0 : Cond.initialized "java/lang/String" ∈ lw_tbl := List.mem_of_getElem? (i := 91) (by decide +kernel)
theorem tb_l1 : Cond.laysStatic "jdk/internal/util/Preconditions" "SIOOBE_FORMATTER" "Ljava/util/function/BiFunction;" ∈ lw_tbl := List.mem_of_getElem? (i := 526) (by decide +kernel)
theorem tb_i1 : Cond.initialized "jdk/internal/util/Preconditions" ∈ lw_tbl := List.mem_of_getElem? (i := 93) (by decide +kernel)
theorem l_K {s : State} {A : Array Value} (hts : ∀ w ∈ lw_tbl, w.before A s = true) : ∃ (D : va_G) (cA : Nat → ClassId), va_K D vwCl (hq_ty cA) s := by
  obtain ⟨c0, i0, k0⟩ := u_known (C := RX0) (T := TX0) (N := 8) (n := 8) hts in_wsX00 (hts _ tb_0)
  obtain ⟨c1, i1, k1⟩ := u_known (C := RX1) (T := TX1) (N := 2) (n := 2) hts in_wsX10 (hts _ tb_1)
  obtain ⟨c2, i2, k2⟩ := u_known (C := RX2) (T := TX2) (N := 2) (n := 2) hts in_wsX20 (hts _ tb_2)
  obtain ⟨c3, i3, k3⟩ := u_known (C := RX3) (T := TX3) (N := 2) (n := 2) hts in_wsX30 (hts _ tb_3)
  obtain ⟨c4, i4, k4⟩ := u_known (C := RX4) (T := TX4) (N := 6) (n := 6) hts in_wsX40 (hts _ tb_4)
  obtain ⟨c5, i5, k5⟩ := u_known (C := RX5) (T := TX5) (N := 3) (n := 3) hts in_wsX50 (hts _ tb_5)
  obtain ⟨c6, i6, k6⟩ := u_known (C := RX6) (T := TX6) (N := 2) (n := 2) hts in_wsX60 (hts _ tb_6)
  obtain ⟨c7, i7, k7⟩ := u_known (C := RX7) (T := TX7) (N := 4) (n := 4) hts in_wsX70 (hts _ tb_7)
  obtain ⟨c8, i8, k8⟩ := u_known (C := RX8) (T := TX8) (N := 5) (n := 5) hts in_wsX80 (hts _ tb_8)
  obtain ⟨c9, i9, k9⟩ := u_known (C := RX9) (T := TX9) (N := 7) (n := 7) hts in_wsX90 (hts _ tb_9)
  obtain ⟨c10, i10, k10⟩ := u_known (C := RX10) (T := TX10) (N := 8) (n := 8) hts in_wsX100 (hts _ tb_10)
  obtain ⟨c11, i11, k11⟩ := u_known (C := RX11) (T := TX11) (N := 11) (n := 11) hts in_wsX110 (hts _ tb_11)
  obtain ⟨c12, i12, k12⟩ := u_known (C := RX12) (T := TX12) (N := 57) (n := 57) hts in_wsX120 (hts _ tb_12)
  obtain ⟨a0, n0, p0, e0, e1, e2⟩ := Cond.arrayClass_spec (hts _ tb_aI)
  obtain ⟨a1, n1, p1, f0, f1, f2⟩ := Cond.arrayClass_spec (hts _ tb_aL)
  obtain ⟨a2, n2, p2, g0, g1, g2⟩ := Cond.arrayClass_spec (hts _ tb_aZ)
  obtain ⟨p3, a3, n3, r0, r1, r2, r3, r4⟩ := Cond.arrayOver_spec (hts _ tb_oL)
  obtain ⟨p4, a4, n4, t0, t1, t2, t3, t4⟩ := Cond.arrayOver_spec (hts _ tb_oP)
  refine ⟨(fun k => if k = 0 then c0 else if k = 1 then c1 else if k = 2 then c2 else if k = 3 then c3 else if k = 4 then c4 else if k = 5 then c5 else if k = 6 then c6 else if k = 7 then c7 else if k = 8 then c8 else if k = 9 then c9 else if k = 10 then c10 else if k = 11 then c11 else c12, fun k => if k = 0 then i0 else if k = 1 then i1 else if k = 2 then i2 else if k = 3 then i3 else if k = 4 then i4 else if k = 5 then i5 else if k = 6 then i6 else if k = 7 then i7 else if k = 8 then i8 else if k = 9 then i9 else if k = 10 then i10 else if k = 11 then i11 else i12), fun k => if k = 0 then a0 else if k = 1 then a1 else if k = 2 then a2 else if k = 3 then a3 else a4, fun k q hq => ?_, fun k q hq => ?_⟩
  · match k, hq with
    | 0, hq => cases hq; exact k0
    | 1, hq => cases hq; exact k1
    | 2, hq => cases hq; exact k2
    | 3, hq => cases hq; exact k3
    | 4, hq => cases hq; exact k4
    | 5, hq => cases hq; exact k5
    | 6, hq => cases hq; exact k6
    | 7, hq => cases hq; exact k7
    | 8, hq => cases hq; exact k8
    | 9, hq => cases hq; exact k9
    | 10, hq => cases hq; exact k10
    | 11, hq => cases hq; exact k11
    | 12, hq => cases hq; exact k12
    | k + 13, hq => simp [vwCl] at hq
  · match k, hq with
    | 0, hq => cases hq; exact ⟨fun n z => ⟨fun k h => (by cases h), n0, e1, p0, e2⟩, e0⟩
    | 1, hq => cases hq; exact ⟨fun n z => ⟨fun k h => (by cases h), n1, f1, p1, f2⟩, f0⟩
    | 2, hq => cases hq; exact ⟨fun n z => ⟨fun k h => (by cases h), n2, g1, p2, g2⟩, g0⟩
    | 3, hq => cases hq; exact ⟨fun n z => ⟨fun k h => (by cases h), n3, r2, p3, r3⟩, n3, p3, r2, r3, r0, r4⟩
    | 4, hq => cases hq; exact ⟨fun n z => ⟨fun k h => (by cases h), n4, t2, p4, t3⟩, n4, p4, t2, t3, t0, t4⟩
    | k + 5, hq => simp [hq_ty] at hq
/-! the Strings, the statics, the nest mates -/
def l_tm (i : Nat) : Term := .string RX4 ([49, 66, 71, 81].getD i 0)
abbrev l_F : List Cond := flatC (Jvm.Cond.and given_1 narrow_1)
theorem l_f1 : ∀ i, i < 4 → Cond.exactly (l_tm i) "java/lang/String" ∈ l_F := by decide +kernel
theorem l_f2 : ∀ i, i < 4 → Cond.eq (.field (l_tm i) "java/lang/String" "coder" "B") (.int 0) ∈ l_F := by decide +kernel
theorem l_f3 : ∀ i, i < 4 → Cond.arrayOf (.field (l_tm i) "java/lang/String" "value" "[B") .byte ∈ l_F := by decide +kernel
theorem l_f4 : ∀ i, i < 4 → Cond.eq (.length (.field (l_tm i) "java/lang/String" "value" "[B")) (.int (Int32.ofNat (hqLen.getD i 0))) ∈ l_F := by decide +kernel
theorem l_f5 : ∀ i, i < 4 → ∀ j, j < hqLen.getD i 0 → Cond.eq (.elem (.field (l_tm i) "java/lang/String" "value" "[B") (.int (Int32.ofNat j))) (.int ((hqByt.getD i []).getD j 0)) ∈ l_F := by decide +kernel
theorem l_f6 : ∀ i, i < 4 → ∀ j, j < 4 → i ≠ j → Cond.not (Cond.eq (l_tm i) (l_tm j)) ∈ l_F ∨ Cond.not (Cond.eq (l_tm j) (l_tm i)) ∈ l_F := by decide +kernel
theorem l_f7 : Cond.eq (.static "java/lang/String" "COMPACT_STRINGS" "Z") (.int 1) ∈ l_F ∧ Cond.isRef (.static "jdk/internal/util/Preconditions" "SIOOBE_FORMATTER" "Ljava/util/function/BiFunction;") ∈ l_F := by decide +kernel
theorem l_Z0 {s : State} {A : Array Value} (hts : ∀ w ∈ lw_tbl, w.before A s = true) (hgv : (Jvm.Cond.and given_1 narrow_1).before A s = true) : ∃ hqS hqV : Nat → Nat, l_Z hqS hqV s.heap.size s := by
  have hs := flat_of_before _ hgv
  have hA : ∀ a : Nat, a < s.heap.size → ¬ (s.heap.size ≤ a) := fun a h => Nat.not_le.mpr h
  obtain ⟨adK, adV, hS, hE⟩ := vk_Sof (args := A) (s := s) (N := 4) (tm := l_tm) (len := hqLen) (byt := hqByt) (A := fun q => s.heap.size ≤ q) (by decide) (fun i hi => hs _ (l_f1 i hi)) (fun i hi => hs _ (l_f2 i hi)) (fun i hi => hs _ (l_f3 i hi)) (fun i hi => hs _ (l_f4 i hi)) (fun i hi j hj => hs _ (l_f5 i hi j hj)) (fun i j hi hj hij => (l_f6 i hi j hj hij).imp (hs _) (hs _)) hA
  exact ⟨adK, adV, ⟨va_AO.of (hts _ tb_oL), va_AO.of (hts _ tb_oP), va_Nw.of rfl (hts _ tb_n0), va_Nw.of rfl (hts _ tb_n1), va_Nw.of rfl (hts _ tb_n2), va_Nw.of rfl (hts _ tb_n3), va_Nw.of rfl (hts _ tb_n4), va_Nw.of rfl (hts _ tb_n5)⟩, hS, ⟨vk_R.of (hts _ tb_s0) (hE 0 (by decide)), vk_R.of (hts _ tb_s1) (hE 1 (by decide)), vk_R.of (hts _ tb_s2) (hE 2 (by decide)), vk_R.of (hts _ tb_s3) (hE 3 (by decide))⟩, va_Zof (hts _ tb_l0) (hts _ tb_i0) (va_eqi (hs _ l_f7.1)) hA, va_Zqof (hts _ tb_l1) (hts _ tb_i1) (hs _ l_f7.2) hA⟩
/-- a new object, its address told, and that all else stays -/
theorem l_new {p : Program} {l : Launch} {e : Env} {R : Room} {s : State} {m : MethodId} {args : Array Value} {below : List Frame} {meth : Method} {c : Code} {H : Heap} {locs : List Loc} {cells slots : Nat} {Q : State → Prop} {cc : ByteArray} {pc nL : Nat} {ls : Array Slot} {rest : List Value} {Ts : List Cond} {own : String} {ret : Option FieldType} {D : va_G} {cA : Nat → ClassId} {A : Nat → Prop} {Z : State → Prop} {ci index N h : Nat} {Cn : String} {T : u_T} {fs : List Value} (ty0 : Nat → FieldType) (C : hq_C vwCl p m c cc nL s args Ts own meth ret D cA A Z) (hz : H.size = h) (hc : vwCl[ci]? = some (Cn, T, N)) (hin : ∀ w ∈ u_ws Cn T N, w ∈ Ts) (hty : ∀ k, k < N → parseFieldDescriptor (T k).2.2.1 = some (ty0 k)) (hw : Cond.classLink own index Cn ∈ Ts ∧ Cond.instantiable Cn N ∈ Ts ∧ Cond.initialized Cn ∈ Ts) (hfs : ∀ j, j < N → defaultValue (ty0 j) = vp_V fs j) (hcells : cells + 1 ≤ R.cells) (hslots : slots + N ≤ R.slots) (hdg : decode cc pc = .ok (.new index, 3))
    (kk : ∀ (H1 : Heap), va_P D vwCl [(h, .inr (ci, fs))] H1 → H1.size = h + 1 → (∀ q, q < h → H1[q]? = H[q]?) → W p l e R s m args below meth c H1 locs (cells + 1) (slots + N) Q (F0 m (pc + 3) ls (.ref h :: rest))) : W p l e R s m args below meth c H locs cells slots Q (F0 m pc ls rest) := by
  obtain ⟨⟨hx, hb, hml, hown, hts⟩, -, -, hK, -, -⟩ := C
  have hKn := hK.1 ci _ hc
  refine W.newcK hx hb hown (hts _ hw.1) (hts _ hw.2.1) (hts _ hw.2.2) rfl hdg hcells hslots hKn.2.1 hz fun H1 kC hkC e1 z1 q1 => ?_
  exact kk H1 (k_cellAt ⟨_, hc, (u_born ty0 hts hin hKn hkC e1 hty).to hfs⟩) z1 q1
set_option maxHeartbeats 4000000 in
set_option maxRecDepth 100000 in
theorem whole_start {p : Program} {e : Env} {s : State} {m : MethodId} {below : List Frame} {meth : Method} {c : Code} (l : Launch) (hflags : l.flags = flags0) {b L : Nat} {xs : Nat → Int32} (hL : L ≤ 2560) (C0 : lw_At p s m meth c b L xs) : W p l e room_1 s m #[Value.ref b] below meth c s.heap [] 0 0 (lw_Z below #[Value.ref b] s) (entryFrame m ([Value.ref b] : List Value).toArray 4) := by
  obtain ⟨hx, hbc, hr, hml, hown, hts, hX, hbl, hlocks, hgv⟩ := C0
  have htsL : ∀ w ∈ wsL_B, w.before #[Value.ref b] s = true := fun w h => hts w (wsL_B_in w h)
  obtain ⟨D, cA, hK⟩ := l_K hts
  obtain ⟨hqS, hqV, hZ⟩ := l_Z0 hts hgv
  obtain ⟨B, hB⟩ : ∃ B, s.heap.size = B := ⟨_, rfl⟩
  rw [hB] at hZ
  have LC : l_C p m c s b meth D cA hqS hqV B := ⟨⟨hx, hbc, hml, hown, htsL⟩, hr, hlocks, hK, l_Zo (fun _ h => h), hZ⟩
  have LK : hq_C vwCl p m c code 4 s #[Value.ref b] wsL_B RL meth ret D cA (fun _ => False) k_Z := ⟨⟨hx, hbc, hml, hown, htsL⟩, hr, hlocks, hK, k_Zo _, hZ.1⟩
  have hl := lv_entry ([.ref b] : List Value) (n := 4) (Nat.le_of_ble_eq_true rfl)
  rw [lg_entry_eq]
  generalize (lg_sl ([.ref b] : List Value) ++ List.replicate (4 - (lg_sl ([.ref b] : List Value)).length) Slot.unset).toArray = ls at hl ⊢
  have hl : lv_has ls 4 [(0, .ref b)] := hl
  have h0 : k_S D cA B l_C0 [] 0 0 [] s.heap s.heap [] := ⟨fun k q h => by simp [k_sg] at h, hB, ⟨fun i j p q h => by simp at h, fun k q h => by simp at h⟩, va_S.rf, Nat.le_refl _⟩
  refine k_new (x := 0) (ci := 11) (fs := [.null, .null, .null, .null, .null, .null, .null, .null, .null, .null, .null]) tyX11 LK h0 rfl inlX11 tyX11_ok ⟨by decide +kernel, by decide +kernel, by decide +kernel⟩ bX11 (Nat.le_of_ble_eq_true rfl) (Nat.le_of_ble_eq_true rfl) rfl dL_law_0 (fun H h => ?_)
  refine lv_dup hx hbc dL_law_3 rfl ?_
  refine k_cI (n := 0) (rest := [.ref (B + 0)]) LK h rfl (k_X11 l l_C0 l_C0k (by decide) (by decide) (by decide) (by decide) (by decide) (by decide) (by decide) (by decide) (by decide) l_C0z) gL_law_X11_init rfl ⟨rfl, rfl⟩ ⟨by decide +kernel, by decide +kernel, by decide +kernel⟩ rfl ⟨by decide, by decide, by decide +kernel⟩ ⟨Nat.le_of_ble_eq_true rfl, Nat.le_of_ble_eq_true rfl⟩ rfl hl.1 rfl (Nat.le_of_ble_eq_true rfl) dL_law_4 ⟨Nat.le_of_ble_eq_true rfl, Nat.le_of_ble_eq_true rfl⟩ (fun H locs h => ?_)
  obtain ⟨hPC0, hzH, -, hS1, -⟩ := h
  have hPC : va_P D vwCl (hq_ws SLx cA YC B l_C0) H := by
    rw [k_sg_ws, ← yX11_eq]
    exact hPC0
  have hz410 : H.size = B + 410 := by
    rw [hzH, show 0 + (([] : hq_Y) ++ yX11).length = 410 by decide +kernel]
  refine lv_astore_n (lv' := [(1, .ref (B + 0)), (0, .ref b)]) hx hbc dL_law_7 rfl hl (by decide) rfl (fun ls hl => ?_)
  refine va_forget (fun q hq => by rw [hB]; have := hS1.2.2 q hq; exact Nat.le_trans (Nat.le_add_right _ _) this) ?_
  refine l_new (ci := 12) (fs := [.int (w3 0), .int (w3 0), .int (w3 0), .int (w3 0), .null, .null, .null, .null, .null, .int (w3 0), .int (w3 0), .int (w3 0), .int (w3 0), .int (w3 0), .int (w3 0), .int (w3 0), .int (w3 0), .int (w3 0), .null, .null, .null, .null, .null, .int (w3 0), .int (w3 0), .int (w3 0), .null, .null, .null, .null, .null, .null, .null, .null, .null, .null, .null, .int (w3 0), .null, .int (w3 0), .null, .int (w3 0), .null, .int (w3 0), .null, .null, .null, .int (w3 0), .null, .int (w3 0), .null, .null, .int (w3 0), .null, .null, .null, .int (w3 0)]) tyX12 LK hz410 rfl inlX12 tyX12_ok ⟨by decide +kernel, by decide +kernel, by decide +kernel⟩ bX12 (Nat.le_of_ble_eq_true rfl) (Nat.le_of_ble_eq_true rfl) dL_law_8 (fun H1 hN hz1 hk1 => ?_)
  refine lv_dup hx hbc dL_law_11 rfl ?_
  refine g_go (va_runI (As := []) (rest := [.ref (B + 410)]) LK.1 (k_X12 (D := D) (cA := cA) (B := B + 410) l l_M0 (by decide) (by decide) l_M0z) (cwI 0 htsL gL_law_X12_init rfl rfl rfl (htsL _ (by decide +kernel)) (htsL _ (by decide +kernel)) (htsL _ (by decide +kernel)) rfl ⟨by decide, by decide, by decide +kernel⟩ ⟨Nat.le_of_ble_eq_true rfl, Nat.le_of_ble_eq_true rfl⟩) ⟨k_blind, fun U hU hW => ⟨rfl, by rw [hU]; exact hN, by rw [hU]; exact hz1, va_K.moved hW.alike hK, k_Zw hW hZ.1⟩⟩ rfl rfl hl.1 rfl (lv_room (Nat.le_of_ble_eq_true rfl)) dL_law_12 ⟨Nat.le_of_ble_eq_true rfl, Nat.le_of_ble_eq_true rfl⟩) (fun v st₀ t Lc h0 hq hL2 => ?_)
  obtain ⟨⟨hv, M1, hq12, hPM, hVM⟩, hz2, hk2⟩ := hq
  cases hv
  rw [h0] at hz2 hk2
  have hlow : ∀ q, q < B + 410 → t.heap[q]? = H[q]? := fun q hq => (hk2 q (by omega) (by omega)).trans (hk1 q hq)
  have hS2 : va_S (fun q => B ≤ q) s.heap t.heap ([] ++ Lc) := by
    refine ⟨by omega, fun q h1 h2 => ?_, fun q hq => ?_⟩
    · rw [hlow q (by omega)]
      exact hS1.2.1 q h1 (fun e => h2 (by have : B + 0 ≤ q := e; omega))
    · have := hL2 q (by simpa using hq)
      show B ≤ q.base
      omega
  have hPC2 : va_P D vwCl (hq_ws SLx cA YC B l_C0) t.heap := hPC.kept (fun k x hx => hlow x.1 (by rw [← hz410]; exact (hPC k x hx).lt))
  refine W.widen (k := 444) (n := 15984) (Nat.le_of_ble_eq_true rfl) (Nat.le_of_ble_eq_true rfl) ?_
  refine lv_astore_n (lv' := [(2, .ref (B + 410 + 0)), (1, .ref (B + 0)), (0, .ref b)]) hx hbc dL_law_15 rfl hl (by decide) rfl (fun ls hl => ?_)
  refine hq_iconst LC dL_law_16 ?_
  refine lv_istore_n (lv' := [(3, .int (w3 ((0 : Nat) : Int))), (2, .ref (B + 410 + 0)), (1, .ref (B + 0)), (0, .ref b)]) hx hbc dL_law_17 rfl hl (by decide) rfl (fun ls hl => ?_)
  exact l_loop LC hB hX ⟨hbl, by omega⟩ hL L 0 0 l_C0 M1 t.heap ([] ++ Lc) ls (by omega) (by omega) (by omega) (l_JJ hq12) ⟨hPC2, hPM, l_C0v, hVM, hS2⟩ hl
