def w_X6_empty (v0 : Nat) (M : hq_M) (k : hq_M → Prop) : Prop :=
  ∀ M1 : hq_M, M1 = hq_up M v0 1 0 →
  k M1
def w_X6_add (v0 : Nat) (v1 : Int) (M : hq_M) (k : Int → hq_M → Prop) : Prop :=
  ((M v0 1) < 0 →
    k 0 M) ∧
  (¬ (M v0 1) < 0 →
    ((M v0 1) < (hq_len YC (v0 + 1) : Int) →
      (0 ≤ (M v0 1) ∧ (M v0 1) < (hq_len YC (v0 + 1) : Int)) ∧
      ∀ M5 : hq_M, M5 = hq_up M (v0 + 1) ((M v0 1).toNat) v1 →
      rg ((M5 v0 1) + 1) ∧
      ∀ M8 : hq_M, M8 = hq_up M5 v0 1 ((M5 v0 1) + 1) →
      k 1 M8) ∧
    (¬ (M v0 1) < (hq_len YC (v0 + 1) : Int) →
      k 0 M))
def l_X6_addAll_2 (v0 : Nat) (v1 : Nat) (k : hq_M → Prop) : Nat → Int → hq_M → Prop
  | 0, _, _ => False
  | n + 1, v2, M =>
    ((M v1 1) ≤ v2 →
      k M) ∧
    (¬ (M v1 1) ≤ v2 →
      ((hq_len YC (v1 + 1) : Int) ≤ v2 →
        k M) ∧
      (¬ (hq_len YC (v1 + 1) : Int) ≤ v2 →
        ((hq_len YC (v0 + 1) : Int) ≤ (M v0 1) →
          k M) ∧
        (¬ (hq_len YC (v0 + 1) : Int) ≤ (M v0 1) →
          (0 ≤ v2 ∧ v2 < (hq_len YC (v1 + 1) : Int)) ∧
          (0 ≤ (M v0 1) ∧ (M v0 1) < (hq_len YC (v0 + 1) : Int)) ∧
          ∀ M7 : hq_M, M7 = hq_up M (v0 + 1) ((M v0 1).toNat) (M (v1 + 1) v2.toNat) →
          rg ((M7 v0 1) + 1) ∧
          ∀ M10 : hq_M, M10 = hq_up M7 v0 1 ((M7 v0 1) + 1) →
          rg (v2 + 1) ∧ ∀ x11 : Int, x11 = (v2 + 1) →
          l_X6_addAll_2 v0 v1 k n x11 M10)))
def w_X6_addAll (v0 : Nat) (v1 : Nat) (M : hq_M) (k : hq_M → Prop) : Prop :=
  ∃ n, l_X6_addAll_2 v0 v1 k n 0 M
def w_X6_at (v0 : Nat) (v1 : Int) (M : hq_M) (k : Int → Prop) : Prop :=
  (v1 < 0 →
    k (-9)) ∧
  (¬ v1 < 0 →
    ((M v0 1) ≤ v1 →
      k (-9)) ∧
    (¬ (M v0 1) ≤ v1 →
      (v1 < (hq_len YC (v0 + 1) : Int) →
        (0 ≤ v1 ∧ v1 < (hq_len YC (v0 + 1) : Int)) ∧
        k (M (v0 + 1) v1.toNat)) ∧
      (¬ v1 < (hq_len YC (v0 + 1) : Int) →
        k (-9))))
def w_X6_removeLast (v0 : Nat) (M : hq_M) (k : Int → hq_M → Prop) : Prop :=
  rg ((M v0 1) - 1) ∧
  w_X6_at v0 ((M v0 1) - 1) M (fun x3 =>
    rg ((M v0 1) - 1) ∧
    ∀ M6 : hq_M, M6 = hq_up M v0 1 (max 0 ((M v0 1) - 1)) →
    k x3 M6)
def l_X6_drop_15 (v0 : Nat) (v2 : Int) (k_52 : hq_M → Prop) (k : hq_M → Prop) : Nat → Int → hq_M → Prop
  | 0, _, _ => False
  | n + 1, v3, M =>
    ((M v0 1) ≤ v3 →
      k_52 M) ∧
    (¬ (M v0 1) ≤ v3 →
      ((hq_len YC (v0 + 1) : Int) ≤ v3 →
        k_52 M) ∧
      (¬ (hq_len YC (v0 + 1) : Int) ≤ v3 →
        rg (v3 - v2) ∧
        (0 ≤ v3 ∧ v3 < (hq_len YC (v0 + 1) : Int)) ∧
        (0 ≤ (v3 - v2) ∧ (v3 - v2) < (hq_len YC (v0 + 1) : Int)) ∧
        ∀ M6 : hq_M, M6 = hq_up M (v0 + 1) ((v3 - v2).toNat) (M (v0 + 1) v3.toNat) →
        rg (v3 + 1) ∧ ∀ x7 : Int, x7 = (v3 + 1) →
        l_X6_drop_15 v0 v2 k_52 k n x7 M6))
def w_X6_drop (v0 : Nat) (v1 : Int) (M : hq_M) (k : hq_M → Prop) : Prop :=
  ∀ x2 : Int, x2 = (max 0 (min v1 (M v0 1))) →
  ∃ n, l_X6_drop_15 v0 x2 (fun M3 =>
    rg ((M3 v0 1) - x2) ∧
    ∀ M6 : hq_M, M6 = hq_up M3 v0 1 ((M3 v0 1) - x2) →
    k M6) k n x2 M
def l_X6_same_15 (v0 : Nat) (v1 : Nat) (k : Int → Prop) (M : hq_M) : Nat → Int → Prop
  | 0, _ => False
  | n + 1, v2 =>
    ((M v0 1) ≤ v2 →
      k 1) ∧
    (¬ (M v0 1) ≤ v2 →
      ((hq_len YC (v0 + 1) : Int) ≤ v2 →
        k 1) ∧
      (¬ (hq_len YC (v0 + 1) : Int) ≤ v2 →
        ((hq_len YC (v1 + 1) : Int) ≤ v2 →
          k 1) ∧
        (¬ (hq_len YC (v1 + 1) : Int) ≤ v2 →
          (0 ≤ v2 ∧ v2 < (hq_len YC (v0 + 1) : Int)) ∧
          (0 ≤ v2 ∧ v2 < (hq_len YC (v1 + 1) : Int)) ∧
          ((M (v0 + 1) v2.toNat) = (M (v1 + 1) v2.toNat) →
            rg (v2 + 1) ∧ ∀ x6 : Int, x6 = (v2 + 1) →
            l_X6_same_15 v0 v1 k M n x6) ∧
          (¬ (M (v0 + 1) v2.toNat) = (M (v1 + 1) v2.toNat) →
            k 0))))
def w_X6_same (v0 : Nat) (v1 : Nat) (M : hq_M) (k : Int → Prop) : Prop :=
  ((M v0 1) = (M v1 1) →
    ∃ n, l_X6_same_15 v0 v1 k M n 0) ∧
  (¬ (M v0 1) = (M v1 1) →
    k 0)
def l_X6_addInteger_40 (v0 : Nat) (k_81 : Int → hq_M → Prop) (k : hq_M → Prop) : Nat → Int → Int → hq_M → Prop
  | 0, _, _, _ => False
  | n + 1, v5, v6, M =>
    (4 ≤ v6 →
      k_81 v5 M) ∧
    (¬ 4 ≤ v6 →
      (v5 < 128 →
        k_81 v5 M) ∧
      (¬ v5 < 128 →
        rg (128 + (v5 % 128)) ∧
        w_X6_add v0 (128 + (v5 % 128)) M (fun x3 M2 =>
          0 ≤ v5 ∧
          ∀ x5 : Int, x5 = (v5 / 128) →
          rg (v6 + 1) ∧ ∀ x6 : Int, x6 = (v6 + 1) →
          l_X6_addInteger_40 v0 k_81 k n x5 x6 M2)))
def w_X6_addInteger (v0 : Nat) (v1 : Int) (v2 : Int) (v3 : Int) (M : hq_M) (k : hq_M → Prop) : Prop :=
  (0 ≤ v2 ∧ v2 ≤ 30) ∧ rg (1 * ((2 ^ v2.toNat : Nat) : Int)) ∧
  rg ((1 * ((2 ^ v2.toNat : Nat) : Int)) - 1) ∧
  ∀ x4 : Int, x4 = ((1 * ((2 ^ v2.toNat : Nat) : Int)) - 1) →
  (x4 ≤ v3 →
    rg (v1 + x4) ∧
    w_X6_add v0 (v1 + x4) M (fun x7 M6 =>
      rg (v3 - x4) ∧
      ∀ x9 : Int, x9 = (v3 - x4) →
      ∃ n, l_X6_addInteger_40 v0 (fun x11 M10 =>
        w_X6_add v0 x11 M10 (fun x13 M12 =>
          k M12)) k n x9 0 M6)) ∧
  (¬ x4 ≤ v3 →
    rg (v1 + v3) ∧
    w_X6_add v0 (v1 + v3) M (fun x16 M15 =>
      k M15))
def w_X6_addWord (v0 : Nat) (v1 : Int) (v2 : Nat) (M : hq_M) (k : hq_M → Prop) : Prop :=
  rg (v1 + (M v2 1)) ∧
  w_X6_add v0 (v1 + (M v2 1)) M (fun x4 M3 =>
    w_X6_addAll v0 v2 M3 (fun M5 =>
      k M5))
def w_X1_at (v1 : Int) (M : hq_M) (k : Option Nat → Prop) : Prop :=
  (v1 < 0 →
    k none) ∧
  (¬ v1 < 0 →
    ((M 168 1) ≤ v1 →
      k none) ∧
    (¬ (M 168 1) ≤ v1 →
      (v1 < 40 →
        (0 ≤ v1 ∧ v1 < 40) ∧ ∀ o3 : Nat, o3 = 169 + 1 + 5 * v1.toNat →
        k (some o3)) ∧
      (¬ v1 < 40 →
        k none)))
def w_X1_next  (M : hq_M) (k : Option Nat → Prop) : Prop :=
  ((M 168 1) < 0 →
    k none) ∧
  (¬ (M 168 1) < 0 →
    ((M 168 1) < 40 →
      (0 ≤ (M 168 1) ∧ (M 168 1) < 40) ∧ ∀ o5 : Nat, o5 = 169 + 1 + 5 * (M 168 1).toNat →
      k (some o5)) ∧
    (¬ (M 168 1) < 40 →
      k none))
def w_X3_at (v0 : Nat) (v1 : Int) (M : hq_M) (k : Option Nat → Prop) : Prop :=
  (v1 < 0 →
    k none) ∧
  (¬ v1 < 0 →
    ((M v0 1) ≤ v1 →
      k none) ∧
    (¬ (M v0 1) ≤ v1 →
      (v1 < (hq_len YC (v0 + 1) : Int) →
        (0 ≤ v1 ∧ v1 < (hq_len YC (v0 + 1) : Int)) ∧ ∀ o3 : Nat, o3 = (v0 + 1) + 1 + 5 * v1.toNat →
        k (some o3)) ∧
      (¬ v1 < (hq_len YC (v0 + 1) : Int) →
        k none)))
def b_X3_lowestNamed_36 (v0 : Nat) (v1 : Nat) (v2 : Int) (k_2 : Int → Prop) (k : Int → Prop) (M : hq_M) : Prop :=
  rg (v2 + 1) ∧ ∀ x1 : Int, x1 = (v2 + 1) →
  k_2 x1
def l_X3_lowestNamed_2 (v0 : Nat) (v1 : Nat) (k : Int → Prop) (M : hq_M) : Nat → Int → Prop
  | 0, _ => False
  | n + 1, v2 =>
    ((M v0 1) ≤ v2 →
      k (-9)) ∧
    (¬ (M v0 1) ≤ v2 →
      w_X3_at v0 v2 M (fun q3 =>
        (q3 = none →
          b_X3_lowestNamed_36 v0 v1 v2 (fun v2q => l_X3_lowestNamed_2 v0 v1 k M n v2q) k M) ∧
        (∀ o2, q3 = some o2 →
          w_X6_same (o2 + 1) (v1 + 1) M (fun x4 =>
            (x4 = 0 →
              b_X3_lowestNamed_36 v0 v1 v2 (fun v2q => l_X3_lowestNamed_2 v0 v1 k M n v2q) k M) ∧
            (¬ x4 = 0 →
              k v2)))))
def w_X3_lowestNamed (v0 : Nat) (v1 : Nat) (M : hq_M) (k : Int → Prop) : Prop :=
  ∃ n, l_X3_lowestNamed_2 v0 v1 k M n 0
def b_X3_lowestLike_50 (v0 : Nat) (v1 : Nat) (v2 : Int) (k_2 : Int → Prop) (k : Int → Prop) (M : hq_M) : Prop :=
  rg (v2 + 1) ∧ ∀ x1 : Int, x1 = (v2 + 1) →
  k_2 x1
def l_X3_lowestLike_2 (v0 : Nat) (v1 : Nat) (k : Int → Prop) (M : hq_M) : Nat → Int → Prop
  | 0, _ => False
  | n + 1, v2 =>
    ((M v0 1) ≤ v2 →
      k (-9)) ∧
    (¬ (M v0 1) ≤ v2 →
      w_X3_at v0 v2 M (fun q3 =>
        (q3 = none →
          b_X3_lowestLike_50 v0 v1 v2 (fun v2q => l_X3_lowestLike_2 v0 v1 k M n v2q) k M) ∧
        (∀ o2, q3 = some o2 →
          w_X6_same (o2 + 1) (v1 + 1) M (fun x4 =>
            (x4 = 0 →
              b_X3_lowestLike_50 v0 v1 v2 (fun v2q => l_X3_lowestLike_2 v0 v1 k M n v2q) k M) ∧
            (¬ x4 = 0 →
              w_X6_same (o2 + 3) (v1 + 3) M (fun x5 =>
                (x5 = 0 →
                  b_X3_lowestLike_50 v0 v1 v2 (fun v2q => l_X3_lowestLike_2 v0 v1 k M n v2q) k M) ∧
                (¬ x5 = 0 →
                  k v2)))))))
def w_X3_lowestLike (v0 : Nat) (v1 : Nat) (M : hq_M) (k : Int → Prop) : Prop :=
  ∃ n, l_X3_lowestLike_2 v0 v1 k M n 0
theorem iX6_empty_6 : ∀ w ∈ u_ws RX6 TX6 2, w ∈ wsX6_empty := fun w h => List.mem_cons_of_mem _ (List.mem_append_right _ h)
set_option maxRecDepth 20000 in
theorem fX6_empty_21 : hq_fl vwCl wsX6_empty RX6 21 6 1 false .int := ⟨RX6, TX6, 2, tyX6, rfl, by decide, iX6_empty_6, by decide +kernel, rfl, tyX6_ok 1 (by decide), tyX6_ok, nmX6⟩
set_option maxHeartbeats 4000000 in
set_option maxRecDepth 100000 in
theorem c_X6_empty (l : Launch) {D : va_G} {cA : Nat → ClassId} {B : Nat} {Z : State → Prop} (hZ : hq_Zo Z (hq_in B YC.length)) (v0 : Nat) (hv0 : YC[v0]? = some (6, 0)) (M : hq_M) (k : hq_M → Prop) (hw : w_X6_empty v0 M k) : hq_T vwCl SLx l yX6_empty wsX6_empty ({ frames := 0, cells := 0, slots := 0, locals := 0 } : Room) D cA YC B Z [.ref (B + v0)] M (hq_qv k) := by
  refine hq_meth (cc := cX6_empty) (maxL := 1) (ret := none) (own := RX6) hZ rfl (by decide +kernel) rfl (Nat.le_of_ble_eq_true rfl) ?_
  intro p e s m below meth c ls C hs hl
  have hx := C.1.1
  have hb := C.1.2.1
  unfold w_X6_empty at hw
  have hl : lv_has ls 1 [(0, .ref (B + v0))] := hl
  refine lv_aload_n hx hb dX6_empty_0 rfl (lv_at hl 0 rfl) ?_
  refine hq_iconst C dX6_empty_1 ?_
  refine hq_putI (o := v0) C hs fX6_empty_21 hv0 (by decide) rfl (by decide : rg 0) dX6_empty_2 (fun M1 eM1 H locs hs => ?_)
  have hw := hw M1 eM1
  exact hq_vret C hs hw dX6_empty_5
theorem iX6_add_6 : ∀ w ∈ u_ws RX6 TX6 2, w ∈ wsX6_add := fun w h => List.mem_cons_of_mem _ (List.mem_append_right _ h)
set_option maxRecDepth 20000 in
theorem fX6_add_15 : hq_fl vwCl wsX6_add RX6 15 6 0 true (.array .int) := ⟨RX6, TX6, 2, tyX6, rfl, by decide, iX6_add_6, by decide +kernel, rfl, tyX6_ok 0 (by decide), tyX6_ok, nmX6⟩
set_option maxRecDepth 20000 in
theorem fX6_add_21 : hq_fl vwCl wsX6_add RX6 21 6 1 false .int := ⟨RX6, TX6, 2, tyX6, rfl, by decide, iX6_add_6, by decide +kernel, rfl, tyX6_ok 1 (by decide), tyX6_ok, nmX6⟩
set_option maxHeartbeats 4000000 in
set_option maxRecDepth 100000 in
theorem c_X6_add (l : Launch) {D : va_G} {cA : Nat → ClassId} {B : Nat} {Z : State → Prop} (hZ : hq_Zo Z (hq_in B YC.length)) (v0 : Nat) (hv0 : YC[v0]? = some (6, 0)) (v1 : Int) (rv1 : rg v1) (M : hq_M) (k : Int → hq_M → Prop) (hw : w_X6_add v0 v1 M k) : hq_T vwCl SLx l yX6_add wsX6_add ({ frames := 0, cells := 0, slots := 0, locals := 0 } : Room) D cA YC B Z [.ref (B + v0), .int (w3 v1)] M (hq_qz k) := by
  refine hq_meth (cc := cX6_add) (maxL := 2) (ret := (some .boolean)) (own := RX6) hZ rfl (by decide +kernel) rfl (Nat.le_of_ble_eq_true rfl) ?_
  intro p e s m below meth c ls C hs hl
  have hx := C.1.1
  have hb := C.1.2.1
  unfold w_X6_add at hw
  have hl : lv_has ls 2 [(0, .ref (B + v0)), (1, .int (w3 v1))] := hl
  refine lv_aload_n hx hb dX6_add_0 rfl (lv_at hl 0 rfl) ?_
  refine hq_getI (o := v0) C hs fX6_add_21 hv0 (by decide) rfl dX6_add_1 (fun g1 => ?_)
  refine hq_if_lt (tgt := 19) C g1 dX6_add_4 (by decide) (fun h => ?_) (fun h => ?_)
  · have hw := hw.1 h
    refine hq_iconst C dX6_add_19 ?_
    exact hq_zret C hs (by decide) hw dX6_add_20
  · have hw := hw.2 h
    refine lv_aload_n hx hb dX6_add_7 rfl (lv_at hl 0 rfl) ?_
    refine hq_getI (o := v0) C hs fX6_add_21 hv0 (by decide) rfl dX6_add_8 (fun g2 => ?_)
    refine lv_aload_n hx hb dX6_add_11 rfl (lv_at hl 0 rfl) ?_
    refine hq_getR (o := v0) C hs fX6_add_15 hv0 (by decide) rfl dX6_add_12 ?_
    refine hq_alen (o := (v0 + 1)) C hs (tc_6_0 hv0) (by decide) dX6_add_15 ?_
    refine hq_icmp_lt (tgt := 21) C g2 (hq_lenrg _) dX6_add_16 (by decide) (fun h => ?_) (fun h => ?_)
    · have hw := hw.1 h
      refine lv_aload_n hx hb dX6_add_21 rfl (lv_at hl 0 rfl) ?_
      refine hq_getR (o := v0) C hs fX6_add_15 hv0 (by decide) rfl dX6_add_22 ?_
      refine lv_aload_n hx hb dX6_add_25 rfl (lv_at hl 0 rfl) ?_
      refine hq_getI (o := v0) C hs fX6_add_21 hv0 (by decide) rfl dX6_add_26 (fun g3 => ?_)
      refine lv_iload_n hx hb dX6_add_29 rfl (lv_at hl 1 rfl) ?_
      obtain ⟨g4, hw⟩ := hw
      refine hq_iast (o := (v0 + 1)) C hs (tc_6_0 hv0) g3 g4 rv1 dX6_add_30 (fun M5 eM5 H locs hs => ?_)
      have hw := hw M5 eM5
      refine lv_aload_n hx hb dX6_add_31 rfl (lv_at hl 0 rfl) ?_
      refine lv_dup hx hb dX6_add_32 rfl ?_
      refine hq_getI (o := v0) C hs fX6_add_21 hv0 (by decide) rfl dX6_add_33 (fun g6 => ?_)
      refine hq_iconst C dX6_add_36 ?_
      obtain ⟨g7, hw⟩ := hw
      refine hq_iadd C dX6_add_37 ?_
      refine hq_putI (o := v0) C hs fX6_add_21 hv0 (by decide) rfl g7 dX6_add_38 (fun M8 eM8 H locs hs => ?_)
      have hw := hw M8 eM8
      refine hq_iconst C dX6_add_41 ?_
      exact hq_zret C hs (by decide) hw dX6_add_42
    · have hw := hw.2 h
      refine hq_iconst C dX6_add_19 ?_
      exact hq_zret C hs (by decide) hw dX6_add_20
theorem iX6_addAll_6 : ∀ w ∈ u_ws RX6 TX6 2, w ∈ wsX6_addAll := fun w h => List.mem_cons_of_mem _ (List.mem_append_right _ h)
set_option maxRecDepth 20000 in
theorem fX6_addAll_15 : hq_fl vwCl wsX6_addAll RX6 15 6 0 true (.array .int) := ⟨RX6, TX6, 2, tyX6, rfl, by decide, iX6_addAll_6, by decide +kernel, rfl, tyX6_ok 0 (by decide), tyX6_ok, nmX6⟩
set_option maxRecDepth 20000 in
theorem fX6_addAll_21 : hq_fl vwCl wsX6_addAll RX6 21 6 1 false .int := ⟨RX6, TX6, 2, tyX6, rfl, by decide, iX6_addAll_6, by decide +kernel, rfl, tyX6_ok 1 (by decide), tyX6_ok, nmX6⟩
set_option maxHeartbeats 4000000 in
set_option maxRecDepth 100000 in
theorem cl_X6_addAll_2 {p : Program} {l : Launch} {e : Env} {s : State} {m : MethodId} {args : Array Value} {below : List Frame} {meth : Method} {c : Code} {D : va_G} {cA : Nat → ClassId} {B : Nat} {Z : State → Prop} (v0 : Nat) (hv0 : YC[v0]? = some (6, 0)) (v1 : Nat) (hv1 : YC[v1]? = some (6, 0))  {k : hq_M → Prop} (C : hq_C vwCl p m c cX6_addAll 3 s args wsX6_addAll RX6 meth none D cA (hq_in B YC.length) Z)
     : ∀ (n : Nat) (v2 : Int) (rv2 : rg v2) (M : hq_M) (H : Heap) (locs : List Loc) (ls : Array Slot), l_X6_addAll_2 v0 v1 k n v2 M → hq_S vwCl SLx D cA YC B s.heap M H locs → lv_has ls 3 [(0, .ref (B + v0)), (1, .ref (B + v1)), (2, .int (w3 v2))] → W p l e ({ frames := 0, cells := 0, slots := 0, locals := 0 } : Room) s m args below meth c H locs 0 0 (MQ below (hq_Q vwCl SLx D cA YC B (hq_qv k)) args s 0 0 (hq_in B YC.length)) (F0 m 2 ls []) := by
  have hx := C.1.1
  have hb := C.1.2.1
  intro n
  induction n with
  | zero => intro v2 rv2 M H locs ls hw hs hl; exact hw.elim
  | succ n ih =>
    intro v2 rv2 M H locs ls hw hs hl
    unfold l_X6_addAll_2 at hw
    refine lv_iload_n hx hb dX6_addAll_2 rfl (lv_at hl 2 rfl) ?_
    refine lv_aload_n hx hb dX6_addAll_3 rfl (lv_at hl 1 rfl) ?_
    refine hq_getI (o := v1) C hs fX6_addAll_21 hv1 (by decide) rfl dX6_addAll_4 (fun g1 => ?_)
    refine hq_icmp_ge (tgt := 62) C rv2 g1 dX6_addAll_7 (by decide) (fun h => ?_) (fun h => ?_)
    · have hw := hw.1 h
      exact hq_vret C hs hw dX6_addAll_62
    · have hw := hw.2 h
      refine lv_iload_n hx hb dX6_addAll_10 rfl (lv_at hl 2 rfl) ?_
      refine lv_aload_n hx hb dX6_addAll_11 rfl (lv_at hl 1 rfl) ?_
      refine hq_getR (o := v1) C hs fX6_addAll_15 hv1 (by decide) rfl dX6_addAll_12 ?_
      refine hq_alen (o := (v1 + 1)) C hs (tc_6_0 hv1) (by decide) dX6_addAll_15 ?_
      refine hq_icmp_ge (tgt := 62) C rv2 (hq_lenrg _) dX6_addAll_16 (by decide) (fun h => ?_) (fun h => ?_)
      · have hw := hw.1 h
        exact hq_vret C hs hw dX6_addAll_62
      · have hw := hw.2 h
        refine lv_aload_n hx hb dX6_addAll_19 rfl (lv_at hl 0 rfl) ?_
        refine hq_getI (o := v0) C hs fX6_addAll_21 hv0 (by decide) rfl dX6_addAll_20 (fun g2 => ?_)
        refine lv_aload_n hx hb dX6_addAll_23 rfl (lv_at hl 0 rfl) ?_
        refine hq_getR (o := v0) C hs fX6_addAll_15 hv0 (by decide) rfl dX6_addAll_24 ?_
        refine hq_alen (o := (v0 + 1)) C hs (tc_6_0 hv0) (by decide) dX6_addAll_27 ?_
        refine hq_icmp_ge (tgt := 62) C g2 (hq_lenrg _) dX6_addAll_28 (by decide) (fun h => ?_) (fun h => ?_)
        · have hw := hw.1 h
          exact hq_vret C hs hw dX6_addAll_62
        · have hw := hw.2 h
          refine lv_aload_n hx hb dX6_addAll_31 rfl (lv_at hl 0 rfl) ?_
          refine hq_getR (o := v0) C hs fX6_addAll_15 hv0 (by decide) rfl dX6_addAll_32 ?_
          refine lv_aload_n hx hb dX6_addAll_35 rfl (lv_at hl 0 rfl) ?_
          refine hq_getI (o := v0) C hs fX6_addAll_21 hv0 (by decide) rfl dX6_addAll_36 (fun g3 => ?_)
          refine lv_aload_n hx hb dX6_addAll_39 rfl (lv_at hl 1 rfl) ?_
          refine hq_getR (o := v1) C hs fX6_addAll_15 hv1 (by decide) rfl dX6_addAll_40 ?_
          refine lv_iload_n hx hb dX6_addAll_43 rfl (lv_at hl 2 rfl) ?_
          obtain ⟨g4, hw⟩ := hw
          refine hq_iald (o := (v1 + 1)) C hs (tc_6_0 hv1) rv2 g4 dX6_addAll_44 (fun g5 => ?_)
          obtain ⟨g6, hw⟩ := hw
          refine hq_iast (o := (v0 + 1)) C hs (tc_6_0 hv0) g3 g6 g5 dX6_addAll_45 (fun M7 eM7 H locs hs => ?_)
          have hw := hw M7 eM7
          refine lv_aload_n hx hb dX6_addAll_46 rfl (lv_at hl 0 rfl) ?_
          refine lv_dup hx hb dX6_addAll_47 rfl ?_
          refine hq_getI (o := v0) C hs fX6_addAll_21 hv0 (by decide) rfl dX6_addAll_48 (fun g8 => ?_)
          refine hq_iconst C dX6_addAll_51 ?_
          obtain ⟨g9, hw⟩ := hw
          refine hq_iadd C dX6_addAll_52 ?_
          refine hq_putI (o := v0) C hs fX6_addAll_21 hv0 (by decide) rfl g9 dX6_addAll_53 (fun M10 eM10 H locs hs => ?_)
          have hw := hw M10 eM10
          obtain ⟨g12, hw⟩ := hw
          refine hq_iinc (k := 2) C dX6_addAll_56 hl rfl (by decide) (fun x11 ex11 ls hl => ?_)
          have hw := hw x11 ex11
          have rx11 : rg x11 := by rw [ex11]; exact g12
          have hl : lv_has ls 3 [(2, .int (w3 x11)), (0, .ref (B + v0)), (1, .ref (B + v1))] := hl
          refine hq_goto (tgt := 2) C dX6_addAll_59 (by decide) ?_
          exact ih x11 rx11 _ _ _ _ hw hs (lv_sub hl [1, 2, 0] rfl)
set_option maxHeartbeats 4000000 in
set_option maxRecDepth 100000 in
theorem c_X6_addAll (l : Launch) {D : va_G} {cA : Nat → ClassId} {B : Nat} {Z : State → Prop} (hZ : hq_Zo Z (hq_in B YC.length)) (v0 : Nat) (hv0 : YC[v0]? = some (6, 0)) (v1 : Nat) (hv1 : YC[v1]? = some (6, 0)) (M : hq_M) (k : hq_M → Prop) (hw : w_X6_addAll v0 v1 M k) : hq_T vwCl SLx l yX6_addAll wsX6_addAll ({ frames := 0, cells := 0, slots := 0, locals := 0 } : Room) D cA YC B Z [.ref (B + v0), .ref (B + v1)] M (hq_qv k) := by
  refine hq_meth (cc := cX6_addAll) (maxL := 3) (ret := none) (own := RX6) hZ rfl (by decide +kernel) rfl (Nat.le_of_ble_eq_true rfl) ?_
  intro p e s m below meth c ls C hs hl
  have hx := C.1.1
  have hb := C.1.2.1
  unfold w_X6_addAll at hw
  have hl : lv_has ls 3 [(0, .ref (B + v0)), (1, .ref (B + v1))] := hl
  refine hq_iconst C dX6_addAll_0 ?_
  refine lv_istore_n (lv' := [(2, .int (w3 0)), (0, .ref (B + v0)), (1, .ref (B + v1))]) hx hb dX6_addAll_1 rfl hl (by decide) rfl (fun ls hl => ?_)
  obtain ⟨n9, hw⟩ := hw
  refine cl_X6_addAll_2 v0 hv0 v1 hv1 C  n9 0 (by decide : rg 0) _ _ _ _ hw hs (lv_sub hl [1, 2, 0] rfl)
theorem iX6_at_6 : ∀ w ∈ u_ws RX6 TX6 2, w ∈ wsX6_at := fun w h => List.mem_cons_of_mem _ (List.mem_append_right _ h)
set_option maxRecDepth 20000 in
theorem fX6_at_15 : hq_fl vwCl wsX6_at RX6 15 6 0 true (.array .int) := ⟨RX6, TX6, 2, tyX6, rfl, by decide, iX6_at_6, by decide +kernel, rfl, tyX6_ok 0 (by decide), tyX6_ok, nmX6⟩
set_option maxRecDepth 20000 in
theorem fX6_at_21 : hq_fl vwCl wsX6_at RX6 21 6 1 false .int := ⟨RX6, TX6, 2, tyX6, rfl, by decide, iX6_at_6, by decide +kernel, rfl, tyX6_ok 1 (by decide), tyX6_ok, nmX6⟩
set_option maxHeartbeats 4000000 in
set_option maxRecDepth 100000 in
theorem c_X6_at (l : Launch) {D : va_G} {cA : Nat → ClassId} {B : Nat} {Z : State → Prop} (hZ : hq_Zo Z (hq_in B YC.length)) (v0 : Nat) (hv0 : YC[v0]? = some (6, 0)) (v1 : Int) (rv1 : rg v1) (M : hq_M) (k : Int → Prop) (hw : w_X6_at v0 v1 M k) : hq_T vwCl SLx l yX6_at wsX6_at ({ frames := 0, cells := 0, slots := 0, locals := 0 } : Room) D cA YC B Z [.ref (B + v0), .int (w3 v1)] M (hq_qi (fun z M' => M' = M ∧ k z)) := by
  refine hq_meth (cc := cX6_at) (maxL := 2) (ret := (some .int)) (own := RX6) hZ rfl (by decide +kernel) rfl (Nat.le_of_ble_eq_true rfl) ?_
  intro p e s m below meth c ls C hs hl
  have hx := C.1.1
  have hb := C.1.2.1
  unfold w_X6_at at hw
  have hl : lv_has ls 2 [(0, .ref (B + v0)), (1, .int (w3 v1))] := hl
  refine lv_iload_n hx hb dX6_at_0 rfl (lv_at hl 1 rfl) ?_
  refine hq_if_lt (tgt := 21) C rv1 dX6_at_1 (by decide) (fun h => ?_) (fun h => ?_)
  · have hw := hw.1 h
    refine hq_bipush C dX6_at_21 (by decide) ?_
    refine hq_goto (tgt := 32) C dX6_at_23 (by decide) ?_
    exact hq_iret C hs (by decide : rg (-9)) ⟨rfl, hw⟩ dX6_at_32
  · have hw := hw.2 h
    refine lv_iload_n hx hb dX6_at_4 rfl (lv_at hl 1 rfl) ?_
    refine lv_aload_n hx hb dX6_at_5 rfl (lv_at hl 0 rfl) ?_
    refine hq_getI (o := v0) C hs fX6_at_21 hv0 (by decide) rfl dX6_at_6 (fun g1 => ?_)
    refine hq_icmp_ge (tgt := 21) C rv1 g1 dX6_at_9 (by decide) (fun h => ?_) (fun h => ?_)
    · have hw := hw.1 h
      refine hq_bipush C dX6_at_21 (by decide) ?_
      refine hq_goto (tgt := 32) C dX6_at_23 (by decide) ?_
      exact hq_iret C hs (by decide : rg (-9)) ⟨rfl, hw⟩ dX6_at_32
    · have hw := hw.2 h
      refine lv_iload_n hx hb dX6_at_12 rfl (lv_at hl 1 rfl) ?_
      refine lv_aload_n hx hb dX6_at_13 rfl (lv_at hl 0 rfl) ?_
      refine hq_getR (o := v0) C hs fX6_at_15 hv0 (by decide) rfl dX6_at_14 ?_
      refine hq_alen (o := (v0 + 1)) C hs (tc_6_0 hv0) (by decide) dX6_at_17 ?_
      refine hq_icmp_lt (tgt := 26) C rv1 (hq_lenrg _) dX6_at_18 (by decide) (fun h => ?_) (fun h => ?_)
      · have hw := hw.1 h
        refine lv_aload_n hx hb dX6_at_26 rfl (lv_at hl 0 rfl) ?_
        refine hq_getR (o := v0) C hs fX6_at_15 hv0 (by decide) rfl dX6_at_27 ?_
        refine lv_iload_n hx hb dX6_at_30 rfl (lv_at hl 1 rfl) ?_
        obtain ⟨g2, hw⟩ := hw
        refine hq_iald (o := (v0 + 1)) C hs (tc_6_0 hv0) rv1 g2 dX6_at_31 (fun g3 => ?_)
        exact hq_iret C hs g3 ⟨rfl, hw⟩ dX6_at_32
      · have hw := hw.2 h
        refine hq_bipush C dX6_at_21 (by decide) ?_
        refine hq_goto (tgt := 32) C dX6_at_23 (by decide) ?_
        exact hq_iret C hs (by decide : rg (-9)) ⟨rfl, hw⟩ dX6_at_32
theorem iX6_removeLast_6 : ∀ w ∈ u_ws RX6 TX6 2, w ∈ wsX6_removeLast := fun w h => List.mem_cons_of_mem _ (List.mem_append_right _ h)
set_option maxRecDepth 20000 in
theorem fX6_removeLast_21 : hq_fl vwCl wsX6_removeLast RX6 21 6 1 false .int := ⟨RX6, TX6, 2, tyX6, rfl, by decide, iX6_removeLast_6, by decide +kernel, rfl, tyX6_ok 1 (by decide), tyX6_ok, nmX6⟩
set_option maxRecDepth 20000 in
theorem mX6_removeLast_9 : Cond.methodLink RX6 9 Lib.Math.max.name ∈ wsX6_removeLast ∧ Cond.static Lib.Math.max.name ∈ wsX6_removeLast ∧ Cond.initialized "java/lang/Math" ∈ wsX6_removeLast ∧ Cond.code Lib.Math.max.name Lib.Math.max.code 2 (some .int) ∈ wsX6_removeLast := ⟨by decide +kernel, by decide +kernel, by decide +kernel, by decide +kernel⟩
set_option maxHeartbeats 4000000 in
set_option maxRecDepth 100000 in
theorem c_X6_removeLast (l : Launch) {D : va_G} {cA : Nat → ClassId} {B : Nat} {Z : State → Prop} (hZ : hq_Zo Z (hq_in B YC.length)) (v0 : Nat) (hv0 : YC[v0]? = some (6, 0)) (M : hq_M) (k : Int → hq_M → Prop) (hw : w_X6_removeLast v0 M k) : hq_T vwCl SLx l yX6_removeLast wsX6_removeLast ({ frames := 1, cells := 0, slots := 0, locals := 21 } : Room) D cA YC B Z [.ref (B + v0)] M (hq_qi k) := by
  refine hq_meth (cc := cX6_removeLast) (maxL := 2) (ret := (some .int)) (own := RX6) hZ rfl (by decide +kernel) rfl (Nat.le_of_ble_eq_true rfl) ?_
  intro p e s m below meth c ls C hs hl
  have hx := C.1.1
  have hb := C.1.2.1
  unfold w_X6_removeLast at hw
  have hl : lv_has ls 2 [(0, .ref (B + v0))] := hl
  refine lv_aload_n hx hb dX6_removeLast_0 rfl (lv_at hl 0 rfl) ?_
  refine lv_aload_n hx hb dX6_removeLast_1 rfl (lv_at hl 0 rfl) ?_
  refine hq_getI (o := v0) C hs fX6_removeLast_21 hv0 (by decide) rfl dX6_removeLast_2 (fun g1 => ?_)
  refine hq_iconst C dX6_removeLast_5 ?_
  obtain ⟨g2, hw⟩ := hw
  refine hq_isub C dX6_removeLast_6 ?_
  refine hq_cV (n := 1) (ci := 6) (o := v0) (qc := (TX6, 2)) C hs (c_X6_at l C.2.2.2.2.1 v0 hv0 ((M v0 1) - 1) g2 _ _ hw) gX6_removeLast_X6_at rfl ⟨rfl, rfl⟩ (by decide +kernel) ⟨Nat.le_of_ble_eq_true rfl, Nat.le_of_ble_eq_true rfl⟩ hv0 (by decide) rfl rfl hl.1 rfl (Nat.le_of_ble_eq_true rfl) dX6_removeLast_7 (hq_ki (fun x3 M9 H locs rx3 hw hs => ?_))
  obtain ⟨e9, hw⟩ := hw; rw [e9] at hs
  refine lv_istore_n (lv' := [(1, .int (w3 x3)), (0, .ref (B + v0))]) hx hb dX6_removeLast_10 rfl hl (by decide) rfl (fun ls hl => ?_)
  refine lv_aload_n hx hb dX6_removeLast_11 rfl (lv_at hl 1 rfl) ?_
  refine hq_iconst C dX6_removeLast_12 ?_
  refine lv_aload_n hx hb dX6_removeLast_13 rfl (lv_at hl 1 rfl) ?_
  refine hq_getI (o := v0) C hs fX6_removeLast_21 hv0 (by decide) rfl dX6_removeLast_14 (fun g4 => ?_)
  refine hq_iconst C dX6_removeLast_17 ?_
  obtain ⟨g5, hw⟩ := hw
  refine hq_isub C dX6_removeLast_18 ?_
  refine hq_mmax C mX6_removeLast_9 hl.1 ⟨Nat.le_of_ble_eq_true rfl, Nat.le_of_ble_eq_true rfl, Nat.zero_le _, Nat.zero_le _⟩ (by decide : rg 0) g5 dX6_removeLast_19 ?_
  refine hq_putI (o := v0) C hs fX6_removeLast_21 hv0 (by decide) rfl (hq_rmax (by decide : rg 0) g5) dX6_removeLast_22 (fun M6 eM6 H locs hs => ?_)
  have hw := hw M6 eM6
  refine lv_iload_n hx hb dX6_removeLast_25 rfl (lv_at hl 0 rfl) ?_
  exact hq_iret C hs rx3 hw dX6_removeLast_26
theorem iX6_drop_6 : ∀ w ∈ u_ws RX6 TX6 2, w ∈ wsX6_drop := fun w h => List.mem_cons_of_mem _ (List.mem_append_right _ h)
set_option maxRecDepth 20000 in
theorem fX6_drop_15 : hq_fl vwCl wsX6_drop RX6 15 6 0 true (.array .int) := ⟨RX6, TX6, 2, tyX6, rfl, by decide, iX6_drop_6, by decide +kernel, rfl, tyX6_ok 0 (by decide), tyX6_ok, nmX6⟩
set_option maxRecDepth 20000 in
theorem fX6_drop_21 : hq_fl vwCl wsX6_drop RX6 21 6 1 false .int := ⟨RX6, TX6, 2, tyX6, rfl, by decide, iX6_drop_6, by decide +kernel, rfl, tyX6_ok 1 (by decide), tyX6_ok, nmX6⟩
set_option maxRecDepth 20000 in
theorem mX6_drop_29 : Cond.methodLink RX6 29 Lib.Math.min.name ∈ wsX6_drop ∧ Cond.static Lib.Math.min.name ∈ wsX6_drop ∧ Cond.initialized "java/lang/Math" ∈ wsX6_drop ∧ Cond.code Lib.Math.min.name Lib.Math.min.code 2 (some .int) ∈ wsX6_drop := ⟨by decide +kernel, by decide +kernel, by decide +kernel, by decide +kernel⟩
set_option maxRecDepth 20000 in
theorem mX6_drop_9 : Cond.methodLink RX6 9 Lib.Math.max.name ∈ wsX6_drop ∧ Cond.static Lib.Math.max.name ∈ wsX6_drop ∧ Cond.initialized "java/lang/Math" ∈ wsX6_drop ∧ Cond.code Lib.Math.max.name Lib.Math.max.code 2 (some .int) ∈ wsX6_drop := ⟨by decide +kernel, by decide +kernel, by decide +kernel, by decide +kernel⟩
set_option maxHeartbeats 4000000 in
set_option maxRecDepth 100000 in
theorem cl_X6_drop_15 {p : Program} {l : Launch} {e : Env} {s : State} {m : MethodId} {args : Array Value} {below : List Frame} {meth : Method} {c : Code} {D : va_G} {cA : Nat → ClassId} {B : Nat} {Z : State → Prop} (v0 : Nat) (hv0 : YC[v0]? = some (6, 0)) (v2 : Int) (rv2 : rg v2) {k_52 : hq_M → Prop} {k : hq_M → Prop} (C : hq_C vwCl p m c cX6_drop 4 s args wsX6_drop RX6 meth none D cA (hq_in B YC.length) Z)
    (hk_52 : ∀ (M1 : hq_M) (H : Heap) (locs : List Loc) (ls : Array Slot), k_52 M1 → hq_S vwCl SLx D cA YC B s.heap M1 H locs → lv_has ls 4 [(0, .ref (B + v0)), (2, .int (w3 v2))] → W p l e ({ frames := 1, cells := 0, slots := 0, locals := 21 } : Room) s m args below meth c H locs 0 0 (MQ below (hq_Q vwCl SLx D cA YC B (hq_qv k)) args s 0 0 (hq_in B YC.length)) (F0 m 52 ls [])) : ∀ (n : Nat) (v3 : Int) (rv3 : rg v3) (M : hq_M) (H : Heap) (locs : List Loc) (ls : Array Slot), l_X6_drop_15 v0 v2 k_52 k n v3 M → hq_S vwCl SLx D cA YC B s.heap M H locs → lv_has ls 4 [(0, .ref (B + v0)), (2, .int (w3 v2)), (3, .int (w3 v3))] → W p l e ({ frames := 1, cells := 0, slots := 0, locals := 21 } : Room) s m args below meth c H locs 0 0 (MQ below (hq_Q vwCl SLx D cA YC B (hq_qv k)) args s 0 0 (hq_in B YC.length)) (F0 m 15 ls []) := by
  have hx := C.1.1
  have hb := C.1.2.1
  intro n
  induction n with
  | zero => intro v3 rv3 M H locs ls hw hs hl; exact hw.elim
  | succ n ih =>
    intro v3 rv3 M H locs ls hw hs hl
    unfold l_X6_drop_15 at hw
    refine lv_iload_n hx hb dX6_drop_15 rfl (lv_at hl 2 rfl) ?_
    refine lv_aload_n hx hb dX6_drop_16 rfl (lv_at hl 0 rfl) ?_
    refine hq_getI (o := v0) C hs fX6_drop_21 hv0 (by decide) rfl dX6_drop_17 (fun g1 => ?_)
    refine hq_icmp_ge (tgt := 52) C rv3 g1 dX6_drop_20 (by decide) (fun h => ?_) (fun h => ?_)
    · have hw := hw.1 h
      exact hk_52 _ _ _ _ hw hs (lv_sub hl [0, 1] rfl)
    · have hw := hw.2 h
      refine lv_iload_n hx hb dX6_drop_23 rfl (lv_at hl 2 rfl) ?_
      refine lv_aload_n hx hb dX6_drop_24 rfl (lv_at hl 0 rfl) ?_
      refine hq_getR (o := v0) C hs fX6_drop_15 hv0 (by decide) rfl dX6_drop_25 ?_
      refine hq_alen (o := (v0 + 1)) C hs (tc_6_0 hv0) (by decide) dX6_drop_28 ?_
      refine hq_icmp_ge (tgt := 52) C rv3 (hq_lenrg _) dX6_drop_29 (by decide) (fun h => ?_) (fun h => ?_)
      · have hw := hw.1 h
        exact hk_52 _ _ _ _ hw hs (lv_sub hl [0, 1] rfl)
      · have hw := hw.2 h
        refine lv_aload_n hx hb dX6_drop_32 rfl (lv_at hl 0 rfl) ?_
        refine hq_getR (o := v0) C hs fX6_drop_15 hv0 (by decide) rfl dX6_drop_33 ?_
        refine lv_iload_n hx hb dX6_drop_36 rfl (lv_at hl 2 rfl) ?_
        refine lv_iload_n hx hb dX6_drop_37 rfl (lv_at hl 1 rfl) ?_
        obtain ⟨g2, hw⟩ := hw
        refine hq_isub C dX6_drop_38 ?_
        refine lv_aload_n hx hb dX6_drop_39 rfl (lv_at hl 0 rfl) ?_
        refine hq_getR (o := v0) C hs fX6_drop_15 hv0 (by decide) rfl dX6_drop_40 ?_
        refine lv_iload_n hx hb dX6_drop_43 rfl (lv_at hl 2 rfl) ?_
        obtain ⟨g3, hw⟩ := hw
        refine hq_iald (o := (v0 + 1)) C hs (tc_6_0 hv0) rv3 g3 dX6_drop_44 (fun g4 => ?_)
        obtain ⟨g5, hw⟩ := hw
        refine hq_iast (o := (v0 + 1)) C hs (tc_6_0 hv0) g2 g5 g4 dX6_drop_45 (fun M6 eM6 H locs hs => ?_)
        have hw := hw M6 eM6
        obtain ⟨g8, hw⟩ := hw
        refine hq_iinc (k := 2) C dX6_drop_46 hl rfl (by decide) (fun x7 ex7 ls hl => ?_)
        have hw := hw x7 ex7
        have rx7 : rg x7 := by rw [ex7]; exact g8
        have hl : lv_has ls 4 [(3, .int (w3 x7)), (0, .ref (B + v0)), (2, .int (w3 v2))] := hl
        refine hq_goto (tgt := 15) C dX6_drop_49 (by decide) ?_
        exact ih x7 rx7 _ _ _ _ hw hs (lv_sub hl [1, 2, 0] rfl)
set_option maxHeartbeats 4000000 in
set_option maxRecDepth 100000 in
theorem c_X6_drop (l : Launch) {D : va_G} {cA : Nat → ClassId} {B : Nat} {Z : State → Prop} (hZ : hq_Zo Z (hq_in B YC.length)) (v0 : Nat) (hv0 : YC[v0]? = some (6, 0)) (v1 : Int) (rv1 : rg v1) (M : hq_M) (k : hq_M → Prop) (hw : w_X6_drop v0 v1 M k) : hq_T vwCl SLx l yX6_drop wsX6_drop ({ frames := 1, cells := 0, slots := 0, locals := 21 } : Room) D cA YC B Z [.ref (B + v0), .int (w3 v1)] M (hq_qv k) := by
  refine hq_meth (cc := cX6_drop) (maxL := 4) (ret := none) (own := RX6) hZ rfl (by decide +kernel) rfl (Nat.le_of_ble_eq_true rfl) ?_
  intro p e s m below meth c ls C hs hl
  have hx := C.1.1
  have hb := C.1.2.1
  unfold w_X6_drop at hw
  have hl : lv_has ls 4 [(0, .ref (B + v0)), (1, .int (w3 v1))] := hl
  refine hq_iconst C dX6_drop_0 ?_
  refine lv_iload_n hx hb dX6_drop_1 rfl (lv_at hl 1 rfl) ?_
  refine lv_aload_n hx hb dX6_drop_2 rfl (lv_at hl 0 rfl) ?_
  refine hq_getI (o := v0) C hs fX6_drop_21 hv0 (by decide) rfl dX6_drop_3 (fun g1 => ?_)
  refine hq_mmin C mX6_drop_29 hl.1 ⟨Nat.le_of_ble_eq_true rfl, Nat.le_of_ble_eq_true rfl, Nat.zero_le _, Nat.zero_le _⟩ rv1 g1 dX6_drop_6 ?_
  refine hq_mmax C mX6_drop_9 hl.1 ⟨Nat.le_of_ble_eq_true rfl, Nat.le_of_ble_eq_true rfl, Nat.zero_le _, Nat.zero_le _⟩ (by decide : rg 0) (hq_rmin rv1 g1) dX6_drop_9 ?_
  refine hq_nm (fun x2 ex2 => ?_)
  have hw := hw x2 ex2
  have rx2 : rg x2 := by rw [ex2]; exact (hq_rmax (by decide : rg 0) (hq_rmin rv1 g1))
  refine lv_istore_n (lv' := [(2, .int (w3 x2)), (0, .ref (B + v0)), (1, .int (w3 v1))]) hx hb dX6_drop_12 rfl hl (by decide) rfl (fun ls hl => ?_)
  refine lv_iload_n hx hb dX6_drop_13 rfl (lv_at hl 0 rfl) ?_
  refine lv_istore_n (lv' := [(3, .int (w3 x2)), (2, .int (w3 x2)), (0, .ref (B + v0)), (1, .int (w3 v1))]) hx hb dX6_drop_14 rfl hl (by decide) rfl (fun ls hl => ?_)
  obtain ⟨n9, hw⟩ := hw
  refine cl_X6_drop_15 v0 hv0 x2 rx2 C ?_ n9 x2 rx2 _ _ _ _ hw hs (lv_sub hl [2, 1, 0] rfl)
  · intro M3 H locs ls hw hs hl
    refine lv_aload_n hx hb dX6_drop_52 rfl (lv_at hl 0 rfl) ?_
    refine lv_dup hx hb dX6_drop_53 rfl ?_
    refine hq_getI (o := v0) C hs fX6_drop_21 hv0 (by decide) rfl dX6_drop_54 (fun g4 => ?_)
    refine lv_iload_n hx hb dX6_drop_57 rfl (lv_at hl 1 rfl) ?_
    obtain ⟨g5, hw⟩ := hw
    refine hq_isub C dX6_drop_58 ?_
    refine hq_putI (o := v0) C hs fX6_drop_21 hv0 (by decide) rfl g5 dX6_drop_59 (fun M6 eM6 H locs hs => ?_)
    have hw := hw M6 eM6
    exact hq_vret C hs hw dX6_drop_62
theorem iX6_same_6 : ∀ w ∈ u_ws RX6 TX6 2, w ∈ wsX6_same := fun w h => List.mem_cons_of_mem _ (List.mem_append_right _ h)
set_option maxRecDepth 20000 in
theorem fX6_same_15 : hq_fl vwCl wsX6_same RX6 15 6 0 true (.array .int) := ⟨RX6, TX6, 2, tyX6, rfl, by decide, iX6_same_6, by decide +kernel, rfl, tyX6_ok 0 (by decide), tyX6_ok, nmX6⟩
set_option maxRecDepth 20000 in
theorem fX6_same_21 : hq_fl vwCl wsX6_same RX6 21 6 1 false .int := ⟨RX6, TX6, 2, tyX6, rfl, by decide, iX6_same_6, by decide +kernel, rfl, tyX6_ok 1 (by decide), tyX6_ok, nmX6⟩
set_option maxHeartbeats 4000000 in
set_option maxRecDepth 100000 in
theorem cl_X6_same_15 {p : Program} {l : Launch} {e : Env} {s : State} {m : MethodId} {args : Array Value} {below : List Frame} {meth : Method} {c : Code} {D : va_G} {cA : Nat → ClassId} {B : Nat} {Z : State → Prop} (v0 : Nat) (hv0 : YC[v0]? = some (6, 0)) (v1 : Nat) (hv1 : YC[v1]? = some (6, 0))  {k : Int → Prop} {M : hq_M} (C : hq_C vwCl p m c cX6_same 3 s args wsX6_same RX6 meth (some .boolean) D cA (hq_in B YC.length) Z)
     : ∀ (n : Nat) (v2 : Int) (rv2 : rg v2) (H : Heap) (locs : List Loc) (ls : Array Slot), l_X6_same_15 v0 v1 k M n v2 → hq_S vwCl SLx D cA YC B s.heap M H locs → lv_has ls 3 [(0, .ref (B + v0)), (1, .ref (B + v1)), (2, .int (w3 v2))] → W p l e ({ frames := 0, cells := 0, slots := 0, locals := 0 } : Room) s m args below meth c H locs 0 0 (MQ below (hq_Q vwCl SLx D cA YC B (hq_qz (fun z M' => M' = M ∧ k z))) args s 0 0 (hq_in B YC.length)) (F0 m 15 ls []) := by
  have hx := C.1.1
  have hb := C.1.2.1
  intro n
  induction n with
  | zero => intro v2 rv2 H locs ls hw hs hl; exact hw.elim
  | succ n ih =>
    intro v2 rv2 H locs ls hw hs hl
    unfold l_X6_same_15 at hw
    refine lv_iload_n hx hb dX6_same_15 rfl (lv_at hl 2 rfl) ?_
    refine lv_aload_n hx hb dX6_same_16 rfl (lv_at hl 0 rfl) ?_
    refine hq_getI (o := v0) C hs fX6_same_21 hv0 (by decide) rfl dX6_same_17 (fun g1 => ?_)
    refine hq_icmp_ge (tgt := 64) C rv2 g1 dX6_same_20 (by decide) (fun h => ?_) (fun h => ?_)
    · have hw := hw.1 h
      refine hq_iconst C dX6_same_64 ?_
      exact hq_zret C hs (by decide) ⟨rfl, hw⟩ dX6_same_65
    · have hw := hw.2 h
      refine lv_iload_n hx hb dX6_same_23 rfl (lv_at hl 2 rfl) ?_
      refine lv_aload_n hx hb dX6_same_24 rfl (lv_at hl 0 rfl) ?_
      refine hq_getR (o := v0) C hs fX6_same_15 hv0 (by decide) rfl dX6_same_25 ?_
      refine hq_alen (o := (v0 + 1)) C hs (tc_6_0 hv0) (by decide) dX6_same_28 ?_
      refine hq_icmp_ge (tgt := 64) C rv2 (hq_lenrg _) dX6_same_29 (by decide) (fun h => ?_) (fun h => ?_)
      · have hw := hw.1 h
        refine hq_iconst C dX6_same_64 ?_
        exact hq_zret C hs (by decide) ⟨rfl, hw⟩ dX6_same_65
      · have hw := hw.2 h
        refine lv_iload_n hx hb dX6_same_32 rfl (lv_at hl 2 rfl) ?_
        refine lv_aload_n hx hb dX6_same_33 rfl (lv_at hl 1 rfl) ?_
        refine hq_getR (o := v1) C hs fX6_same_15 hv1 (by decide) rfl dX6_same_34 ?_
        refine hq_alen (o := (v1 + 1)) C hs (tc_6_0 hv1) (by decide) dX6_same_37 ?_
        refine hq_icmp_ge (tgt := 64) C rv2 (hq_lenrg _) dX6_same_38 (by decide) (fun h => ?_) (fun h => ?_)
        · have hw := hw.1 h
          refine hq_iconst C dX6_same_64 ?_
          exact hq_zret C hs (by decide) ⟨rfl, hw⟩ dX6_same_65
        · have hw := hw.2 h
          refine lv_aload_n hx hb dX6_same_41 rfl (lv_at hl 0 rfl) ?_
          refine hq_getR (o := v0) C hs fX6_same_15 hv0 (by decide) rfl dX6_same_42 ?_
          refine lv_iload_n hx hb dX6_same_45 rfl (lv_at hl 2 rfl) ?_
          obtain ⟨g2, hw⟩ := hw
          refine hq_iald (o := (v0 + 1)) C hs (tc_6_0 hv0) rv2 g2 dX6_same_46 (fun g3 => ?_)
          refine lv_aload_n hx hb dX6_same_47 rfl (lv_at hl 1 rfl) ?_
          refine hq_getR (o := v1) C hs fX6_same_15 hv1 (by decide) rfl dX6_same_48 ?_
          refine lv_iload_n hx hb dX6_same_51 rfl (lv_at hl 2 rfl) ?_
          obtain ⟨g4, hw⟩ := hw
          refine hq_iald (o := (v1 + 1)) C hs (tc_6_0 hv1) rv2 g4 dX6_same_52 (fun g5 => ?_)
          refine hq_icmp_eq (tgt := 58) C g3 g5 dX6_same_53 (by decide) (fun h => ?_) (fun h => ?_)
          · have hw := hw.1 h
            obtain ⟨g7, hw⟩ := hw
            refine hq_iinc (k := 2) C dX6_same_58 hl rfl (by decide) (fun x6 ex6 ls hl => ?_)
            have hw := hw x6 ex6
            have rx6 : rg x6 := by rw [ex6]; exact g7
            have hl : lv_has ls 3 [(2, .int (w3 x6)), (0, .ref (B + v0)), (1, .ref (B + v1))] := hl
            refine hq_goto (tgt := 15) C dX6_same_61 (by decide) ?_
            exact ih x6 rx6 _ _ _ hw hs (lv_sub hl [1, 2, 0] rfl)
          · have hw := hw.2 h
            refine hq_iconst C dX6_same_56 ?_
            exact hq_zret C hs (by decide) ⟨rfl, hw⟩ dX6_same_57
set_option maxHeartbeats 4000000 in
set_option maxRecDepth 100000 in
theorem c_X6_same (l : Launch) {D : va_G} {cA : Nat → ClassId} {B : Nat} {Z : State → Prop} (hZ : hq_Zo Z (hq_in B YC.length)) (v0 : Nat) (hv0 : YC[v0]? = some (6, 0)) (v1 : Nat) (hv1 : YC[v1]? = some (6, 0)) (M : hq_M) (k : Int → Prop) (hw : w_X6_same v0 v1 M k) : hq_T vwCl SLx l yX6_same wsX6_same ({ frames := 0, cells := 0, slots := 0, locals := 0 } : Room) D cA YC B Z [.ref (B + v0), .ref (B + v1)] M (hq_qz (fun z M' => M' = M ∧ k z)) := by
  refine hq_meth (cc := cX6_same) (maxL := 3) (ret := (some .boolean)) (own := RX6) hZ rfl (by decide +kernel) rfl (Nat.le_of_ble_eq_true rfl) ?_
  intro p e s m below meth c ls C hs hl
  have hx := C.1.1
  have hb := C.1.2.1
  unfold w_X6_same at hw
  have hl : lv_has ls 3 [(0, .ref (B + v0)), (1, .ref (B + v1))] := hl
  refine lv_aload_n hx hb dX6_same_0 rfl (lv_at hl 0 rfl) ?_
  refine hq_getI (o := v0) C hs fX6_same_21 hv0 (by decide) rfl dX6_same_1 (fun g1 => ?_)
  refine lv_aload_n hx hb dX6_same_4 rfl (lv_at hl 1 rfl) ?_
  refine hq_getI (o := v1) C hs fX6_same_21 hv1 (by decide) rfl dX6_same_5 (fun g2 => ?_)
  refine hq_icmp_eq (tgt := 13) C g1 g2 dX6_same_8 (by decide) (fun h => ?_) (fun h => ?_)
  · have hw := hw.1 h
    refine hq_iconst C dX6_same_13 ?_
    refine lv_istore_n (lv' := [(2, .int (w3 0)), (0, .ref (B + v0)), (1, .ref (B + v1))]) hx hb dX6_same_14 rfl hl (by decide) rfl (fun ls hl => ?_)
    obtain ⟨n9, hw⟩ := hw
    refine cl_X6_same_15 v0 hv0 v1 hv1 C  n9 0 (by decide : rg 0) _ _ _ hw hs (lv_sub hl [1, 2, 0] rfl)
  · have hw := hw.2 h
    refine hq_iconst C dX6_same_11 ?_
    exact hq_zret C hs (by decide) ⟨rfl, hw⟩ dX6_same_12
set_option maxHeartbeats 4000000 in
set_option maxRecDepth 100000 in
theorem cl_X6_addInteger_40 {p : Program} {l : Launch} {e : Env} {s : State} {m : MethodId} {args : Array Value} {below : List Frame} {meth : Method} {c : Code} {D : va_G} {cA : Nat → ClassId} {B : Nat} {Z : State → Prop} (v0 : Nat) (hv0 : YC[v0]? = some (6, 0)) {k_81 : Int → hq_M → Prop} {k : hq_M → Prop} (C : hq_C vwCl p m c cX6_addInteger 7 s args wsX6_addInteger RX6 meth none D cA (hq_in B YC.length) Z)
    (hk_81 : ∀ (y5 : Int) (ry5 : rg y5) (M1 : hq_M) (H : Heap) (locs : List Loc) (ls : Array Slot), k_81 y5 M1 → hq_S vwCl SLx D cA YC B s.heap M1 H locs → lv_has ls 7 [(0, .ref (B + v0)), (5, .int (w3 y5))] → W p l e ({ frames := 1, cells := 0, slots := 0, locals := 21 } : Room) s m args below meth c H locs 0 0 (MQ below (hq_Q vwCl SLx D cA YC B (hq_qv k)) args s 0 0 (hq_in B YC.length)) (F0 m 81 ls [])) : ∀ (n : Nat) (v5 : Int) (rv5 : rg v5) (v6 : Int) (rv6 : rg v6) (M : hq_M) (H : Heap) (locs : List Loc) (ls : Array Slot), l_X6_addInteger_40 v0 k_81 k n v5 v6 M → hq_S vwCl SLx D cA YC B s.heap M H locs → lv_has ls 7 [(0, .ref (B + v0)), (5, .int (w3 v5)), (6, .int (w3 v6))] → W p l e ({ frames := 1, cells := 0, slots := 0, locals := 21 } : Room) s m args below meth c H locs 0 0 (MQ below (hq_Q vwCl SLx D cA YC B (hq_qv k)) args s 0 0 (hq_in B YC.length)) (F0 m 40 ls []) := by
  have hx := C.1.1
  have hb := C.1.2.1
  intro n
  induction n with
  | zero => intro v5 rv5 v6 rv6 M H locs ls hw hs hl; exact hw.elim
  | succ n ih =>
    intro v5 rv5 v6 rv6 M H locs ls hw hs hl
    unfold l_X6_addInteger_40 at hw
    refine lv_iload hx hb dX6_addInteger_40 (lv_at hl 2 rfl) ?_
    refine hq_iconst C dX6_addInteger_42 ?_
    refine hq_icmp_ge (tgt := 81) C rv6 (by decide : rg 4) dX6_addInteger_43 (by decide) (fun h => ?_) (fun h => ?_)
    · have hw := hw.1 h
      exact hk_81 v5 rv5 _ _ _ _ hw hs (lv_sub hl [0, 1] rfl)
    · have hw := hw.2 h
      refine lv_iload hx hb dX6_addInteger_46 (lv_at hl 1 rfl) ?_
      refine hq_sipush C dX6_addInteger_48 (by decide) ?_
      refine hq_icmp_lt (tgt := 81) C rv5 (by decide : rg 128) dX6_addInteger_51 (by decide) (fun h => ?_) (fun h => ?_)
      · have hw := hw.1 h
        exact hk_81 v5 rv5 _ _ _ _ hw hs (lv_sub hl [0, 1] rfl)
      · have hw := hw.2 h
        refine lv_aload_n hx hb dX6_addInteger_54 rfl (lv_at hl 0 rfl) ?_
        refine hq_sipush C dX6_addInteger_55 (by decide) ?_
        refine lv_iload hx hb dX6_addInteger_58 (lv_at hl 1 rfl) ?_
        refine hq_bipush C dX6_addInteger_60 (by decide) ?_
        refine hq_iand (n := 128) 7 C (by decide) rv5 dX6_addInteger_62 ?_
        obtain ⟨g1, hw⟩ := hw
        refine hq_iadd C dX6_addInteger_63 ?_
        refine hq_cV (n := 1) (ci := 6) (o := v0) (qc := (TX6, 2)) C hs (c_X6_add l C.2.2.2.2.1 v0 hv0 (128 + (v5 % 128)) g1 _ _ hw) gX6_addInteger_X6_add rfl ⟨rfl, rfl⟩ (by decide +kernel) ⟨Nat.le_of_ble_eq_true rfl, Nat.le_of_ble_eq_true rfl⟩ hv0 (by decide) rfl rfl hl.1 rfl (Nat.le_of_ble_eq_true rfl) dX6_addInteger_64 (hq_kz (fun x3 M2 H locs rx3 hw hs => ?_))
        refine lv_pop hx hb dX6_addInteger_67 rfl ?_
        refine lv_iload hx hb dX6_addInteger_68 (lv_at hl 1 rfl) ?_
        refine hq_bipush C dX6_addInteger_70 (by decide) ?_
        obtain ⟨g4, hw⟩ := hw
        refine hq_ishr (n := 128) 7 C (by decide) rv5 g4 dX6_addInteger_72 ?_
        refine hq_nm (fun x5 ex5 => ?_)
        have hw := hw x5 ex5
        have rx5 : rg x5 := by rw [ex5]; exact (hq_rdiv rv5 (by decide : rg 128) ⟨g4, (by decide)⟩)
        refine lv_istore (lv' := [(5, .int (w3 x5)), (0, .ref (B + v0)), (6, .int (w3 v6))]) hx hb dX6_addInteger_73 hl (by decide) rfl (fun ls hl => ?_)
        obtain ⟨g7, hw⟩ := hw
        refine hq_iinc (k := 2) C dX6_addInteger_75 hl rfl (by decide) (fun x6 ex6 ls hl => ?_)
        have hw := hw x6 ex6
        have rx6 : rg x6 := by rw [ex6]; exact g7
        have hl : lv_has ls 7 [(6, .int (w3 x6)), (5, .int (w3 x5)), (0, .ref (B + v0))] := hl
        refine hq_goto (tgt := 40) C dX6_addInteger_78 (by decide) ?_
        exact ih x5 rx5 x6 rx6 _ _ _ _ hw hs (lv_sub hl [2, 1, 0] rfl)
set_option maxHeartbeats 4000000 in
set_option maxRecDepth 100000 in
theorem c_X6_addInteger (l : Launch) {D : va_G} {cA : Nat → ClassId} {B : Nat} {Z : State → Prop} (hZ : hq_Zo Z (hq_in B YC.length)) (v0 : Nat) (hv0 : YC[v0]? = some (6, 0)) (v1 : Int) (rv1 : rg v1) (v2 : Int) (rv2 : rg v2) (v3 : Int) (rv3 : rg v3) (M : hq_M) (k : hq_M → Prop) (hw : w_X6_addInteger v0 v1 v2 v3 M k) : hq_T vwCl SLx l yX6_addInteger wsX6_addInteger ({ frames := 1, cells := 0, slots := 0, locals := 21 } : Room) D cA YC B Z [.ref (B + v0), .int (w3 v1), .int (w3 v2), .int (w3 v3)] M (hq_qv k) := by
  refine hq_meth (cc := cX6_addInteger) (maxL := 7) (ret := none) (own := RX6) hZ rfl (by decide +kernel) rfl (Nat.le_of_ble_eq_true rfl) ?_
  intro p e s m below meth c ls C hs hl
  have hx := C.1.1
  have hb := C.1.2.1
  unfold w_X6_addInteger at hw
  have hl : lv_has ls 7 [(0, .ref (B + v0)), (1, .int (w3 v1)), (2, .int (w3 v2)), (3, .int (w3 v3))] := hl
  refine hq_iconst C dX6_addInteger_0 ?_
  refine lv_iload_n hx hb dX6_addInteger_1 rfl (lv_at hl 2 rfl) ?_
  obtain ⟨g1, g2, hw⟩ := hw
  refine hq_ishl C g1 dX6_addInteger_2 ?_
  refine hq_iconst C dX6_addInteger_3 ?_
  obtain ⟨g3, hw⟩ := hw
  refine hq_isub C dX6_addInteger_4 ?_
  refine hq_nm (fun x4 ex4 => ?_)
  have hw := hw x4 ex4
  have rx4 : rg x4 := by rw [ex4]; exact g3
  refine lv_istore (lv' := [(4, .int (w3 x4)), (0, .ref (B + v0)), (1, .int (w3 v1)), (2, .int (w3 v2)), (3, .int (w3 v3))]) hx hb dX6_addInteger_5 hl (by decide) rfl (fun ls hl => ?_)
  refine lv_iload_n hx hb dX6_addInteger_7 rfl (lv_at hl 4 rfl) ?_
  refine lv_iload hx hb dX6_addInteger_8 (lv_at hl 0 rfl) ?_
  refine hq_icmp_ge (tgt := 22) C rv3 rx4 dX6_addInteger_10 (by decide) (fun h => ?_) (fun h => ?_)
  · have hw := hw.1 h
    refine lv_aload_n hx hb dX6_addInteger_22 rfl (lv_at hl 1 rfl) ?_
    refine lv_iload_n hx hb dX6_addInteger_23 rfl (lv_at hl 2 rfl) ?_
    refine lv_iload hx hb dX6_addInteger_24 (lv_at hl 0 rfl) ?_
    obtain ⟨g5, hw⟩ := hw
    refine hq_iadd C dX6_addInteger_26 ?_
    refine hq_cV (n := 1) (ci := 6) (o := v0) (qc := (TX6, 2)) C hs (c_X6_add l C.2.2.2.2.1 v0 hv0 (v1 + x4) g5 _ _ hw) gX6_addInteger_X6_add rfl ⟨rfl, rfl⟩ (by decide +kernel) ⟨Nat.le_of_ble_eq_true rfl, Nat.le_of_ble_eq_true rfl⟩ hv0 (by decide) rfl rfl hl.1 rfl (Nat.le_of_ble_eq_true rfl) dX6_addInteger_27 (hq_kz (fun x7 M6 H locs rx7 hw hs => ?_))
    refine lv_pop hx hb dX6_addInteger_30 rfl ?_
    refine lv_iload_n hx hb dX6_addInteger_31 rfl (lv_at hl 4 rfl) ?_
    refine lv_iload hx hb dX6_addInteger_32 (lv_at hl 0 rfl) ?_
    obtain ⟨g8, hw⟩ := hw
    refine hq_isub C dX6_addInteger_34 ?_
    refine hq_nm (fun x9 ex9 => ?_)
    have hw := hw x9 ex9
    have rx9 : rg x9 := by rw [ex9]; exact g8
    refine lv_istore (lv' := [(5, .int (w3 x9)), (4, .int (w3 x4)), (0, .ref (B + v0)), (1, .int (w3 v1)), (2, .int (w3 v2)), (3, .int (w3 v3))]) hx hb dX6_addInteger_35 hl (by decide) rfl (fun ls hl => ?_)
    refine hq_iconst C dX6_addInteger_37 ?_
    refine lv_istore (lv' := [(6, .int (w3 0)), (5, .int (w3 x9)), (4, .int (w3 x4)), (0, .ref (B + v0)), (1, .int (w3 v1)), (2, .int (w3 v2)), (3, .int (w3 v3))]) hx hb dX6_addInteger_38 hl (by decide) rfl (fun ls hl => ?_)
    obtain ⟨n9, hw⟩ := hw
    refine cl_X6_addInteger_40 v0 hv0 C ?_ n9 x9 rx9 0 (by decide : rg 0) _ _ _ _ hw hs (lv_sub hl [3, 1, 0] rfl)
    · intro x11 rx11 M10 H locs ls hw hs hl
      refine lv_aload_n hx hb dX6_addInteger_81 rfl (lv_at hl 0 rfl) ?_
      refine lv_iload hx hb dX6_addInteger_82 (lv_at hl 1 rfl) ?_
      refine hq_cV (n := 1) (ci := 6) (o := v0) (qc := (TX6, 2)) C hs (c_X6_add l C.2.2.2.2.1 v0 hv0 x11 rx11 _ _ hw) gX6_addInteger_X6_add rfl ⟨rfl, rfl⟩ (by decide +kernel) ⟨Nat.le_of_ble_eq_true rfl, Nat.le_of_ble_eq_true rfl⟩ hv0 (by decide) rfl rfl hl.1 rfl (Nat.le_of_ble_eq_true rfl) dX6_addInteger_84 (hq_kz (fun x13 M12 H locs rx13 hw hs => ?_))
      refine lv_pop hx hb dX6_addInteger_87 rfl ?_
      exact hq_vret C hs hw dX6_addInteger_88
  · have hw := hw.2 h
    refine lv_aload_n hx hb dX6_addInteger_13 rfl (lv_at hl 1 rfl) ?_
    refine lv_iload_n hx hb dX6_addInteger_14 rfl (lv_at hl 2 rfl) ?_
    refine lv_iload_n hx hb dX6_addInteger_15 rfl (lv_at hl 4 rfl) ?_
    obtain ⟨g14, hw⟩ := hw
    refine hq_iadd C dX6_addInteger_16 ?_
    refine hq_cV (n := 1) (ci := 6) (o := v0) (qc := (TX6, 2)) C hs (c_X6_add l C.2.2.2.2.1 v0 hv0 (v1 + v3) g14 _ _ hw) gX6_addInteger_X6_add rfl ⟨rfl, rfl⟩ (by decide +kernel) ⟨Nat.le_of_ble_eq_true rfl, Nat.le_of_ble_eq_true rfl⟩ hv0 (by decide) rfl rfl hl.1 rfl (Nat.le_of_ble_eq_true rfl) dX6_addInteger_17 (hq_kz (fun x16 M15 H locs rx16 hw hs => ?_))
    refine lv_pop hx hb dX6_addInteger_20 rfl ?_
    exact hq_vret C hs hw dX6_addInteger_21
theorem iX6_addWord_6 : ∀ w ∈ u_ws RX6 TX6 2, w ∈ wsX6_addWord := fun w h => List.mem_cons_of_mem _ (List.mem_append_right _ h)
set_option maxRecDepth 20000 in
theorem fX6_addWord_21 : hq_fl vwCl wsX6_addWord RX6 21 6 1 false .int := ⟨RX6, TX6, 2, tyX6, rfl, by decide, iX6_addWord_6, by decide +kernel, rfl, tyX6_ok 1 (by decide), tyX6_ok, nmX6⟩
set_option maxHeartbeats 4000000 in
set_option maxRecDepth 100000 in
theorem c_X6_addWord (l : Launch) {D : va_G} {cA : Nat → ClassId} {B : Nat} {Z : State → Prop} (hZ : hq_Zo Z (hq_in B YC.length)) (v0 : Nat) (hv0 : YC[v0]? = some (6, 0)) (v1 : Int) (rv1 : rg v1) (v2 : Nat) (hv2 : YC[v2]? = some (6, 0)) (M : hq_M) (k : hq_M → Prop) (hw : w_X6_addWord v0 v1 v2 M k) : hq_T vwCl SLx l yX6_addWord wsX6_addWord ({ frames := 1, cells := 0, slots := 0, locals := 22 } : Room) D cA YC B Z [.ref (B + v0), .int (w3 v1), .ref (B + v2)] M (hq_qv k) := by
  refine hq_meth (cc := cX6_addWord) (maxL := 3) (ret := none) (own := RX6) hZ rfl (by decide +kernel) rfl (Nat.le_of_ble_eq_true rfl) ?_
  intro p e s m below meth c ls C hs hl
  have hx := C.1.1
  have hb := C.1.2.1
  unfold w_X6_addWord at hw
  have hl : lv_has ls 3 [(0, .ref (B + v0)), (1, .int (w3 v1)), (2, .ref (B + v2))] := hl
  refine lv_aload_n hx hb dX6_addWord_0 rfl (lv_at hl 0 rfl) ?_
  refine lv_iload_n hx hb dX6_addWord_1 rfl (lv_at hl 1 rfl) ?_
  refine lv_aload_n hx hb dX6_addWord_2 rfl (lv_at hl 2 rfl) ?_
  refine hq_getI (o := v2) C hs fX6_addWord_21 hv2 (by decide) rfl dX6_addWord_3 (fun g1 => ?_)
  obtain ⟨g2, hw⟩ := hw
  refine hq_iadd C dX6_addWord_6 ?_
  refine hq_cV (n := 1) (ci := 6) (o := v0) (qc := (TX6, 2)) C hs (c_X6_add l C.2.2.2.2.1 v0 hv0 (v1 + (M v2 1)) g2 _ _ hw) gX6_addWord_X6_add rfl ⟨rfl, rfl⟩ (by decide +kernel) ⟨Nat.le_of_ble_eq_true rfl, Nat.le_of_ble_eq_true rfl⟩ hv0 (by decide) rfl rfl hl.1 rfl (Nat.le_of_ble_eq_true rfl) dX6_addWord_7 (hq_kz (fun x4 M3 H locs rx4 hw hs => ?_))
  refine lv_pop hx hb dX6_addWord_10 rfl ?_
  refine lv_aload_n hx hb dX6_addWord_11 rfl (lv_at hl 0 rfl) ?_
  refine lv_aload_n hx hb dX6_addWord_12 rfl (lv_at hl 2 rfl) ?_
  refine hq_cV (n := 1) (ci := 6) (o := v0) (qc := (TX6, 2)) C hs (c_X6_addAll l C.2.2.2.2.1 v0 hv0 v2 hv2 _ _ hw) gX6_addWord_X6_addAll rfl ⟨rfl, rfl⟩ (by decide +kernel) ⟨Nat.le_of_ble_eq_true rfl, Nat.le_of_ble_eq_true rfl⟩ hv0 (by decide) rfl rfl hl.1 rfl (Nat.le_of_ble_eq_true rfl) dX6_addWord_13 (hq_kv (fun M5 H locs hw hs => ?_))
  exact hq_vret C hs hw dX6_addWord_16
theorem iX1_at_1 : ∀ w ∈ u_ws RX1 TX1 2, w ∈ wsX1_at := fun w h => List.mem_cons_of_mem _ (List.mem_append_right _ h)
set_option maxRecDepth 20000 in
theorem fX1_at_11 : hq_fl vwCl wsX1_at RX1 11 1 0 true (.array (.object "HeadTables$Letter")) := ⟨RX1, TX1, 2, tyX1, rfl, by decide, iX1_at_1, by decide +kernel, rfl, tyX1_ok 0 (by decide), tyX1_ok, nmX1⟩
set_option maxRecDepth 20000 in
theorem fX1_at_20 : hq_fl vwCl wsX1_at RX1 20 1 1 false .int := ⟨RX1, TX1, 2, tyX1, rfl, by decide, iX1_at_1, by decide +kernel, rfl, tyX1_ok 1 (by decide), tyX1_ok, nmX1⟩
set_option maxHeartbeats 4000000 in
set_option maxRecDepth 100000 in
theorem c_X1_at (l : Launch) {D : va_G} {cA : Nat → ClassId} {B : Nat} {Z : State → Prop} (hZ : hq_Zo Z (hq_in B YC.length)) (v1 : Int) (rv1 : rg v1) (M : hq_M) (k : Option Nat → Prop) (hw : w_X1_at v1 M k) : hq_T vwCl SLx l yX1_at wsX1_at ({ frames := 0, cells := 0, slots := 0, locals := 0 } : Room) D cA YC B Z [.ref (B + 168), .int (w3 v1)] M (hq_qr YC B 0 (fun z M' => M' = M ∧ k z)) := by
  refine hq_meth (cc := cX1_at) (maxL := 2) (ret := (some (.object "HeadTables$Letter"))) (own := RX1) hZ rfl (by decide +kernel) rfl (Nat.le_of_ble_eq_true rfl) ?_
  intro p e s m below meth c ls C hs hl
  have hx := C.1.1
  have hb := C.1.2.1
  unfold w_X1_at at hw
  have hl : lv_has ls 2 [(0, .ref (B + 168)), (1, .int (w3 v1))] := hl
  refine lv_iload_n hx hb dX1_at_0 rfl (lv_at hl 1 rfl) ?_
  refine hq_if_lt (tgt := 21) C rv1 dX1_at_1 (by decide) (fun h => ?_) (fun h => ?_)
  · have hw := hw.1 h
    refine lv_null hx hb dX1_at_21 ?_
    refine hq_goto (tgt := 31) C dX1_at_22 (by decide) ?_
    exact hq_aretN C hs ⟨rfl, hw⟩ dX1_at_31
  · have hw := hw.2 h
    refine lv_iload_n hx hb dX1_at_4 rfl (lv_at hl 1 rfl) ?_
    refine lv_aload_n hx hb dX1_at_5 rfl (lv_at hl 0 rfl) ?_
    refine hq_getI (o := 168) C hs fX1_at_20 tkC_168 (by decide) rfl dX1_at_6 (fun g1 => ?_)
    refine hq_icmp_ge (tgt := 21) C rv1 g1 dX1_at_9 (by decide) (fun h => ?_) (fun h => ?_)
    · have hw := hw.1 h
      refine lv_null hx hb dX1_at_21 ?_
      refine hq_goto (tgt := 31) C dX1_at_22 (by decide) ?_
      exact hq_aretN C hs ⟨rfl, hw⟩ dX1_at_31
    · have hw := hw.2 h
      refine lv_iload_n hx hb dX1_at_12 rfl (lv_at hl 1 rfl) ?_
      refine lv_aload_n hx hb dX1_at_13 rfl (lv_at hl 0 rfl) ?_
      refine hq_getR (o := 168) C hs fX1_at_11 tkC_168 (by decide) rfl dX1_at_14 ?_
      refine hq_alen (o := 169) C hs tkC_169 (by decide) dX1_at_17 ?_
      show W p l e _ s m _ below meth c _ _ 0 0 _ (F0 m _ _ (.int (w3 40) :: _))
      refine hq_icmp_lt (tgt := 25) C rv1 (by decide : rg 40) dX1_at_18 (by decide) (fun h => ?_) (fun h => ?_)
      · have hw := hw.1 h
        refine lv_aload_n hx hb dX1_at_25 rfl (lv_at hl 0 rfl) ?_
        refine hq_getR (o := 168) C hs fX1_at_11 tkC_168 (by decide) rfl dX1_at_26 ?_
        refine lv_iload_n hx hb dX1_at_29 rfl (lv_at hl 1 rfl) ?_
        obtain ⟨g2, hw⟩ := hw
        refine hq_aald (o := 169) C hs tkC_169 (by decide) rv1 g2 dX1_at_30 ?_
        have ho3 := tel_16 tkC_169 (i := v1.toNat) (by have := g2.1; have := g2.2; omega)
        obtain ⟨o3, eo3⟩ : ∃ y : Nat, y = 169 + 1 + 5 * v1.toNat := ⟨_, rfl⟩
        rw [← eo3] at ho3 ⊢
        have hw := hw o3 eo3
        exact hq_aret C hs ho3 ⟨rfl, hw⟩ dX1_at_31
      · have hw := hw.2 h
        refine lv_null hx hb dX1_at_21 ?_
        refine hq_goto (tgt := 31) C dX1_at_22 (by decide) ?_
        exact hq_aretN C hs ⟨rfl, hw⟩ dX1_at_31
theorem iX1_next_1 : ∀ w ∈ u_ws RX1 TX1 2, w ∈ wsX1_next := fun w h => List.mem_cons_of_mem _ (List.mem_append_right _ h)
set_option maxRecDepth 20000 in
theorem fX1_next_11 : hq_fl vwCl wsX1_next RX1 11 1 0 true (.array (.object "HeadTables$Letter")) := ⟨RX1, TX1, 2, tyX1, rfl, by decide, iX1_next_1, by decide +kernel, rfl, tyX1_ok 0 (by decide), tyX1_ok, nmX1⟩
set_option maxRecDepth 20000 in
theorem fX1_next_20 : hq_fl vwCl wsX1_next RX1 20 1 1 false .int := ⟨RX1, TX1, 2, tyX1, rfl, by decide, iX1_next_1, by decide +kernel, rfl, tyX1_ok 1 (by decide), tyX1_ok, nmX1⟩
set_option maxHeartbeats 4000000 in
set_option maxRecDepth 100000 in
theorem c_X1_next (l : Launch) {D : va_G} {cA : Nat → ClassId} {B : Nat} {Z : State → Prop} (hZ : hq_Zo Z (hq_in B YC.length))  (M : hq_M) (k : Option Nat → Prop) (hw : w_X1_next  M k) : hq_T vwCl SLx l yX1_next wsX1_next ({ frames := 0, cells := 0, slots := 0, locals := 0 } : Room) D cA YC B Z [.ref (B + 168)] M (hq_qr YC B 0 (fun z M' => M' = M ∧ k z)) := by
  refine hq_meth (cc := cX1_next) (maxL := 1) (ret := (some (.object "HeadTables$Letter"))) (own := RX1) hZ rfl (by decide +kernel) rfl (Nat.le_of_ble_eq_true rfl) ?_
  intro p e s m below meth c ls C hs hl
  have hx := C.1.1
  have hb := C.1.2.1
  unfold w_X1_next at hw
  have hl : lv_has ls 1 [(0, .ref (B + 168))] := hl
  refine lv_aload_n hx hb dX1_next_0 rfl (lv_at hl 0 rfl) ?_
  refine hq_getI (o := 168) C hs fX1_next_20 tkC_168 (by decide) rfl dX1_next_1 (fun g1 => ?_)
  refine hq_if_lt (tgt := 19) C g1 dX1_next_4 (by decide) (fun h => ?_) (fun h => ?_)
  · have hw := hw.1 h
    refine lv_null hx hb dX1_next_19 ?_
    refine hq_goto (tgt := 32) C dX1_next_20 (by decide) ?_
    exact hq_aretN C hs ⟨rfl, hw⟩ dX1_next_32
  · have hw := hw.2 h
    refine lv_aload_n hx hb dX1_next_7 rfl (lv_at hl 0 rfl) ?_
    refine hq_getI (o := 168) C hs fX1_next_20 tkC_168 (by decide) rfl dX1_next_8 (fun g2 => ?_)
    refine lv_aload_n hx hb dX1_next_11 rfl (lv_at hl 0 rfl) ?_
    refine hq_getR (o := 168) C hs fX1_next_11 tkC_168 (by decide) rfl dX1_next_12 ?_
    refine hq_alen (o := 169) C hs tkC_169 (by decide) dX1_next_15 ?_
    show W p l e _ s m _ below meth c _ _ 0 0 _ (F0 m _ _ (.int (w3 40) :: _))
    refine hq_icmp_lt (tgt := 23) C g2 (by decide : rg 40) dX1_next_16 (by decide) (fun h => ?_) (fun h => ?_)
    · have hw := hw.1 h
      refine lv_aload_n hx hb dX1_next_23 rfl (lv_at hl 0 rfl) ?_
      refine hq_getR (o := 168) C hs fX1_next_11 tkC_168 (by decide) rfl dX1_next_24 ?_
      refine lv_aload_n hx hb dX1_next_27 rfl (lv_at hl 0 rfl) ?_
      refine hq_getI (o := 168) C hs fX1_next_20 tkC_168 (by decide) rfl dX1_next_28 (fun g3 => ?_)
      obtain ⟨g4, hw⟩ := hw
      refine hq_aald (o := 169) C hs tkC_169 (by decide) g3 g4 dX1_next_31 ?_
      have ho5 := tel_16 tkC_169 (i := (M 168 1).toNat) (by have := g4.1; have := g4.2; omega)
      obtain ⟨o5, eo5⟩ : ∃ y : Nat, y = 169 + 1 + 5 * (M 168 1).toNat := ⟨_, rfl⟩
      rw [← eo5] at ho5 ⊢
      have hw := hw o5 eo5
      exact hq_aret C hs ho5 ⟨rfl, hw⟩ dX1_next_32
    · have hw := hw.2 h
      refine lv_null hx hb dX1_next_19 ?_
      refine hq_goto (tgt := 32) C dX1_next_20 (by decide) ?_
      exact hq_aretN C hs ⟨rfl, hw⟩ dX1_next_32
theorem iX3_at_3 : ∀ w ∈ u_ws RX3 TX3 2, w ∈ wsX3_at := fun w h => List.mem_cons_of_mem _ (List.mem_append_right _ h)
set_option maxRecDepth 20000 in
theorem fX3_at_17 : hq_fl vwCl wsX3_at RX3 17 3 0 true (.array (.object "HeadTables$Pair")) := ⟨RX3, TX3, 2, tyX3, rfl, by decide, iX3_at_3, by decide +kernel, rfl, tyX3_ok 0 (by decide), tyX3_ok, nmX3⟩
set_option maxRecDepth 20000 in
theorem fX3_at_24 : hq_fl vwCl wsX3_at RX3 24 3 1 false .int := ⟨RX3, TX3, 2, tyX3, rfl, by decide, iX3_at_3, by decide +kernel, rfl, tyX3_ok 1 (by decide), tyX3_ok, nmX3⟩
set_option maxHeartbeats 4000000 in
set_option maxRecDepth 100000 in
theorem c_X3_at (l : Launch) {D : va_G} {cA : Nat → ClassId} {B : Nat} {Z : State → Prop} (hZ : hq_Zo Z (hq_in B YC.length)) (v0 : Nat) (hv0 : YC[v0]? = some (3, 0)) (v1 : Int) (rv1 : rg v1) (M : hq_M) (k : Option Nat → Prop) (hw : w_X3_at v0 v1 M k) : hq_T vwCl SLx l yX3_at wsX3_at ({ frames := 0, cells := 0, slots := 0, locals := 0 } : Room) D cA YC B Z [.ref (B + v0), .int (w3 v1)] M (hq_qr YC B 2 (fun z M' => M' = M ∧ k z)) := by
  refine hq_meth (cc := cX3_at) (maxL := 2) (ret := (some (.object "HeadTables$Pair"))) (own := RX3) hZ rfl (by decide +kernel) rfl (Nat.le_of_ble_eq_true rfl) ?_
  intro p e s m below meth c ls C hs hl
  have hx := C.1.1
  have hb := C.1.2.1
  unfold w_X3_at at hw
  have hl : lv_has ls 2 [(0, .ref (B + v0)), (1, .int (w3 v1))] := hl
  refine lv_iload_n hx hb dX3_at_0 rfl (lv_at hl 1 rfl) ?_
  refine hq_if_lt (tgt := 21) C rv1 dX3_at_1 (by decide) (fun h => ?_) (fun h => ?_)
  · have hw := hw.1 h
    refine lv_null hx hb dX3_at_21 ?_
    refine hq_goto (tgt := 31) C dX3_at_22 (by decide) ?_
    exact hq_aretN C hs ⟨rfl, hw⟩ dX3_at_31
  · have hw := hw.2 h
    refine lv_iload_n hx hb dX3_at_4 rfl (lv_at hl 1 rfl) ?_
    refine lv_aload_n hx hb dX3_at_5 rfl (lv_at hl 0 rfl) ?_
    refine hq_getI (o := v0) C hs fX3_at_24 hv0 (by decide) rfl dX3_at_6 (fun g1 => ?_)
    refine hq_icmp_ge (tgt := 21) C rv1 g1 dX3_at_9 (by decide) (fun h => ?_) (fun h => ?_)
    · have hw := hw.1 h
      refine lv_null hx hb dX3_at_21 ?_
      refine hq_goto (tgt := 31) C dX3_at_22 (by decide) ?_
      exact hq_aretN C hs ⟨rfl, hw⟩ dX3_at_31
    · have hw := hw.2 h
      refine lv_iload_n hx hb dX3_at_12 rfl (lv_at hl 1 rfl) ?_
      refine lv_aload_n hx hb dX3_at_13 rfl (lv_at hl 0 rfl) ?_
      refine hq_getR (o := v0) C hs fX3_at_17 hv0 (by decide) rfl dX3_at_14 ?_
      refine hq_alen (o := (v0 + 1)) C hs (tc_3_0 hv0) (by decide) dX3_at_17 ?_
      refine hq_icmp_lt (tgt := 25) C rv1 (hq_lenrg _) dX3_at_18 (by decide) (fun h => ?_) (fun h => ?_)
      · have hw := hw.1 h
        refine lv_aload_n hx hb dX3_at_25 rfl (lv_at hl 0 rfl) ?_
        refine hq_getR (o := v0) C hs fX3_at_17 hv0 (by decide) rfl dX3_at_26 ?_
        refine lv_iload_n hx hb dX3_at_29 rfl (lv_at hl 1 rfl) ?_
        obtain ⟨g2, hw⟩ := hw
        refine hq_aald (o := (v0 + 1)) C hs (tc_3_0 hv0) (by decide) rv1 g2 dX3_at_30 ?_
        have ho3 := tel_17 (tc_3_0 hv0) (i := v1.toNat) (by have := g2.1; have := g2.2; omega)
        obtain ⟨o3, eo3⟩ : ∃ y : Nat, y = (v0 + 1) + 1 + 5 * v1.toNat := ⟨_, rfl⟩
        rw [← eo3] at ho3 ⊢
        have hw := hw o3 eo3
        exact hq_aret C hs ho3 ⟨rfl, hw⟩ dX3_at_31
      · have hw := hw.2 h
        refine lv_null hx hb dX3_at_21 ?_
        refine hq_goto (tgt := 31) C dX3_at_22 (by decide) ?_
        exact hq_aretN C hs ⟨rfl, hw⟩ dX3_at_31
theorem iX3_lowestNamed_2 : ∀ w ∈ u_ws RX2 TX2 2, w ∈ wsX3_lowestNamed := fun w h => List.mem_cons_of_mem _ (List.mem_append_left _ (List.mem_append_right _ h))
theorem iX3_lowestNamed_3 : ∀ w ∈ u_ws RX3 TX3 2, w ∈ wsX3_lowestNamed := fun w h => List.mem_cons_of_mem _ (List.mem_append_left _ (List.mem_append_left _ (List.mem_append_right _ h)))
set_option maxRecDepth 20000 in
theorem fX3_lowestNamed_24 : hq_fl vwCl wsX3_lowestNamed RX3 24 3 1 false .int := ⟨RX3, TX3, 2, tyX3, rfl, by decide, iX3_lowestNamed_3, by decide +kernel, rfl, tyX3_ok 1 (by decide), tyX3_ok, nmX3⟩
set_option maxRecDepth 20000 in
theorem fX3_lowestNamed_32 : hq_fl vwCl wsX3_lowestNamed RX3 32 2 0 true (.object "HeadTables$Row") := ⟨RX2, TX2, 2, tyX2, rfl, by decide, iX3_lowestNamed_2, by decide +kernel, rfl, tyX2_ok 0 (by decide), tyX2_ok, nmX2⟩
set_option maxHeartbeats 4000000 in
set_option maxRecDepth 100000 in
theorem cb_X3_lowestNamed_36 {p : Program} {l : Launch} {e : Env} {s : State} {m : MethodId} {args : Array Value} {below : List Frame} {meth : Method} {c : Code} {D : va_G} {cA : Nat → ClassId} {B : Nat} {Z : State → Prop} (v0 : Nat) (hv0 : YC[v0]? = some (3, 0)) (v1 : Nat) (hv1 : YC[v1]? = some (2, 0)) (v2 : Int) (rv2 : rg v2) {k_2 : Int → Prop} {k : Int → Prop} {M : hq_M} {H : Heap} {locs : List Loc} {ls : Array Slot} (C : hq_C vwCl p m c cX3_lowestNamed 4 s args wsX3_lowestNamed RX3 meth (some .int) D cA (hq_in B YC.length) Z)
    (hw : b_X3_lowestNamed_36 v0 v1 v2 k_2 k M) (hs : hq_S vwCl SLx D cA YC B s.heap M H locs) (hl : lv_has ls 4 [(0, .ref (B + v0)), (1, .ref (B + v1)), (2, .int (w3 v2))])
    (hk_2 : ∀ (y2 : Int) (ry2 : rg y2) (H : Heap) (locs : List Loc) (ls : Array Slot), k_2 y2 → hq_S vwCl SLx D cA YC B s.heap M H locs → lv_has ls 4 [(0, .ref (B + v0)), (1, .ref (B + v1)), (2, .int (w3 y2))] → W p l e ({ frames := 1, cells := 0, slots := 0, locals := 22 } : Room) s m args below meth c H locs 0 0 (MQ below (hq_Q vwCl SLx D cA YC B (hq_qi (fun z M' => M' = M ∧ k z))) args s 0 0 (hq_in B YC.length)) (F0 m 2 ls [])) : W p l e ({ frames := 1, cells := 0, slots := 0, locals := 22 } : Room) s m args below meth c H locs 0 0 (MQ below (hq_Q vwCl SLx D cA YC B (hq_qi (fun z M' => M' = M ∧ k z))) args s 0 0 (hq_in B YC.length)) (F0 m 36 ls []) := by
  have hx := C.1.1
  have hb := C.1.2.1
  unfold b_X3_lowestNamed_36 at hw
  obtain ⟨g2, hw⟩ := hw
  refine hq_iinc (k := 2) C dX3_lowestNamed_36 hl rfl (by decide) (fun x1 ex1 ls hl => ?_)
  have hw := hw x1 ex1
  have rx1 : rg x1 := by rw [ex1]; exact g2
  have hl : lv_has ls 4 [(2, .int (w3 x1)), (0, .ref (B + v0)), (1, .ref (B + v1))] := hl
  refine hq_goto (tgt := 2) C dX3_lowestNamed_39 (by decide) ?_
  exact hk_2 x1 rx1 _ _ _ hw hs (lv_sub hl [1, 2, 0] rfl)
set_option maxHeartbeats 4000000 in
set_option maxRecDepth 100000 in
theorem cl_X3_lowestNamed_2 {p : Program} {l : Launch} {e : Env} {s : State} {m : MethodId} {args : Array Value} {below : List Frame} {meth : Method} {c : Code} {D : va_G} {cA : Nat → ClassId} {B : Nat} {Z : State → Prop} (v0 : Nat) (hv0 : YC[v0]? = some (3, 0)) (v1 : Nat) (hv1 : YC[v1]? = some (2, 0))  {k : Int → Prop} {M : hq_M} (C : hq_C vwCl p m c cX3_lowestNamed 4 s args wsX3_lowestNamed RX3 meth (some .int) D cA (hq_in B YC.length) Z)
     : ∀ (n : Nat) (v2 : Int) (rv2 : rg v2) (H : Heap) (locs : List Loc) (ls : Array Slot), l_X3_lowestNamed_2 v0 v1 k M n v2 → hq_S vwCl SLx D cA YC B s.heap M H locs → lv_has ls 4 [(0, .ref (B + v0)), (1, .ref (B + v1)), (2, .int (w3 v2))] → W p l e ({ frames := 1, cells := 0, slots := 0, locals := 22 } : Room) s m args below meth c H locs 0 0 (MQ below (hq_Q vwCl SLx D cA YC B (hq_qi (fun z M' => M' = M ∧ k z))) args s 0 0 (hq_in B YC.length)) (F0 m 2 ls []) := by
  have hx := C.1.1
  have hb := C.1.2.1
  intro n
  induction n with
  | zero => intro v2 rv2 H locs ls hw hs hl; exact hw.elim
  | succ n ih =>
    intro v2 rv2 H locs ls hw hs hl
    unfold l_X3_lowestNamed_2 at hw
    refine lv_iload_n hx hb dX3_lowestNamed_2 rfl (lv_at hl 2 rfl) ?_
    refine lv_aload_n hx hb dX3_lowestNamed_3 rfl (lv_at hl 0 rfl) ?_
    refine hq_getI (o := v0) C hs fX3_lowestNamed_24 hv0 (by decide) rfl dX3_lowestNamed_4 (fun g1 => ?_)
    refine hq_icmp_ge (tgt := 42) C rv2 g1 dX3_lowestNamed_7 (by decide) (fun h => ?_) (fun h => ?_)
    · have hw := hw.1 h
      refine hq_bipush C dX3_lowestNamed_42 (by decide) ?_
      exact hq_iret C hs (by decide : rg (-9)) ⟨rfl, hw⟩ dX3_lowestNamed_44
    · have hw := hw.2 h
      refine lv_aload_n hx hb dX3_lowestNamed_10 rfl (lv_at hl 0 rfl) ?_
      refine lv_iload_n hx hb dX3_lowestNamed_11 rfl (lv_at hl 2 rfl) ?_
      refine hq_cV (n := 1) (ci := 3) (o := v0) (qc := (TX3, 2)) C hs (c_X3_at l C.2.2.2.2.1 v0 hv0 v2 rv2 _ _ hw) gX3_lowestNamed_X3_at rfl ⟨rfl, rfl⟩ (by decide +kernel) ⟨Nat.le_of_ble_eq_true rfl, Nat.le_of_ble_eq_true rfl⟩ hv0 (by decide) rfl rfl hl.1 rfl (Nat.le_of_ble_eq_true rfl) dX3_lowestNamed_12 (hq_kr (fun M9 H locs hw hs => ?_) (fun o2 M9 H locs ho2 hw hs => ?_))
      · obtain ⟨e9, hw⟩ := hw; rw [e9] at hs
        have hw := hw.1 rfl
        refine lv_astore_nN (lv' := [(3, .null), (0, .ref (B + v0)), (1, .ref (B + v1)), (2, .int (w3 v2))]) hx hb dX3_lowestNamed_15 rfl hl (by decide) rfl (fun ls hl => ?_)
        refine lv_aload_nN hx hb dX3_lowestNamed_16 rfl (lv_at hl 0 rfl) ?_
        refine lv_ifnullN (tgt := 36) hx hb dX3_lowestNamed_17 (by decide) ?_
        refine cb_X3_lowestNamed_36 v0 hv0 v1 hv1 v2 rv2 C hw hs (lv_sub hl [1, 2, 3] rfl) ?_
        · intro y2 ry2 H locs ls hw hs hl
          exact ih y2 ry2 _ _ _ hw hs (lv_sub hl [0, 1, 2] rfl)
      · obtain ⟨e9, hw⟩ := hw; rw [e9] at hs
        have hw := hw.2 o2 rfl
        refine lv_astore_n (lv' := [(3, .ref (B + o2)), (0, .ref (B + v0)), (1, .ref (B + v1)), (2, .int (w3 v2))]) hx hb dX3_lowestNamed_15 rfl hl (by decide) rfl (fun ls hl => ?_)
        refine lv_aload_n hx hb dX3_lowestNamed_16 rfl (lv_at hl 0 rfl) ?_
        refine lv_ifnull hx hb dX3_lowestNamed_17 ?_
        refine lv_aload_n hx hb dX3_lowestNamed_20 rfl (lv_at hl 0 rfl) ?_
        refine hq_getR (o := o2) C hs fX3_lowestNamed_32 ho2 (by decide) rfl dX3_lowestNamed_21 ?_
        refine lv_aload_n hx hb dX3_lowestNamed_24 rfl (lv_at hl 2 rfl) ?_
        refine hq_getR (o := v1) C hs fX3_lowestNamed_32 hv1 (by decide) rfl dX3_lowestNamed_25 ?_
        refine hq_cV (n := 1) (ci := 6) (o := (o2 + 1)) (qc := (TX6, 2)) C hs (c_X6_same l C.2.2.2.2.1 (o2 + 1) (tc_2_0 ho2) (v1 + 1) (tc_2_0 hv1) _ _ hw) gX3_lowestNamed_X6_same rfl ⟨rfl, rfl⟩ (by decide +kernel) ⟨Nat.le_of_ble_eq_true rfl, Nat.le_of_ble_eq_true rfl⟩ (tc_2_0 ho2) (by decide) rfl rfl hl.1 rfl (Nat.le_of_ble_eq_true rfl) dX3_lowestNamed_28 (hq_kz (fun x4 M9 H locs rx4 hw hs => ?_))
        obtain ⟨e9, hw⟩ := hw; rw [e9] at hs
        refine hq_if_eq (tgt := 36) C (rb_rg rx4) dX3_lowestNamed_31 (by decide) (fun h => ?_) (fun h => ?_)
        · have hw := hw.1 h
          refine cb_X3_lowestNamed_36 v0 hv0 v1 hv1 v2 rv2 C hw hs (lv_sub hl [1, 2, 3] rfl) ?_
          · intro y2 ry2 H locs ls hw hs hl
            exact ih y2 ry2 _ _ _ hw hs (lv_sub hl [0, 1, 2] rfl)
        · have hw := hw.2 h
          refine lv_iload_n hx hb dX3_lowestNamed_34 rfl (lv_at hl 3 rfl) ?_
          exact hq_iret C hs rv2 ⟨rfl, hw⟩ dX3_lowestNamed_35
set_option maxHeartbeats 4000000 in
set_option maxRecDepth 100000 in
theorem c_X3_lowestNamed (l : Launch) {D : va_G} {cA : Nat → ClassId} {B : Nat} {Z : State → Prop} (hZ : hq_Zo Z (hq_in B YC.length)) (v0 : Nat) (hv0 : YC[v0]? = some (3, 0)) (v1 : Nat) (hv1 : YC[v1]? = some (2, 0)) (M : hq_M) (k : Int → Prop) (hw : w_X3_lowestNamed v0 v1 M k) : hq_T vwCl SLx l yX3_lowestNamed wsX3_lowestNamed ({ frames := 1, cells := 0, slots := 0, locals := 22 } : Room) D cA YC B Z [.ref (B + v0), .ref (B + v1)] M (hq_qi (fun z M' => M' = M ∧ k z)) := by
  refine hq_meth (cc := cX3_lowestNamed) (maxL := 4) (ret := (some .int)) (own := RX3) hZ rfl (by decide +kernel) rfl (Nat.le_of_ble_eq_true rfl) ?_
  intro p e s m below meth c ls C hs hl
  have hx := C.1.1
  have hb := C.1.2.1
  unfold w_X3_lowestNamed at hw
  have hl : lv_has ls 4 [(0, .ref (B + v0)), (1, .ref (B + v1))] := hl
  refine hq_iconst C dX3_lowestNamed_0 ?_
  refine lv_istore_n (lv' := [(2, .int (w3 0)), (0, .ref (B + v0)), (1, .ref (B + v1))]) hx hb dX3_lowestNamed_1 rfl hl (by decide) rfl (fun ls hl => ?_)
  obtain ⟨n9, hw⟩ := hw
  refine cl_X3_lowestNamed_2 v0 hv0 v1 hv1 C  n9 0 (by decide : rg 0) _ _ _ hw hs (lv_sub hl [1, 2, 0] rfl)
theorem iX3_lowestLike_2 : ∀ w ∈ u_ws RX2 TX2 2, w ∈ wsX3_lowestLike := fun w h => List.mem_cons_of_mem _ (List.mem_append_left _ (List.mem_append_right _ h))
theorem iX3_lowestLike_3 : ∀ w ∈ u_ws RX3 TX3 2, w ∈ wsX3_lowestLike := fun w h => List.mem_cons_of_mem _ (List.mem_append_left _ (List.mem_append_left _ (List.mem_append_right _ h)))
set_option maxRecDepth 20000 in
theorem fX3_lowestLike_24 : hq_fl vwCl wsX3_lowestLike RX3 24 3 1 false .int := ⟨RX3, TX3, 2, tyX3, rfl, by decide, iX3_lowestLike_3, by decide +kernel, rfl, tyX3_ok 1 (by decide), tyX3_ok, nmX3⟩
set_option maxRecDepth 20000 in
theorem fX3_lowestLike_32 : hq_fl vwCl wsX3_lowestLike RX3 32 2 0 true (.object "HeadTables$Row") := ⟨RX2, TX2, 2, tyX2, rfl, by decide, iX3_lowestLike_2, by decide +kernel, rfl, tyX2_ok 0 (by decide), tyX2_ok, nmX2⟩
set_option maxRecDepth 20000 in
theorem fX3_lowestLike_42 : hq_fl vwCl wsX3_lowestLike RX3 42 2 1 true (.object "HeadTables$Row") := ⟨RX2, TX2, 2, tyX2, rfl, by decide, iX3_lowestLike_2, by decide +kernel, rfl, tyX2_ok 1 (by decide), tyX2_ok, nmX2⟩
set_option maxHeartbeats 4000000 in
set_option maxRecDepth 100000 in
theorem cb_X3_lowestLike_50 {p : Program} {l : Launch} {e : Env} {s : State} {m : MethodId} {args : Array Value} {below : List Frame} {meth : Method} {c : Code} {D : va_G} {cA : Nat → ClassId} {B : Nat} {Z : State → Prop} (v0 : Nat) (hv0 : YC[v0]? = some (3, 0)) (v1 : Nat) (hv1 : YC[v1]? = some (2, 0)) (v2 : Int) (rv2 : rg v2) {k_2 : Int → Prop} {k : Int → Prop} {M : hq_M} {H : Heap} {locs : List Loc} {ls : Array Slot} (C : hq_C vwCl p m c cX3_lowestLike 4 s args wsX3_lowestLike RX3 meth (some .int) D cA (hq_in B YC.length) Z)
    (hw : b_X3_lowestLike_50 v0 v1 v2 k_2 k M) (hs : hq_S vwCl SLx D cA YC B s.heap M H locs) (hl : lv_has ls 4 [(0, .ref (B + v0)), (1, .ref (B + v1)), (2, .int (w3 v2))])
    (hk_2 : ∀ (y2 : Int) (ry2 : rg y2) (H : Heap) (locs : List Loc) (ls : Array Slot), k_2 y2 → hq_S vwCl SLx D cA YC B s.heap M H locs → lv_has ls 4 [(0, .ref (B + v0)), (1, .ref (B + v1)), (2, .int (w3 y2))] → W p l e ({ frames := 1, cells := 0, slots := 0, locals := 22 } : Room) s m args below meth c H locs 0 0 (MQ below (hq_Q vwCl SLx D cA YC B (hq_qi (fun z M' => M' = M ∧ k z))) args s 0 0 (hq_in B YC.length)) (F0 m 2 ls [])) : W p l e ({ frames := 1, cells := 0, slots := 0, locals := 22 } : Room) s m args below meth c H locs 0 0 (MQ below (hq_Q vwCl SLx D cA YC B (hq_qi (fun z M' => M' = M ∧ k z))) args s 0 0 (hq_in B YC.length)) (F0 m 50 ls []) := by
  have hx := C.1.1
  have hb := C.1.2.1
  unfold b_X3_lowestLike_50 at hw
  obtain ⟨g2, hw⟩ := hw
  refine hq_iinc (k := 2) C dX3_lowestLike_50 hl rfl (by decide) (fun x1 ex1 ls hl => ?_)
  have hw := hw x1 ex1
  have rx1 : rg x1 := by rw [ex1]; exact g2
  have hl : lv_has ls 4 [(2, .int (w3 x1)), (0, .ref (B + v0)), (1, .ref (B + v1))] := hl
  refine hq_goto (tgt := 2) C dX3_lowestLike_53 (by decide) ?_
  exact hk_2 x1 rx1 _ _ _ hw hs (lv_sub hl [1, 2, 0] rfl)
set_option maxHeartbeats 4000000 in
set_option maxRecDepth 100000 in
theorem cl_X3_lowestLike_2 {p : Program} {l : Launch} {e : Env} {s : State} {m : MethodId} {args : Array Value} {below : List Frame} {meth : Method} {c : Code} {D : va_G} {cA : Nat → ClassId} {B : Nat} {Z : State → Prop} (v0 : Nat) (hv0 : YC[v0]? = some (3, 0)) (v1 : Nat) (hv1 : YC[v1]? = some (2, 0))  {k : Int → Prop} {M : hq_M} (C : hq_C vwCl p m c cX3_lowestLike 4 s args wsX3_lowestLike RX3 meth (some .int) D cA (hq_in B YC.length) Z)
     : ∀ (n : Nat) (v2 : Int) (rv2 : rg v2) (H : Heap) (locs : List Loc) (ls : Array Slot), l_X3_lowestLike_2 v0 v1 k M n v2 → hq_S vwCl SLx D cA YC B s.heap M H locs → lv_has ls 4 [(0, .ref (B + v0)), (1, .ref (B + v1)), (2, .int (w3 v2))] → W p l e ({ frames := 1, cells := 0, slots := 0, locals := 22 } : Room) s m args below meth c H locs 0 0 (MQ below (hq_Q vwCl SLx D cA YC B (hq_qi (fun z M' => M' = M ∧ k z))) args s 0 0 (hq_in B YC.length)) (F0 m 2 ls []) := by
  have hx := C.1.1
  have hb := C.1.2.1
  intro n
  induction n with
  | zero => intro v2 rv2 H locs ls hw hs hl; exact hw.elim
  | succ n ih =>
    intro v2 rv2 H locs ls hw hs hl
    unfold l_X3_lowestLike_2 at hw
    refine lv_iload_n hx hb dX3_lowestLike_2 rfl (lv_at hl 2 rfl) ?_
    refine lv_aload_n hx hb dX3_lowestLike_3 rfl (lv_at hl 0 rfl) ?_
    refine hq_getI (o := v0) C hs fX3_lowestLike_24 hv0 (by decide) rfl dX3_lowestLike_4 (fun g1 => ?_)
    refine hq_icmp_ge (tgt := 56) C rv2 g1 dX3_lowestLike_7 (by decide) (fun h => ?_) (fun h => ?_)
    · have hw := hw.1 h
      refine hq_bipush C dX3_lowestLike_56 (by decide) ?_
      exact hq_iret C hs (by decide : rg (-9)) ⟨rfl, hw⟩ dX3_lowestLike_58
    · have hw := hw.2 h
      refine lv_aload_n hx hb dX3_lowestLike_10 rfl (lv_at hl 0 rfl) ?_
      refine lv_iload_n hx hb dX3_lowestLike_11 rfl (lv_at hl 2 rfl) ?_
      refine hq_cV (n := 1) (ci := 3) (o := v0) (qc := (TX3, 2)) C hs (c_X3_at l C.2.2.2.2.1 v0 hv0 v2 rv2 _ _ hw) gX3_lowestLike_X3_at rfl ⟨rfl, rfl⟩ (by decide +kernel) ⟨Nat.le_of_ble_eq_true rfl, Nat.le_of_ble_eq_true rfl⟩ hv0 (by decide) rfl rfl hl.1 rfl (Nat.le_of_ble_eq_true rfl) dX3_lowestLike_12 (hq_kr (fun M9 H locs hw hs => ?_) (fun o2 M9 H locs ho2 hw hs => ?_))
      · obtain ⟨e9, hw⟩ := hw; rw [e9] at hs
        have hw := hw.1 rfl
        refine lv_astore_nN (lv' := [(3, .null), (0, .ref (B + v0)), (1, .ref (B + v1)), (2, .int (w3 v2))]) hx hb dX3_lowestLike_15 rfl hl (by decide) rfl (fun ls hl => ?_)
        refine lv_aload_nN hx hb dX3_lowestLike_16 rfl (lv_at hl 0 rfl) ?_
        refine lv_ifnullN (tgt := 50) hx hb dX3_lowestLike_17 (by decide) ?_
        refine cb_X3_lowestLike_50 v0 hv0 v1 hv1 v2 rv2 C hw hs (lv_sub hl [1, 2, 3] rfl) ?_
        · intro y2 ry2 H locs ls hw hs hl
          exact ih y2 ry2 _ _ _ hw hs (lv_sub hl [0, 1, 2] rfl)
      · obtain ⟨e9, hw⟩ := hw; rw [e9] at hs
        have hw := hw.2 o2 rfl
        refine lv_astore_n (lv' := [(3, .ref (B + o2)), (0, .ref (B + v0)), (1, .ref (B + v1)), (2, .int (w3 v2))]) hx hb dX3_lowestLike_15 rfl hl (by decide) rfl (fun ls hl => ?_)
        refine lv_aload_n hx hb dX3_lowestLike_16 rfl (lv_at hl 0 rfl) ?_
        refine lv_ifnull hx hb dX3_lowestLike_17 ?_
        refine lv_aload_n hx hb dX3_lowestLike_20 rfl (lv_at hl 0 rfl) ?_
        refine hq_getR (o := o2) C hs fX3_lowestLike_32 ho2 (by decide) rfl dX3_lowestLike_21 ?_
        refine lv_aload_n hx hb dX3_lowestLike_24 rfl (lv_at hl 2 rfl) ?_
        refine hq_getR (o := v1) C hs fX3_lowestLike_32 hv1 (by decide) rfl dX3_lowestLike_25 ?_
        refine hq_cV (n := 1) (ci := 6) (o := (o2 + 1)) (qc := (TX6, 2)) C hs (c_X6_same l C.2.2.2.2.1 (o2 + 1) (tc_2_0 ho2) (v1 + 1) (tc_2_0 hv1) _ _ hw) gX3_lowestLike_X6_same rfl ⟨rfl, rfl⟩ (by decide +kernel) ⟨Nat.le_of_ble_eq_true rfl, Nat.le_of_ble_eq_true rfl⟩ (tc_2_0 ho2) (by decide) rfl rfl hl.1 rfl (Nat.le_of_ble_eq_true rfl) dX3_lowestLike_28 (hq_kz (fun x4 M9 H locs rx4 hw hs => ?_))
        obtain ⟨e9, hw⟩ := hw; rw [e9] at hs
        refine hq_if_eq (tgt := 50) C (rb_rg rx4) dX3_lowestLike_31 (by decide) (fun h => ?_) (fun h => ?_)
        · have hw := hw.1 h
          refine cb_X3_lowestLike_50 v0 hv0 v1 hv1 v2 rv2 C hw hs (lv_sub hl [1, 2, 3] rfl) ?_
          · intro y2 ry2 H locs ls hw hs hl
            exact ih y2 ry2 _ _ _ hw hs (lv_sub hl [0, 1, 2] rfl)
        · have hw := hw.2 h
          refine lv_aload_n hx hb dX3_lowestLike_34 rfl (lv_at hl 0 rfl) ?_
          refine hq_getR (o := o2) C hs fX3_lowestLike_42 ho2 (by decide) rfl dX3_lowestLike_35 ?_
          refine lv_aload_n hx hb dX3_lowestLike_38 rfl (lv_at hl 2 rfl) ?_
          refine hq_getR (o := v1) C hs fX3_lowestLike_42 hv1 (by decide) rfl dX3_lowestLike_39 ?_
          refine hq_cV (n := 1) (ci := 6) (o := (o2 + 3)) (qc := (TX6, 2)) C hs (c_X6_same l C.2.2.2.2.1 (o2 + 3) (tc_2_1 ho2) (v1 + 3) (tc_2_1 hv1) _ _ hw) gX3_lowestLike_X6_same rfl ⟨rfl, rfl⟩ (by decide +kernel) ⟨Nat.le_of_ble_eq_true rfl, Nat.le_of_ble_eq_true rfl⟩ (tc_2_1 ho2) (by decide) rfl rfl hl.1 rfl (Nat.le_of_ble_eq_true rfl) dX3_lowestLike_42 (hq_kz (fun x5 M9 H locs rx5 hw hs => ?_))
          obtain ⟨e9, hw⟩ := hw; rw [e9] at hs
          refine hq_if_eq (tgt := 50) C (rb_rg rx5) dX3_lowestLike_45 (by decide) (fun h => ?_) (fun h => ?_)
          · have hw := hw.1 h
            refine cb_X3_lowestLike_50 v0 hv0 v1 hv1 v2 rv2 C hw hs (lv_sub hl [1, 2, 3] rfl) ?_
            · intro y2 ry2 H locs ls hw hs hl
              exact ih y2 ry2 _ _ _ hw hs (lv_sub hl [0, 1, 2] rfl)
          · have hw := hw.2 h
            refine lv_iload_n hx hb dX3_lowestLike_48 rfl (lv_at hl 3 rfl) ?_
            exact hq_iret C hs rv2 ⟨rfl, hw⟩ dX3_lowestLike_49
set_option maxHeartbeats 4000000 in
set_option maxRecDepth 100000 in
theorem c_X3_lowestLike (l : Launch) {D : va_G} {cA : Nat → ClassId} {B : Nat} {Z : State → Prop} (hZ : hq_Zo Z (hq_in B YC.length)) (v0 : Nat) (hv0 : YC[v0]? = some (3, 0)) (v1 : Nat) (hv1 : YC[v1]? = some (2, 0)) (M : hq_M) (k : Int → Prop) (hw : w_X3_lowestLike v0 v1 M k) : hq_T vwCl SLx l yX3_lowestLike wsX3_lowestLike ({ frames := 1, cells := 0, slots := 0, locals := 22 } : Room) D cA YC B Z [.ref (B + v0), .ref (B + v1)] M (hq_qi (fun z M' => M' = M ∧ k z)) := by
  refine hq_meth (cc := cX3_lowestLike) (maxL := 4) (ret := (some .int)) (own := RX3) hZ rfl (by decide +kernel) rfl (Nat.le_of_ble_eq_true rfl) ?_
  intro p e s m below meth c ls C hs hl
  have hx := C.1.1
  have hb := C.1.2.1
  unfold w_X3_lowestLike at hw
  have hl : lv_has ls 4 [(0, .ref (B + v0)), (1, .ref (B + v1))] := hl
  refine hq_iconst C dX3_lowestLike_0 ?_
  refine lv_istore_n (lv' := [(2, .int (w3 0)), (0, .ref (B + v0)), (1, .ref (B + v1))]) hx hb dX3_lowestLike_1 rfl hl (by decide) rfl (fun ls hl => ?_)
  obtain ⟨n9, hw⟩ := hw
  refine cl_X3_lowestLike_2 v0 hv0 v1 hv1 C  n9 0 (by decide : rg 0) _ _ _ hw hs (lv_sub hl [1, 2, 0] rfl)
