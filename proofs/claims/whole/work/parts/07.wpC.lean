/-! ===== what each method needs, read out of its bytecode by program (wip/whole/gen) ===== -/
def w_X6_empty (v0 : Nat) (M : hq_M) (k : hq_M → Prop) : Prop :=
  ∀ M1 : hq_M, M1 = hq_up M v0 1 0 →
  k M1
def l_X6_addAll_2 (v0 : Nat) (v1 : Nat) (k : hq_M → Prop) : Nat → Int → hq_M → Prop
  | 0, _, _ => False
  | n + 1, v2, M =>
    ((M v1 1) ≤ v2 →
      k M) ∧
    (¬ (M v1 1) ≤ v2 →
      ((hq_len YC (v1 + 1) : Int) ≤ v2 →
        k M) ∧
      (¬ (hq_len YC (v1 + 1) : Int) ≤ v2 →
        ((M v0 1) < 0 →
          k M) ∧
        (¬ (M v0 1) < 0 →
          ((hq_len YC (v0 + 1) : Int) ≤ (M v0 1) →
            k M) ∧
          (¬ (hq_len YC (v0 + 1) : Int) ≤ (M v0 1) →
            (0 ≤ v2 ∧ v2 < (hq_len YC (v1 + 1) : Int)) ∧
            (0 ≤ (M v0 1) ∧ (M v0 1) < (hq_len YC (v0 + 1) : Int)) ∧
            ∀ M8 : hq_M, M8 = hq_up M (v0 + 1) ((M v0 1).toNat) (M (v1 + 1) v2.toNat) →
            rg ((M8 v0 1) + 1) ∧
            ∀ M11 : hq_M, M11 = hq_up M8 v0 1 ((M8 v0 1) + 1) →
            rg (v2 + 1) ∧ ∀ x12 : Int, x12 = (v2 + 1) →
            l_X6_addAll_2 v0 v1 k n x12 M11))))
def w_X6_addAll (v0 : Nat) (v1 : Nat) (M : hq_M) (k : hq_M → Prop) : Prop :=
  ∃ m2, l_X6_addAll_2 v0 v1 k m2 0 M
def w_X0_begin (v0 : Nat) (v1 : Nat) (M : hq_M) (k : hq_M → Prop) : Prop :=
  w_X6_empty (v0 + 1) M (fun M1 =>
    w_X6_addAll (v0 + 1) v1 M1 (fun M2 =>
      w_X6_empty (v0 + 3) M2 (fun M3 =>
        ∀ M4 : hq_M, M4 = hq_up M3 v0 3 0 →
        ∀ M5 : hq_M, M5 = hq_up M4 v0 4 0 →
        ∀ M6 : hq_M, M6 = hq_up M5 v0 5 0 →
        ∀ M7 : hq_M, M7 = hq_up M6 v0 6 0 →
        ∀ M8 : hq_M, M8 = hq_up M7 v0 7 0 →
        k M8)))
def w_X1_at (v1 : Int) (M : hq_M) (k : Option Nat → Prop) : Prop :=
  (v1 < 0 →
    k none) ∧
  (¬ v1 < 0 →
    ((M 168 1) ≤ v1 →
      k none) ∧
    (¬ (M 168 1) ≤ v1 →
      (v1 < 40 →
        (0 ≤ v1 ∧ v1 < 40) ∧ ∀ o3 : Nat, o3 = 169 + 1 + 5 * v1.toNat →
        k (some o3)) ∧
      (¬ v1 < 40 →
        k none)))
def w_X1_next  (M : hq_M) (k : Option Nat → Prop) : Prop :=
  ((M 168 1) < 0 →
    k none) ∧
  (¬ (M 168 1) < 0 →
    ((M 168 1) < 40 →
      (0 ≤ (M 168 1) ∧ (M 168 1) < 40) ∧ ∀ o5 : Nat, o5 = 169 + 1 + 5 * (M 168 1).toNat →
      k (some o5)) ∧
    (¬ (M 168 1) < 40 →
      k none))
def b_X1_atRisk_44 (v1 : Int) (v2 : Int) (v3 : Int) (k_4 : Int → Int → Prop) (k : Int → Prop) (M : hq_M) : Prop :=
  rg (v3 + 1) ∧ ∀ x1 : Int, x1 = (v3 + 1) →
  k_4 v2 x1
def l_X1_atRisk_4 (v1 : Int) (k : Int → Prop) (M : hq_M) : Nat → Int → Int → Prop
  | 0, _, _ => False
  | n + 1, v2, v3 =>
    ((M 168 1) ≤ v3 →
      k v2) ∧
    (¬ (M 168 1) ≤ v3 →
      w_X1_at v3 M (fun q3 =>
        (q3 = none →
          b_X1_atRisk_44 v1 v2 v3 (fun v2q v3q => l_X1_atRisk_4 v1 k M n v2q v3q) k M) ∧
        (∀ o2, q3 = some o2 →
          (¬ (M o2 7) = 0 →
            b_X1_atRisk_44 v1 v2 v3 (fun v2q v3q => l_X1_atRisk_4 v1 k M n v2q v3q) k M) ∧
          ((M o2 7) = 0 →
            ((M o2 3) ≤ v1 →
              b_X1_atRisk_44 v1 v2 v3 (fun v2q v3q => l_X1_atRisk_4 v1 k M n v2q v3q) k M) ∧
            (¬ (M o2 3) ≤ v1 →
              rg (v2 + 1) ∧ ∀ x6 : Int, x6 = (v2 + 1) →
              b_X1_atRisk_44 v1 x6 v3 (fun v2q v3q => l_X1_atRisk_4 v1 k M n v2q v3q) k M)))))
def w_X1_atRisk (v1 : Int) (M : hq_M) (k : Int → Prop) : Prop :=
  ∃ m4, l_X1_atRisk_4 v1 k M m4 0 0
def w_X1_isBlocked (v1 : Int) (M : hq_M) (k : Int → Prop) : Prop :=
  w_X1_at v1 M (fun q2 =>
    (q2 = none →
      k 0) ∧
    (∀ o1, q2 = some o1 →
      (¬ (M o1 6) = 1 →
        k 0) ∧
      ((M o1 6) = 1 →
        k 1)))
def b_X1_blocked_26 (v2 : Int) (t0 : Int) (t1 : Int) (k_4 : Int → Int → Prop) (k : Int → Prop) (M : hq_M) : Prop :=
  rg (t0 + t1) ∧
  ∀ x2 : Int, x2 = (t0 + t1) →
  rg (v2 + 1) ∧ ∀ x3 : Int, x3 = (v2 + 1) →
  k_4 x2 x3
def l_X1_blocked_4 (k : Int → Prop) (M : hq_M) : Nat → Int → Int → Prop
  | 0, _, _ => False
  | n + 1, v1, v2 =>
    ((M 168 1) ≤ v2 →
      k v1) ∧
    (¬ (M 168 1) ≤ v2 →
      w_X1_isBlocked v2 M (fun x2 =>
        (x2 = 0 →
          b_X1_blocked_26 v2 v1 0 (fun v1q v2q => l_X1_blocked_4 k M n v1q v2q) k M) ∧
        (¬ x2 = 0 →
          b_X1_blocked_26 v2 v1 1 (fun v1q v2q => l_X1_blocked_4 k M n v1q v2q) k M)))
def w_X1_blocked  (M : hq_M) (k : Int → Prop) : Prop :=
  ∃ m4, l_X1_blocked_4 k M m4 0 0
def w_X1_isBefore (v1 : Int) (v2 : Int) (M : hq_M) (k : Int → Prop) : Prop :=
  w_X1_at v1 M (fun q2 =>
    (q2 = none →
      w_X1_at v2 M (fun q4 =>
        (q4 = none →
          k 0) ∧
        (∀ o3, q4 = some o3 →
          k 0))) ∧
    (∀ o1, q2 = some o1 →
      w_X1_at v2 M (fun q6 =>
        (q6 = none →
          k 0) ∧
        (∀ o5, q6 = some o5 →
          ((M o1 3) < (M o5 3) →
            k 1) ∧
          (¬ (M o1 3) < (M o5 3) →
            (¬ (M o1 3) = (M o5 3) →
              k 0) ∧
            ((M o1 3) = (M o5 3) →
              (v2 ≤ v1 →
                k 0) ∧
              (¬ v2 ≤ v1 →
                k 1)))))))
def b_X1_blockedBefore_35 (v1 : Int) (v3 : Int) (t0 : Int) (t1 : Int) (k_4 : Int → Int → Prop) (k : Int → Prop) (M : hq_M) : Prop :=
  rg (t0 + t1) ∧
  ∀ x2 : Int, x2 = (t0 + t1) →
  rg (v3 + 1) ∧ ∀ x3 : Int, x3 = (v3 + 1) →
  k_4 x2 x3
def b_X1_blockedBefore_34 (v1 : Int) (v3 : Int) (t0 : Int) (k_4 : Int → Int → Prop) (k : Int → Prop) (M : hq_M) : Prop :=
  b_X1_blockedBefore_35 v1 v3 t0 0 k_4 k M
def l_X1_blockedBefore_4 (v1 : Int) (k : Int → Prop) (M : hq_M) : Nat → Int → Int → Prop
  | 0, _, _ => False
  | n + 1, v2, v3 =>
    ((M 168 1) ≤ v3 →
      k v2) ∧
    (¬ (M 168 1) ≤ v3 →
      w_X1_isBlocked v3 M (fun x2 =>
        (x2 = 0 →
          b_X1_blockedBefore_34 v1 v3 v2 (fun v2q v3q => l_X1_blockedBefore_4 v1 k M n v2q v3q) k M) ∧
        (¬ x2 = 0 →
          w_X1_isBefore v3 v1 M (fun x3 =>
            (x3 = 0 →
              b_X1_blockedBefore_34 v1 v3 v2 (fun v2q v3q => l_X1_blockedBefore_4 v1 k M n v2q v3q) k M) ∧
            (¬ x3 = 0 →
              b_X1_blockedBefore_35 v1 v3 v2 1 (fun v2q v3q => l_X1_blockedBefore_4 v1 k M n v2q v3q) k M)))))
def w_X1_blockedBefore (v1 : Int) (M : hq_M) (k : Int → Prop) : Prop :=
  ∃ m4, l_X1_blockedBefore_4 v1 k M m4 0 0
def b_X1_blockedAt_29 (v1 : Int) (v2 : Int) (k_2 : Int → Prop) (k : Int → Prop) (M : hq_M) : Prop :=
  rg (v2 + 1) ∧ ∀ x1 : Int, x1 = (v2 + 1) →
  k_2 x1
def l_X1_blockedAt_2 (v1 : Int) (k : Int → Prop) (M : hq_M) : Nat → Int → Prop
  | 0, _ => False
  | n + 1, v2 =>
    ((M 168 1) ≤ v2 →
      k (-9)) ∧
    (¬ (M 168 1) ≤ v2 →
      w_X1_isBlocked v2 M (fun x2 =>
        (x2 = 0 →
          b_X1_blockedAt_29 v1 v2 (fun v2q => l_X1_blockedAt_2 v1 k M n v2q) k M) ∧
        (¬ x2 = 0 →
          w_X1_blockedBefore v2 M (fun x3 =>
            (¬ x3 = v1 →
              b_X1_blockedAt_29 v1 v2 (fun v2q => l_X1_blockedAt_2 v1 k M n v2q) k M) ∧
            (x3 = v1 →
              k v2)))))
def w_X1_blockedAt (v1 : Int) (M : hq_M) (k : Int → Prop) : Prop :=
  ∃ m2, l_X1_blockedAt_2 v1 k M m2 0
def w_X2_entrySize (v0 : Nat) (M : hq_M) (k : Int → Prop) : Prop :=
  rg ((M (v0 + 1) 1) + (M (v0 + 3) 1)) ∧
  rg (((M (v0 + 1) 1) + (M (v0 + 3) 1)) + 4) ∧
  k (((M (v0 + 1) 1) + (M (v0 + 3) 1)) + 4)
def w_X3_at (v0 : Nat) (v1 : Int) (M : hq_M) (k : Option Nat → Prop) : Prop :=
  (v1 < 0 →
    k none) ∧
  (¬ v1 < 0 →
    ((M v0 1) ≤ v1 →
      k none) ∧
    (¬ (M v0 1) ≤ v1 →
      (v1 < (hq_len YC (v0 + 1) : Int) →
        (0 ≤ v1 ∧ v1 < (hq_len YC (v0 + 1) : Int)) ∧ ∀ o3 : Nat, o3 = (v0 + 1) + 1 + 5 * v1.toNat →
        k (some o3)) ∧
      (¬ v1 < (hq_len YC (v0 + 1) : Int) →
        k none)))
def w_X3_next (v0 : Nat) (M : hq_M) (k : Option Nat → Prop) : Prop :=
  ((M v0 1) < 0 →
    k none) ∧
  (¬ (M v0 1) < 0 →
    ((M v0 1) < (hq_len YC (v0 + 1) : Int) →
      (0 ≤ (M v0 1) ∧ (M v0 1) < (hq_len YC (v0 + 1) : Int)) ∧ ∀ o5 : Nat, o5 = (v0 + 1) + 1 + 5 * (M v0 1).toNat →
      k (some o5)) ∧
    (¬ (M v0 1) < (hq_len YC (v0 + 1) : Int) →
      k none))
def l_X6_same_15 (v0 : Nat) (v1 : Nat) (k : Int → Prop) (M : hq_M) : Nat → Int → Prop
  | 0, _ => False
  | n + 1, v2 =>
    ((M v0 1) ≤ v2 →
      k 1) ∧
    (¬ (M v0 1) ≤ v2 →
      ((hq_len YC (v0 + 1) : Int) ≤ v2 →
        k 1) ∧
      (¬ (hq_len YC (v0 + 1) : Int) ≤ v2 →
        ((hq_len YC (v1 + 1) : Int) ≤ v2 →
          k 1) ∧
        (¬ (hq_len YC (v1 + 1) : Int) ≤ v2 →
          (0 ≤ v2 ∧ v2 < (hq_len YC (v0 + 1) : Int)) ∧
          (0 ≤ v2 ∧ v2 < (hq_len YC (v1 + 1) : Int)) ∧
          ((M (v0 + 1) v2.toNat) = (M (v1 + 1) v2.toNat) →
            rg (v2 + 1) ∧ ∀ x6 : Int, x6 = (v2 + 1) →
            l_X6_same_15 v0 v1 k M n x6) ∧
          (¬ (M (v0 + 1) v2.toNat) = (M (v1 + 1) v2.toNat) →
            k 0))))
def w_X6_same (v0 : Nat) (v1 : Nat) (M : hq_M) (k : Int → Prop) : Prop :=
  ((M v0 1) = (M v1 1) →
    ∃ m15, l_X6_same_15 v0 v1 k M m15 0) ∧
  (¬ (M v0 1) = (M v1 1) →
    k 0)
def b_X3_lowestNamed_36 (v0 : Nat) (v1 : Nat) (v2 : Int) (k_2 : Int → Prop) (k : Int → Prop) (M : hq_M) : Prop :=
  rg (v2 + 1) ∧ ∀ x1 : Int, x1 = (v2 + 1) →
  k_2 x1
def l_X3_lowestNamed_2 (v0 : Nat) (v1 : Nat) (k : Int → Prop) (M : hq_M) : Nat → Int → Prop
  | 0, _ => False
  | n + 1, v2 =>
    ((M v0 1) ≤ v2 →
      k (-9)) ∧
    (¬ (M v0 1) ≤ v2 →
      w_X3_at v0 v2 M (fun q3 =>
        (q3 = none →
          b_X3_lowestNamed_36 v0 v1 v2 (fun v2q => l_X3_lowestNamed_2 v0 v1 k M n v2q) k M) ∧
        (∀ o2, q3 = some o2 →
          w_X6_same (o2 + 1) (v1 + 1) M (fun x4 =>
            (x4 = 0 →
              b_X3_lowestNamed_36 v0 v1 v2 (fun v2q => l_X3_lowestNamed_2 v0 v1 k M n v2q) k M) ∧
            (¬ x4 = 0 →
              k v2)))))
def w_X3_lowestNamed (v0 : Nat) (v1 : Nat) (M : hq_M) (k : Int → Prop) : Prop :=
  ∃ m2, l_X3_lowestNamed_2 v0 v1 k M m2 0
def b_X3_lowestLike_50 (v0 : Nat) (v1 : Nat) (v2 : Int) (k_2 : Int → Prop) (k : Int → Prop) (M : hq_M) : Prop :=
  rg (v2 + 1) ∧ ∀ x1 : Int, x1 = (v2 + 1) →
  k_2 x1
def l_X3_lowestLike_2 (v0 : Nat) (v1 : Nat) (k : Int → Prop) (M : hq_M) : Nat → Int → Prop
  | 0, _ => False
  | n + 1, v2 =>
    ((M v0 1) ≤ v2 →
      k (-9)) ∧
    (¬ (M v0 1) ≤ v2 →
      w_X3_at v0 v2 M (fun q3 =>
        (q3 = none →
          b_X3_lowestLike_50 v0 v1 v2 (fun v2q => l_X3_lowestLike_2 v0 v1 k M n v2q) k M) ∧
        (∀ o2, q3 = some o2 →
          w_X6_same (o2 + 1) (v1 + 1) M (fun x4 =>
            (x4 = 0 →
              b_X3_lowestLike_50 v0 v1 v2 (fun v2q => l_X3_lowestLike_2 v0 v1 k M n v2q) k M) ∧
            (¬ x4 = 0 →
              w_X6_same (o2 + 3) (v1 + 3) M (fun x5 =>
                (x5 = 0 →
                  b_X3_lowestLike_50 v0 v1 v2 (fun v2q => l_X3_lowestLike_2 v0 v1 k M n v2q) k M) ∧
                (¬ x5 = 0 →
                  k v2)))))))
def w_X3_lowestLike (v0 : Nat) (v1 : Nat) (M : hq_M) (k : Int → Prop) : Prop :=
  ∃ m2, l_X3_lowestLike_2 v0 v1 k M m2 0
def w_X7_restart (v0 : Nat) (M : hq_M) (k : hq_M → Prop) : Prop :=
  ∀ M1 : hq_M, M1 = hq_up M (v0 + 1) 1 0 →
  ∀ M2 : hq_M, M2 = hq_up M1 (v0 + 38) 1 0 →
  ∀ M3 : hq_M, M3 = hq_up M2 v0 2 60 →
  ∀ M4 : hq_M, M4 = hq_up M3 v0 3 2 →
  k M4
def w_X6_at (v0 : Nat) (v1 : Int) (M : hq_M) (k : Int → Prop) : Prop :=
  (v1 < 0 →
    k (-9)) ∧
  (¬ v1 < 0 →
    ((M v0 1) ≤ v1 →
      k (-9)) ∧
    (¬ (M v0 1) ≤ v1 →
      (v1 < (hq_len YC (v0 + 1) : Int) →
        (0 ≤ v1 ∧ v1 < (hq_len YC (v0 + 1) : Int)) ∧
        k (M (v0 + 1) v1.toNat)) ∧
      (¬ v1 < (hq_len YC (v0 + 1) : Int) →
        k (-9))))
def w_X4_isLetter (v0 : Int) (M : hq_M) (k : Int → Prop) : Prop :=
  (v0 < 97 →
    k 0) ∧
  (¬ v0 < 97 →
    (122 < v0 →
      k 0) ∧
    (¬ 122 < v0 →
      k 1))
def w_X4_isDigit (v0 : Int) (M : hq_M) (k : Int → Prop) : Prop :=
  (v0 < 48 →
    k 0) ∧
  (¬ v0 < 48 →
    (57 < v0 →
      k 0) ∧
    (¬ 57 < v0 →
      k 1))
def l_X4_advance_5 (k_35 : Int → hq_M → Prop) (k : hq_M → Prop) : Nat → Int → hq_M → Prop
  | 0, _, _ => False
  | n + 1, v1, M =>
    ((M 1 1) ≤ v1 →
      k_35 v1 M) ∧
    (¬ (M 1 1) ≤ v1 →
      w_X6_at 1 v1 M (fun x2 =>
        (¬ x2 = 32 →
          k_35 v1 M) ∧
        (x2 = 32 →
          rg (v1 + 1) ∧ ∀ x3 : Int, x3 = (v1 + 1) →
          l_X4_advance_5 k_35 k n x3 M)))
def b_X4_advance_79 (v1 : Int) (k_40 : Int → hq_M → Prop) (k : hq_M → Prop) (M : hq_M) : Prop :=
  rg (v1 + 1) ∧ ∀ x1 : Int, x1 = (v1 + 1) →
  k_40 x1 M
def l_X4_advance_40 (k_85 : Int → hq_M → Prop) (k : hq_M → Prop) : Nat → Int → hq_M → Prop
  | 0, _, _ => False
  | n + 1, v1, M =>
    ((M 1 1) ≤ v1 →
      k_85 v1 M) ∧
    (¬ (M 1 1) ≤ v1 →
      w_X6_at 1 v1 M (fun x2 =>
        w_X4_isLetter x2 M (fun x3 =>
          (¬ x3 = 0 →
            b_X4_advance_79 v1 (fun v1q Mq => l_X4_advance_40 k_85 k n v1q Mq) k M) ∧
          (x3 = 0 →
            w_X6_at 1 v1 M (fun x4 =>
              w_X4_isDigit x4 M (fun x5 =>
                (x5 = 0 →
                  k_85 v1 M) ∧
                (¬ x5 = 0 →
                  b_X4_advance_79 v1 (fun v1q Mq => l_X4_advance_40 k_85 k n v1q Mq) k M)))))))
def w_X4_advance  (M : hq_M) (k : hq_M → Prop) : Prop :=
  ∀ x2 : Int, x2 = M 7 5 →
  ∃ m5, l_X4_advance_5 (fun x4 M3 =>
    ∀ M5 : hq_M, M5 = hq_up M3 7 4 x4 →
    ∃ m40, l_X4_advance_40 (fun x7 M6 =>
      ∀ M8 : hq_M, M8 = hq_up M6 7 5 x7 →
      k M8) k m40 x4 M5) k m5 x2 M
def l_X4_isPiece_20 (v1 : Nat) (k : Int → Prop) (M : hq_M) : Nat → Int → Prop
  | 0, _ => False
  | n + 1, v2 =>
    ∀ x1 : Int, x1 = (sL v1 : Int) →
    (x1 ≤ v2 →
      k 1) ∧
    (¬ x1 ≤ v2 →
      rg ((M 7 4) + v2) ∧
      w_X6_at 1 ((M 7 4) + v2) M (fun x4 =>
        (0 ≤ v2 ∧ v2 < (sL v1 : Int)) ∧ ∀ x5 : Int, x5 = sC v1 (v2.toNat) →
        (x4 = x5 →
          rg (v2 + 1) ∧ ∀ x7 : Int, x7 = (v2 + 1) →
          l_X4_isPiece_20 v1 k M n x7) ∧
        (¬ x4 = x5 →
          k 0)))
def w_X4_isPiece (v1 : Nat) (M : hq_M) (k : Int → Prop) : Prop :=
  rg ((M 7 5) - (M 7 4)) ∧
  ∀ x4 : Int, x4 = (sL v1 : Int) →
  (((M 7 5) - (M 7 4)) = x4 →
    ∃ m20, l_X4_isPiece_20 v1 k M m20 0) ∧
  (¬ ((M 7 5) - (M 7 4)) = x4 →
    k 0)
def l_X4_readNumber_52 (k_103 : Int → hq_M → Prop) (k : Int → hq_M → Prop) : Nat → Int → Int → hq_M → Prop
  | 0, _, _, _ => False
  | n + 1, v3, v4, M =>
    ((M 7 5) ≤ v4 →
      k_103 v3 M) ∧
    (¬ (M 7 5) ≤ v4 →
      w_X6_at 1 v4 M (fun x2 =>
        w_X4_isDigit x2 M (fun x3 =>
          (¬ x3 = 0 →
            rg (v3 * 10) ∧
            w_X6_at 1 v4 M (fun x5 =>
              rg ((v3 * 10) + x5) ∧
              rg (((v3 * 10) + x5) - 48) ∧
              ∀ x8 : Int, x8 = (((v3 * 10) + x5) - 48) →
              rg (v4 + 1) ∧ ∀ x9 : Int, x9 = (v4 + 1) →
              l_X4_readNumber_52 k_103 k n x8 x9 M)) ∧
          (x3 = 0 →
            k (-9) M))))
def b_X4_readNumber_44 (v1 : Int) (k : Int → hq_M → Prop) (M : hq_M) : Prop :=
  ∀ x2 : Int, x2 = M 7 4 →
  ∃ m52, l_X4_readNumber_52 (fun x4 M3 =>
    (x4 ≤ v1 →
      w_X4_advance M3 (fun M5 =>
        k x4 M5)) ∧
    (¬ x4 ≤ v1 →
      k (-9) M3)) k m52 0 x2 M
def w_X4_readNumber (v1 : Int) (M : hq_M) (k : Int → hq_M → Prop) : Prop :=
  rg ((M 7 5) - (M 7 4)) ∧
  ∀ x4 : Int, x4 = ((M 7 5) - (M 7 4)) →
  (x4 < 1 →
    k (-9) M) ∧
  (¬ x4 < 1 →
    (3 < x4 →
      k (-9) M) ∧
    (¬ 3 < x4 →
      (x4 ≤ 1 →
        b_X4_readNumber_44 v1 k M) ∧
      (¬ x4 ≤ 1 →
        w_X6_at 1 (M 7 4) M (fun x6 =>
          (¬ x6 = 48 →
            b_X4_readNumber_44 v1 k M) ∧
          (x6 = 48 →
            k (-9) M)))))
def w_X4_readSign (v1 : Int) (M : hq_M) (k : Int → hq_M → Prop) : Prop :=
  ((M 7 4) < (M 7 5) →
    k 0 M) ∧
  (¬ (M 7 4) < (M 7 5) →
    w_X6_at 1 (M 7 4) M (fun x4 =>
      (x4 = v1 →
        rg ((M 7 4) + 1) ∧
        ∀ M7 : hq_M, M7 = hq_up M 7 5 ((M 7 4) + 1) →
        w_X4_advance M7 (fun M8 =>
          k 1 M8)) ∧
      (¬ x4 = v1 →
        k 0 M)))
def l_X4_isName_32 (k : Int → Prop) (M : hq_M) : Nat → Int → Prop
  | 0, _ => False
  | n + 1, v1 =>
    ((M 7 5) ≤ v1 →
      k 1) ∧
    (¬ (M 7 5) ≤ v1 →
      w_X6_at 1 v1 M (fun x2 =>
        w_X4_isLetter x2 M (fun x3 =>
          (¬ x3 = 0 →
            rg (v1 + 1) ∧ ∀ x4 : Int, x4 = (v1 + 1) →
            l_X4_isName_32 k M n x4) ∧
          (x3 = 0 →
            k 0))))
def w_X4_isName  (M : hq_M) (k : Int → Prop) : Prop :=
  ((M 7 5) = (M 7 4) →
    k 0) ∧
  (¬ (M 7 5) = (M 7 4) →
    rg ((M 7 5) - (M 7 4)) ∧
    (((M 7 5) - (M 7 4)) ≤ 6 →
      ∀ x7 : Int, x7 = M 7 4 →
      ∃ m32, l_X4_isName_32 k M m32 x7) ∧
    (¬ ((M 7 5) - (M 7 4)) ≤ 6 →
      k 0))
def w_X6_add (v0 : Nat) (v1 : Int) (M : hq_M) (k : Int → hq_M → Prop) : Prop :=
  ((M v0 1) < 0 →
    k 0 M) ∧
  (¬ (M v0 1) < 0 →
    ((M v0 1) < (hq_len YC (v0 + 1) : Int) →
      (0 ≤ (M v0 1) ∧ (M v0 1) < (hq_len YC (v0 + 1) : Int)) ∧
      ∀ M5 : hq_M, M5 = hq_up M (v0 + 1) ((M v0 1).toNat) v1 →
      rg ((M5 v0 1) + 1) ∧
      ∀ M8 : hq_M, M8 = hq_up M5 v0 1 ((M5 v0 1) + 1) →
      k 1 M8) ∧
    (¬ (M v0 1) < (hq_len YC (v0 + 1) : Int) →
      k 0 M))
def l_X4_readWord_9 (v1 : Nat) (k_36 : hq_M → Prop) (k : hq_M → Prop) : Nat → Int → hq_M → Prop
  | 0, _, _ => False
  | n + 1, v2, M =>
    ((M 7 5) ≤ v2 →
      k_36 M) ∧
    (¬ (M 7 5) ≤ v2 →
      w_X6_at 1 v2 M (fun x2 =>
        w_X6_add v1 x2 M (fun x4 M3 =>
          rg (v2 + 1) ∧ ∀ x5 : Int, x5 = (v2 + 1) →
          l_X4_readWord_9 v1 k_36 k n x5 M3)))
def w_X4_readWord (v1 : Nat) (M : hq_M) (k : hq_M → Prop) : Prop :=
  w_X6_empty v1 M (fun M1 =>
    ∀ x3 : Int, x3 = M1 7 4 →
    ∃ m9, l_X4_readWord_9 v1 (fun M4 =>
      w_X4_advance M4 (fun M5 =>
        k M5)) k m9 x3 M1)
def b_X4_readPair_81 (v1 : Nat) (k : Int → hq_M → Prop) (M : hq_M) : Prop :=
  rg ((M v1 1) + 1) ∧
  ∀ M3 : hq_M, M3 = hq_up M v1 1 ((M v1 1) + 1) →
  w_X4_readSign 59 M3 (fun x5 M4 =>
    k x5 M4)
def w_X4_readPair (v1 : Nat) (v2 : Int) (M : hq_M) (k : Int → hq_M → Prop) : Prop :=
  w_X3_next v1 M (fun q2 =>
    (q2 = none →
      k 0 M) ∧
    (∀ o1, q2 = some o1 →
      w_X4_advance M (fun M3 =>
        w_X4_isName M3 (fun x4 =>
          (¬ x4 = 0 →
            w_X4_readWord (o1 + 1) M3 (fun M5 =>
              w_X4_readSign 61 M5 (fun x7 M6 =>
                (¬ x7 = 0 →
                  rg ((M6 7 5) - (M6 7 4)) ∧
                  (((M6 7 5) - (M6 7 4)) ≤ 6 →
                    w_X4_readWord (o1 + 3) M6 (fun M11 =>
                      (v2 = 0 →
                        b_X4_readPair_81 v1 k M11) ∧
                      (¬ v2 = 0 →
                        w_X3_lowestLike v1 o1 M11 (fun x12 =>
                          (x12 < 0 →
                            b_X4_readPair_81 v1 k M11) ∧
                          (¬ x12 < 0 →
                            k 0 M11))))) ∧
                  (¬ ((M6 7 5) - (M6 7 4)) ≤ 6 →
                    k 0 M6)) ∧
                (x7 = 0 →
                  k 0 M6)))) ∧
          (x4 = 0 →
            k 0 M3)))))
def b_X4_readItem_115 (v1 : Nat) (k : Int → hq_M → Prop) (M : hq_M) : Prop :=
  w_X4_isPiece 2 M (fun x1 =>
    (x1 = 0 →
      w_X4_isPiece 3 M (fun x2 =>
        (x2 = 0 →
          k 0 M) ∧
        (¬ x2 = 0 →
          w_X4_readPair (v1 + 1) 1 M (fun x4 M3 =>
            (x4 = 0 →
              k 0 M3) ∧
            (¬ x4 = 0 →
              k 1 M3))))) ∧
    (¬ x1 = 0 →
      w_X4_readPair (v1 + 38) 0 M (fun x6 M5 =>
        k x6 M5)))
def b_X4_readItem_58 (v1 : Nat) (k : Int → hq_M → Prop) (M : hq_M) : Prop :=
  w_X4_isPiece 1 M (fun x1 =>
    (x1 = 0 →
      b_X4_readItem_115 v1 k M) ∧
    (¬ x1 = 0 →
      (¬ (M 7 2) = 0 →
        b_X4_readItem_115 v1 k M) ∧
      ((M 7 2) = 0 →
        ∀ M3 : hq_M, M3 = hq_up M 7 2 1 →
        w_X4_advance M3 (fun M4 =>
          w_X4_readNumber 9 M4 (fun x6 M5 =>
            ∀ M7 : hq_M, M7 = hq_up M5 v1 3 x6 →
            ((M7 v1 3) < 0 →
              k 0 M7) ∧
            (¬ (M7 v1 3) < 0 →
              w_X4_readSign 59 M7 (fun x10 M9 =>
                (x10 = 0 →
                  k 0 M9) ∧
                (¬ x10 = 0 →
                  k 1 M9))))))))
def w_X4_readItem (v1 : Nat) (M : hq_M) (k : Int → hq_M → Prop) : Prop :=
  w_X4_isPiece 0 M (fun x1 =>
    (x1 = 0 →
      b_X4_readItem_58 v1 k M) ∧
    (¬ x1 = 0 →
      (¬ (M 7 1) = 0 →
        b_X4_readItem_58 v1 k M) ∧
      ((M 7 1) = 0 →
        ∀ M3 : hq_M, M3 = hq_up M 7 1 1 →
        w_X4_advance M3 (fun M4 =>
          w_X4_readNumber 200 M4 (fun x6 M5 =>
            ∀ M7 : hq_M, M7 = hq_up M5 v1 2 x6 →
            ((M7 v1 2) < 0 →
              k 0 M7) ∧
            (¬ (M7 v1 2) < 0 →
              w_X4_readSign 59 M7 (fun x10 M9 =>
                (x10 = 0 →
                  k 0 M9) ∧
                (¬ x10 = 0 →
                  k 1 M9))))))))
def l_X4_reads_30 (v1 : Nat) (k_77 : hq_M → Prop) (k : Int → hq_M → Prop) : Nat → Int → hq_M → Prop
  | 0, _, _ => False
  | n + 1, v2, M =>
    (200 ≤ v2 →
      k_77 M) ∧
    (¬ 200 ≤ v2 →
      ((M 1 1) ≤ (M 7 4) →
        k_77 M) ∧
      (¬ (M 1 1) ≤ (M 7 4) →
        w_X4_readItem v1 M (fun x4 M3 =>
          (¬ x4 = 0 →
            rg ((M3 7 3) + 1) ∧
            ∀ M7 : hq_M, M7 = hq_up M3 7 3 ((M3 7 3) + 1) →
            rg (v2 + 1) ∧ ∀ x8 : Int, x8 = (v2 + 1) →
            l_X4_reads_30 v1 k_77 k n x8 M7) ∧
          (x4 = 0 →
            k 0 M3))))
def w_X4_reads (v1 : Nat) (M : hq_M) (k : Int → hq_M → Prop) : Prop :=
  w_X7_restart v1 M (fun M1 =>
    ∀ M2 : hq_M, M2 = hq_up M1 7 1 0 →
    ∀ M3 : hq_M, M3 = hq_up M2 7 2 0 →
    ∀ M4 : hq_M, M4 = hq_up M3 7 3 0 →
    ∀ M5 : hq_M, M5 = hq_up M4 7 5 0 →
    w_X4_advance M5 (fun M6 =>
      ∃ m30, l_X4_reads_30 v1 (fun M7 =>
        ((M7 7 4) < (M7 1 1) →
          k 0 M7) ∧
        (¬ (M7 7 4) < (M7 1 1) →
          k 1 M7)) k m30 0 M6))
def w_X9_restart (v0 : Nat) (M : hq_M) (k : hq_M → Prop) : Prop :=
  ∀ M1 : hq_M, M1 = hq_up M v0 3 0 →
  ∀ M2 : hq_M, M2 = hq_up M1 v0 4 0 →
  ∀ M3 : hq_M, M3 = hq_up M2 v0 5 0 →
  ∀ M4 : hq_M, M4 = hq_up M3 v0 6 0 →
  k M4
def w_X5_restart  (M : hq_M) (k : hq_M → Prop) : Prop :=
  w_X9_restart 385 M (fun M1 =>
    w_X6_empty 389 M1 (fun M2 =>
      ∀ M3 : hq_M, M3 = hq_up M2 384 2 0 →
      k M3))
def l_X6_addInteger_40 (v0 : Nat) (k_81 : Int → hq_M → Prop) (k : hq_M → Prop) : Nat → Int → Int → hq_M → Prop
  | 0, _, _, _ => False
  | n + 1, v5, v6, M =>
    (4 ≤ v6 →
      k_81 v5 M) ∧
    (¬ 4 ≤ v6 →
      (v5 < 128 →
        k_81 v5 M) ∧
      (¬ v5 < 128 →
        rg (128 + (v5 % 128)) ∧
        w_X6_add v0 (128 + (v5 % 128)) M (fun x3 M2 =>
          0 ≤ v5 ∧
          ∀ x5 : Int, x5 = (v5 / 128) →
          rg (v6 + 1) ∧ ∀ x6 : Int, x6 = (v6 + 1) →
          l_X6_addInteger_40 v0 k_81 k n x5 x6 M2)))
def w_X6_addInteger (v0 : Nat) (v1 : Int) (v2 : Int) (v3 : Int) (M : hq_M) (k : hq_M → Prop) : Prop :=
  (0 ≤ v2 ∧ v2 ≤ 30) ∧ rg (1 * ((2 ^ v2.toNat : Nat) : Int)) ∧
  rg ((1 * ((2 ^ v2.toNat : Nat) : Int)) - 1) ∧
  ∀ x4 : Int, x4 = ((1 * ((2 ^ v2.toNat : Nat) : Int)) - 1) →
  (x4 ≤ v3 →
    rg (v1 + x4) ∧
    w_X6_add v0 (v1 + x4) M (fun x7 M6 =>
      rg (v3 - x4) ∧
      ∀ x9 : Int, x9 = (v3 - x4) →
      ∃ m40, l_X6_addInteger_40 v0 (fun x11 M10 =>
        w_X6_add v0 x11 M10 (fun x13 M12 =>
          k M12)) k m40 x9 0 M6)) ∧
  (¬ x4 ≤ v3 →
    rg (v1 + v3) ∧
    w_X6_add v0 (v1 + v3) M (fun x16 M15 =>
      k M15))
def w_X5_decode (v1 : Nat) (M : hq_M) (k : hq_M → Prop) : Prop :=
  ∀ M1 : hq_M, M1 = hq_up M v1 6 2 →
  ((M1 v1 3) ≤ 0 →
    k M1) ∧
  (¬ (M1 v1 3) ≤ 0 →
    w_X6_addInteger 389 128 7 (M1 v1 0) M1 (fun M4 =>
      ∀ M7 : hq_M, M7 = hq_up M4 384 2 (max (M4 384 2) (M4 v1 3)) →
      k M7))
def w_X5_receive (v1 : Nat) (M : hq_M) (k : hq_M → Prop) : Prop :=
  ((M 385 3) < (M v1 3) →
    ∀ M3 : hq_M, M3 = hq_up M v1 6 1 →
    k M3) ∧
  (¬ (M 385 3) < (M v1 3) →
    w_X5_decode v1 M (fun M4 =>
      k M4))
def l_X5_decodeBlocked_2 (k : hq_M → Prop) : Nat → Int → hq_M → Prop
  | 0, _, _ => False
  | n + 1, v2, M =>
    (40 ≤ v2 →
      k M) ∧
    (¬ 40 ≤ v2 →
      w_X1_blockedAt 0 M (fun x1 =>
        w_X1_at x1 M (fun q3 =>
          (q3 = none →
            k M) ∧
          (∀ o2, q3 = some o2 →
            ((M o2 3) ≤ (M 385 3) →
              w_X5_decode o2 M (fun M6 =>
                rg (v2 + 1) ∧ ∀ x7 : Int, x7 = (v2 + 1) →
                l_X5_decodeBlocked_2 k n x7 M6)) ∧
            (¬ (M o2 3) ≤ (M 385 3) →
              k M)))))
def w_X5_decodeBlocked  (M : hq_M) (k : hq_M → Prop) : Prop :=
  ∃ m2, l_X5_decodeBlocked_2 k m2 0 M
def w_X5_cancel (v1 : Nat) (M : hq_M) (k : hq_M → Prop) : Prop :=
  ∀ M1 : hq_M, M1 = hq_up M v1 6 3 →
  w_X6_addInteger 389 64 6 (M1 v1 0) M1 (fun M3 =>
    k M3)
def w_X6_removeLast (v0 : Nat) (M : hq_M) (k : Int → hq_M → Prop) : Prop :=
  rg ((M v0 1) - 1) ∧
  w_X6_at v0 ((M v0 1) - 1) M (fun x3 =>
    rg ((M v0 1) - 1) ∧
    ∀ M6 : hq_M, M6 = hq_up M v0 1 (max 0 ((M v0 1) - 1)) →
    k x3 M6)
def l_X6_drop_15 (v0 : Nat) (v2 : Int) (k_52 : hq_M → Prop) (k : hq_M → Prop) : Nat → Int → hq_M → Prop
  | 0, _, _ => False
  | n + 1, v3, M =>
    ((M v0 1) ≤ v3 →
      k_52 M) ∧
    (¬ (M v0 1) ≤ v3 →
      ((hq_len YC (v0 + 1) : Int) ≤ v3 →
        k_52 M) ∧
      (¬ (hq_len YC (v0 + 1) : Int) ≤ v3 →
        rg (v3 - v2) ∧
        (0 ≤ v3 ∧ v3 < (hq_len YC (v0 + 1) : Int)) ∧
        (0 ≤ (v3 - v2) ∧ (v3 - v2) < (hq_len YC (v0 + 1) : Int)) ∧
        ∀ M6 : hq_M, M6 = hq_up M (v0 + 1) ((v3 - v2).toNat) (M (v0 + 1) v3.toNat) →
        rg (v3 + 1) ∧ ∀ x7 : Int, x7 = (v3 + 1) →
        l_X6_drop_15 v0 v2 k_52 k n x7 M6))
def w_X6_drop (v0 : Nat) (v1 : Int) (M : hq_M) (k : hq_M → Prop) : Prop :=
  ∀ x2 : Int, x2 = (max 0 (min v1 (M v0 1))) →
  ∃ m15, l_X6_drop_15 v0 x2 (fun M3 =>
    rg ((M3 v0 1) - x2) ∧
    ∀ M6 : hq_M, M6 = hq_up M3 v0 1 ((M3 v0 1) - x2) →
    k M6) k m15 x2 M
def w_X6_addWord (v0 : Nat) (v1 : Int) (v2 : Nat) (M : hq_M) (k : hq_M → Prop) : Prop :=
  rg (v1 + (M v2 1)) ∧
  w_X6_add v0 (v1 + (M v2 1)) M (fun x4 M3 =>
    w_X6_addAll v0 v2 M3 (fun M5 =>
      k M5))
def w_X8_restart (v0 : Nat) (M : hq_M) (k : hq_M → Prop) : Prop :=
  w_X6_empty (v0 + 1) M (fun M1 =>
    ∀ M2 : hq_M, M2 = hq_up M1 v0 3 0 →
    ∀ M3 : hq_M, M3 = hq_up M2 v0 4 0 →
    k M3)
def w_X8_copyOf (v0 : Nat) (v1 : Nat) (M : hq_M) (k : hq_M → Prop) : Prop :=
  w_X6_empty (v0 + 1) M (fun M1 =>
    w_X6_addAll (v0 + 1) (v1 + 1) M1 (fun M2 =>
      k M2))
def w_X8_hasRoom (v0 : Nat) (v1 : Nat) (M : hq_M) (k : Int → Prop) : Prop :=
  rg ((M (v0 + 1) 1) + (M v1 1)) ∧
  (200 < ((M (v0 + 1) 1) + (M v1 1)) →
    k 0) ∧
  (¬ 200 < ((M (v0 + 1) 1) + (M v1 1)) →
    k 1)
def w_X8_write (v0 : Nat) (v1 : Nat) (v2 : Int) (M : hq_M) (k : hq_M → Prop) : Prop :=
  w_X6_addAll (v0 + 1) v1 M (fun M1 =>
    (0 ≤ ((M1 v0 3) % 256) ∧ ((M1 v0 3) % 256) < (hq_len YC (v0 + 3) : Int)) ∧
    ∀ M4 : hq_M, M4 = hq_up M1 (v0 + 3) (((M1 v0 3) % 256).toNat) v2 →
    (0 ≤ ((M4 v0 3) % 256) ∧ ((M4 v0 3) % 256) < (hq_len YC (v0 + 4) : Int)) ∧
    ∀ M8 : hq_M, M8 = hq_up M4 (v0 + 4) (((M4 v0 3) % 256).toNat) (M4 v1 1) →
    rg ((M8 v0 3) + 1) ∧
    ∀ M11 : hq_M, M11 = hq_up M8 v0 3 ((M8 v0 3) + 1) →
    k M11)
def l_X9_shrink_0 (v0 : Nat) (v1 : Int) (k : hq_M → Prop) : Nat → hq_M → Prop
  | 0, _ => False
  | n + 1, M =>
    ((M v0 3) ≤ (M v0 4) →
      k M) ∧
    (¬ (M v0 3) ≤ (M v0 4) →
      ((M v0 5) ≤ v1 →
        k M) ∧
      (¬ (M v0 5) ≤ v1 →
        (0 ≤ ((M v0 4) % 64) ∧ ((M v0 4) % 64) < (hq_len YC (v0 + 2) : Int)) ∧
        rg ((M v0 5) - (M (v0 + 2) ((M v0 4) % 64).toNat)) ∧
        ∀ M9 : hq_M, M9 = hq_up M v0 5 ((M v0 5) - (M (v0 + 2) ((M v0 4) % 64).toNat)) →
        rg ((M9 v0 4) + 1) ∧
        ∀ M12 : hq_M, M12 = hq_up M9 v0 4 ((M9 v0 4) + 1) →
        l_X9_shrink_0 v0 v1 k n M12))
def w_X9_shrink (v0 : Nat) (v1 : Int) (M : hq_M) (k : hq_M → Prop) : Prop :=
  ∃ m0, l_X9_shrink_0 v0 v1 k m0 M
def w_X9_changeCapacity (v0 : Nat) (v1 : Int) (M : hq_M) (k : hq_M → Prop) : Prop :=
  w_X9_shrink v0 v1 M (fun M1 =>
    ∀ M2 : hq_M, M2 = hq_up M1 v0 6 v1 →
    k M2)
def w_X9_insert (v0 : Nat) (v1 : Int) (v2 : Int) (M : hq_M) (k : Int → hq_M → Prop) : Prop :=
  rg ((M v0 6) - v2) ∧
  w_X9_shrink v0 ((M v0 6) - v2) M (fun M3 =>
    ∀ x5 : Int, x5 = M3 v0 3 →
    (0 ≤ (x5 % 64) ∧ (x5 % 64) < (hq_len YC (v0 + 1) : Int)) ∧
    ∀ M7 : hq_M, M7 = hq_up M3 (v0 + 1) ((x5 % 64).toNat) v1 →
    (0 ≤ (x5 % 64) ∧ (x5 % 64) < (hq_len YC (v0 + 2) : Int)) ∧
    ∀ M9 : hq_M, M9 = hq_up M7 (v0 + 2) ((x5 % 64).toNat) v2 →
    (0 ≤ (x5 % 64) ∧ (x5 % 64) < (hq_len YC (v0 + 3) : Int)) ∧
    ∀ M11 : hq_M, M11 = hq_up M9 (v0 + 3) ((x5 % 64).toNat) 0 →
    rg ((M11 v0 5) + v2) ∧
    ∀ M14 : hq_M, M14 = hq_up M11 v0 5 ((M11 v0 5) + v2) →
    rg ((M14 v0 3) + 1) ∧
    ∀ M17 : hq_M, M17 = hq_up M14 v0 3 ((M14 v0 3) + 1) →
    k x5 M17)
def w_X8_deliverTo (v0 : Nat) (v1 : Nat) (v2 : Nat) (M : hq_M) (k : Int → hq_M → Prop) : Prop :=
  ((M v0 4) < (M v0 3) →
    ∀ x4 : Int, x4 = ((M v0 4) % 256) →
    (0 ≤ x4 ∧ x4 < (hq_len YC (v0 + 4) : Int)) ∧
    rg ((M (v0 + 4) x4.toNat) - 1) ∧
    (0 ≤ x4 ∧ x4 < (hq_len YC (v0 + 4) : Int)) ∧
    ∀ M9 : hq_M, M9 = hq_up M (v0 + 4) (x4.toNat) ((M (v0 + 4) x4.toNat) - 1) →
    (0 ≤ x4 ∧ x4 < (hq_len YC (v0 + 4) : Int)) ∧
    ((M9 (v0 + 4) x4.toNat) ≤ 0 →
      rg ((M9 v0 4) + 1) ∧
      ∀ M14 : hq_M, M14 = hq_up M9 v0 4 ((M9 v0 4) + 1) →
      (0 ≤ x4 ∧ x4 < (hq_len YC (v0 + 3) : Int)) ∧
      ∀ x17 : Int, x17 = M14 (v0 + 3) x4.toNat →
      (0 ≤ x17 →
        w_X3_at (v2 + 1) x17 M14 (fun q19 =>
          (q19 = none →
            k 1 M14) ∧
          (∀ o18, q19 = some o18 →
            w_X2_entrySize o18 M14 (fun x20 =>
              w_X9_insert v1 x17 x20 M14 (fun x22 M21 =>
                k 1 M21))))) ∧
      (¬ 0 ≤ x17 →
        rg ((-1) - x17) ∧
        w_X9_changeCapacity v1 ((-1) - x17) M14 (fun M24 =>
          k 1 M24))) ∧
    (¬ (M9 (v0 + 4) x4.toNat) ≤ 0 →
      k 0 M9)) ∧
  (¬ (M v0 4) < (M v0 3) →
    k 0 M)
def l_X9_copyOf_2 (v0 : Nat) (v1 : Nat) (k_50 : hq_M → Prop) (k : hq_M → Prop) : Nat → Int → hq_M → Prop
  | 0, _, _ => False
  | n + 1, v2, M =>
    (64 ≤ v2 →
      k_50 M) ∧
    (¬ 64 ≤ v2 →
      (0 ≤ v2 ∧ v2 < (hq_len YC (v1 + 1) : Int)) ∧
      (0 ≤ v2 ∧ v2 < (hq_len YC (v0 + 1) : Int)) ∧
      ∀ M4 : hq_M, M4 = hq_up M (v0 + 1) (v2.toNat) (M (v1 + 1) v2.toNat) →
      (0 ≤ v2 ∧ v2 < (hq_len YC (v1 + 2) : Int)) ∧
      (0 ≤ v2 ∧ v2 < (hq_len YC (v0 + 2) : Int)) ∧
      ∀ M8 : hq_M, M8 = hq_up M4 (v0 + 2) (v2.toNat) (M4 (v1 + 2) v2.toNat) →
      (0 ≤ v2 ∧ v2 < (hq_len YC (v1 + 3) : Int)) ∧
      (0 ≤ v2 ∧ v2 < (hq_len YC (v0 + 3) : Int)) ∧
      ∀ M12 : hq_M, M12 = hq_up M8 (v0 + 3) (v2.toNat) (M8 (v1 + 3) v2.toNat) →
      rg (v2 + 1) ∧ ∀ x13 : Int, x13 = (v2 + 1) →
      l_X9_copyOf_2 v0 v1 k_50 k n x13 M12)
def w_X9_copyOf (v0 : Nat) (v1 : Nat) (M : hq_M) (k : hq_M → Prop) : Prop :=
  ∃ m2, l_X9_copyOf_2 v0 v1 (fun M1 =>
    ∀ M3 : hq_M, M3 = hq_up M1 v0 3 (M1 v1 3) →
    ∀ M5 : hq_M, M5 = hq_up M3 v0 4 (M3 v1 4) →
    ∀ M7 : hq_M, M7 = hq_up M5 v0 5 (M5 v1 5) →
    ∀ M9 : hq_M, M9 = hq_up M7 v0 6 (M7 v1 6) →
    k M9) k m2 0 M
def w_X9_has (v0 : Nat) (v1 : Int) (M : hq_M) (k : Int → Prop) : Prop :=
  (v1 < (M v0 4) →
    k 0) ∧
  (¬ v1 < (M v0 4) →
    ((M v0 3) ≤ v1 →
      k 0) ∧
    (¬ (M v0 3) ≤ v1 →
      k 1))
def w_X9_fieldAt (v0 : Nat) (v1 : Int) (M : hq_M) (k : Int → Prop) : Prop :=
  (0 ≤ (v1 % 64) ∧ (v1 % 64) < (hq_len YC (v0 + 1) : Int)) ∧
  k (M (v0 + 1) (v1 % 64).toNat)
def w_X9_sizeAt (v0 : Nat) (v1 : Int) (M : hq_M) (k : Int → Prop) : Prop :=
  (0 ≤ (v1 % 64) ∧ (v1 % 64) < (hq_len YC (v0 + 2) : Int)) ∧
  k (M (v0 + 2) (v1 % 64).toNat)
def w_X9_holdersAt (v0 : Nat) (v1 : Int) (M : hq_M) (k : Int → Prop) : Prop :=
  (0 ≤ (v1 % 64) ∧ (v1 % 64) < (hq_len YC (v0 + 3) : Int)) ∧
  k (M (v0 + 3) (v1 % 64).toNat)
def w_X9_hold (v0 : Nat) (v1 : Int) (v2 : Int) (M : hq_M) (k : hq_M → Prop) : Prop :=
  (0 ≤ (v1 % 64) ∧ (v1 % 64) < (hq_len YC (v0 + 3) : Int)) ∧
  (0 ≤ (v1 % 64) ∧ (v1 % 64) < (hq_len YC (v0 + 3) : Int)) ∧
  ∀ M4 : hq_M, M4 = hq_up M (v0 + 3) ((v1 % 64).toNat) (hq_or (M (v0 + 3) (v1 % 64).toNat) (hq_lsh 1 v2)) →
  k M4
def l_X9_release_2 (v0 : Nat) (v1 : Int) (k : hq_M → Prop) : Nat → Int → hq_M → Prop
  | 0, _, _ => False
  | n + 1, v2, M =>
    (64 ≤ v2 →
      k M) ∧
    (¬ 64 ≤ v2 →
      (0 ≤ v2 ∧ v2 < (hq_len YC (v0 + 3) : Int)) ∧
      (0 ≤ v2 ∧ v2 < (hq_len YC (v0 + 3) : Int)) ∧
      ∀ M4 : hq_M, M4 = hq_up M (v0 + 3) (v2.toNat) (hq_and (M (v0 + 3) v2.toNat) (hq_xor (hq_lsh 1 v1) (-1))) →
      rg (v2 + 1) ∧ ∀ x5 : Int, x5 = (v2 + 1) →
      l_X9_release_2 v0 v1 k n x5 M4)
def w_X9_release (v0 : Nat) (v1 : Int) (M : hq_M) (k : hq_M → Prop) : Prop :=
  ∃ m2, l_X9_release_2 v0 v1 k m2 0 M
def l_X9_tooMany_13 (v0 : Nat) (v1 : Int) (k : Int → Prop) (M : hq_M) : Nat → Int → Int → Int → Prop
  | 0, _, _, _ => False
  | n + 1, v2, v3, v4 =>
    ((M v0 3) ≤ v4 →
      k v3) ∧
    (¬ (M v0 3) ≤ v4 →
      (v2 ≤ v1 →
        k v3) ∧
      (¬ v2 ≤ v1 →
        (0 ≤ (v4 % 64) ∧ (v4 % 64) < (hq_len YC (v0 + 2) : Int)) ∧
        rg (v2 - (M (v0 + 2) (v4 % 64).toNat)) ∧
        ∀ x5 : Int, x5 = (v2 - (M (v0 + 2) (v4 % 64).toNat)) →
        rg (v3 + 1) ∧ ∀ x6 : Int, x6 = (v3 + 1) →
        rg (v4 + 1) ∧ ∀ x8 : Int, x8 = (v4 + 1) →
        l_X9_tooMany_13 v0 v1 k M n x5 x6 x8))
def w_X9_tooMany (v0 : Nat) (v1 : Int) (M : hq_M) (k : Int → Prop) : Prop :=
  ∀ x2 : Int, x2 = M v0 5 →
  ∀ x4 : Int, x4 = M v0 4 →
  ∃ m13, l_X9_tooMany_13 v0 v1 k M m13 x2 0 x4
def l_X9_evictable_17 (v0 : Nat) (v2 : Int) (k : Int → Prop) (M : hq_M) : Nat → Int → Int → Prop
  | 0, _, _ => False
  | n + 1, v3, v4 =>
    (v2 ≤ v4 →
      k v3) ∧
    (¬ v2 ≤ v4 →
      (0 ≤ (v4 % 64) ∧ (v4 % 64) < (hq_len YC (v0 + 3) : Int)) ∧
      (¬ (M (v0 + 3) (v4 % 64).toNat) = 0 →
        k v3) ∧
      ((M (v0 + 3) (v4 % 64).toNat) = 0 →
        rg (v3 + 1) ∧ ∀ x3 : Int, x3 = (v3 + 1) →
        rg (v4 + 1) ∧ ∀ x5 : Int, x5 = (v4 + 1) →
        l_X9_evictable_17 v0 v2 k M n x3 x5))
def w_X9_evictable (v0 : Nat) (v1 : Int) (M : hq_M) (k : Int → Prop) : Prop :=
  ∀ x2 : Int, x2 = (min (M v0 3) v1) →
  ∀ x4 : Int, x4 = M v0 4 →
  ∃ m17, l_X9_evictable_17 v0 x2 k M m17 0 x4
def w_X9_canShrink (v0 : Nat) (v1 : Int) (v2 : Int) (M : hq_M) (k : Int → Prop) : Prop :=
  w_X9_tooMany v0 v1 M (fun x1 =>
    w_X9_evictable v0 v2 M (fun x2 =>
      (x2 < x1 →
        k 0) ∧
      (¬ x2 < x1 →
        k 1)))
def w_X9_canInsert (v0 : Nat) (v1 : Int) (v2 : Int) (M : hq_M) (k : Int → Prop) : Prop :=
  ((M v0 6) < v1 →
    k 0) ∧
  (¬ (M v0 6) < v1 →
    rg ((M v0 6) - v1) ∧
    w_X9_tooMany v0 ((M v0 6) - v1) M (fun x4 =>
      w_X9_evictable v0 v2 M (fun x5 =>
        (x5 < x4 →
          k 0) ∧
        (¬ x5 < x4 →
          k 1))))
def l_X9_highestLike_11 (v0 : Nat) (v1 : Int) (k : Int → Prop) (M : hq_M) : Nat → Int → Prop
  | 0, _ => False
  | n + 1, v3 =>
    (v3 < (M v0 4) →
      k (-9)) ∧
    (¬ v3 < (M v0 4) →
      w_X9_fieldAt v0 v3 M (fun x2 =>
        (¬ x2 = v1 →
          rg (v3 + (-1)) ∧ ∀ x3 : Int, x3 = (v3 + (-1)) →
          l_X9_highestLike_11 v0 v1 k M n x3) ∧
        (x2 = v1 →
          k v3)))
def w_X9_highestLike (v0 : Nat) (v1 : Int) (v2 : Int) (M : hq_M) (k : Int → Prop) : Prop :=
  rg ((min v2 (M v0 3)) - 1) ∧
  ∀ x3 : Int, x3 = ((min v2 (M v0 3)) - 1) →
  ∃ m11, l_X9_highestLike_11 v0 v1 k M m11 x3
def b_X9_highestNamed_53 (v0 : Nat) (v1 : Nat) (v2 : Nat) (v4 : Int) (k_12 : Int → Prop) (k : Int → Prop) (M : hq_M) : Prop :=
  rg (v4 + (-1)) ∧ ∀ x1 : Int, x1 = (v4 + (-1)) →
  k_12 x1
def l_X9_highestNamed_12 (v0 : Nat) (v1 : Nat) (v2 : Nat) (k : Int → Prop) (M : hq_M) : Nat → Int → Prop
  | 0, _ => False
  | n + 1, v4 =>
    (v4 < (M v0 4) →
      k (-9)) ∧
    (¬ v4 < (M v0 4) →
      w_X9_fieldAt v0 v4 M (fun x2 =>
        w_X3_at v2 x2 M (fun q4 =>
          (q4 = none →
            b_X9_highestNamed_53 v0 v1 v2 v4 (fun v4q => l_X9_highestNamed_12 v0 v1 v2 k M n v4q) k M) ∧
          (∀ o3, q4 = some o3 →
            w_X6_same (o3 + 1) v1 M (fun x5 =>
              (x5 = 0 →
                b_X9_highestNamed_53 v0 v1 v2 v4 (fun v4q => l_X9_highestNamed_12 v0 v1 v2 k M n v4q) k M) ∧
              (¬ x5 = 0 →
                k v4))))))
def w_X9_highestNamed (v0 : Nat) (v1 : Nat) (v2 : Nat) (v3 : Int) (M : hq_M) (k : Int → Prop) : Prop :=
  rg ((min v3 (M v0 3)) - 1) ∧
  ∀ x3 : Int, x3 = ((min v3 (M v0 3)) - 1) →
  ∃ m12, l_X9_highestNamed_12 v0 v1 v2 k M m12 x3
def w_X10_restart (v0 : Nat) (v1 : Nat) (M : hq_M) (k : hq_M → Prop) : Prop :=
  ∀ M1 : hq_M, M1 = hq_up M v0 4 ((v1 : Nat) : Int) →
  w_X9_restart (v0 + 1) M1 (fun M2 =>
    w_X8_restart (v0 + 5) M2 (fun M3 =>
      ∀ M4 : hq_M, M4 = hq_up M3 v0 5 0 →
      k M4))
def w_X10_copyOf (v0 : Nat) (v1 : Nat) (M : hq_M) (k : hq_M → Prop) : Prop :=
  ∀ o2 : Nat, o2 = (M v1 4).toNat →
  ∀ M3 : hq_M, M3 = hq_up M v0 4 ((o2 : Nat) : Int) →
  w_X9_copyOf (v0 + 1) (v1 + 1) M3 (fun M4 =>
    w_X8_copyOf (v0 + 5) (v1 + 5) M4 (fun M5 =>
      ∀ M7 : hq_M, M7 = hq_up M5 v0 5 (M5 v1 5) →
      k M7))
def w_X10_changeCapacity (v0 : Nat) (v1 : Int) (M : hq_M) (k : Int → hq_M → Prop) : Prop :=
  (v1 < 0 →
    k (-1) M) ∧
  (¬ v1 < 0 →
    ∀ o2 : Nat, o2 = (M v0 4).toNat →
    (v1 ≤ (M o2 2) →
      (v1 = (M (v0 + 1) 6) →
        k (-2) M) ∧
      (¬ v1 = (M (v0 + 1) 6) →
        w_X9_canShrink (v0 + 1) v1 (M v0 5) M (fun x6 =>
          (¬ x6 = 0 →
            w_X6_empty (v0 + 10) M (fun M7 =>
              w_X6_addInteger (v0 + 10) 32 5 v1 M7 (fun M8 =>
                w_X8_hasRoom (v0 + 5) (v0 + 10) M8 (fun x9 =>
                  (¬ x9 = 0 →
                    rg ((-1) - v1) ∧
                    w_X8_write (v0 + 5) (v0 + 10) ((-1) - v1) M8 (fun M11 =>
                      w_X9_tooMany (v0 + 1) v1 M11 (fun x12 =>
                        w_X9_changeCapacity (v0 + 1) v1 M11 (fun M13 =>
                          k x12 M13)))) ∧
                  (x9 = 0 →
                    k (-3) M8))))) ∧
          (x6 = 0 →
            k (-2) M)))) ∧
    (¬ v1 ≤ (M o2 2) →
      k (-1) M))
def b_X10_formInsertion_101 (v0 : Nat) (v1 : Nat) (k : hq_M → Prop) (M : hq_M) : Prop :=
  w_X6_addWord (v0 + 10) 0 (v1 + 3) M (fun M1 =>
    k M1)
def w_X10_formInsertion (v0 : Nat) (v1 : Nat) (M : hq_M) (k : hq_M → Prop) : Prop :=
  ∀ o2 : Nat, o2 = (M v0 4).toNat →
  w_X3_lowestNamed (o2 + 38) v1 M (fun x3 =>
    ∀ o5 : Nat, o5 = (M v0 4).toNat →
    w_X9_highestNamed (v0 + 1) (v1 + 1) (o5 + 1) (M (v0 + 1) 3) M (fun x7 =>
      (x3 < 0 →
        (x7 < 0 →
          w_X6_addWord (v0 + 10) 64 (v1 + 1) M (fun M8 =>
            b_X10_formInsertion_101 v0 v1 k M8)) ∧
        (¬ x7 < 0 →
          rg ((M (v0 + 1) 3) - 1) ∧
          rg (((M (v0 + 1) 3) - 1) - x7) ∧
          w_X6_addInteger (v0 + 10) 128 6 (((M (v0 + 1) 3) - 1) - x7) M (fun M12 =>
            b_X10_formInsertion_101 v0 v1 k M12))) ∧
      (¬ x3 < 0 →
        w_X6_addInteger (v0 + 10) 192 6 x3 M (fun M13 =>
          b_X10_formInsertion_101 v0 v1 k M13))))
def w_X10_insert (v0 : Nat) (v1 : Int) (v2 : Int) (M : hq_M) (k : Int → hq_M → Prop) : Prop :=
  w_X9_canInsert (v0 + 1) v2 (M v0 5) M (fun x2 =>
    (¬ x2 = 0 →
      w_X8_hasRoom (v0 + 5) (v0 + 10) M (fun x3 =>
        (¬ x3 = 0 →
          w_X8_write (v0 + 5) (v0 + 10) v1 M (fun M4 =>
            w_X9_insert (v0 + 1) v1 v2 M4 (fun x6 M5 =>
              k x6 M5))) ∧
        (x3 = 0 →
          k (-3) M))) ∧
    (x2 = 0 →
      k (-2) M))
def w_X10_insertField (v0 : Nat) (v1 : Int) (M : hq_M) (k : Int → hq_M → Prop) : Prop :=
  ∀ o2 : Nat, o2 = (M v0 4).toNat →
  w_X3_at (o2 + 1) v1 M (fun q4 =>
    (q4 = none →
      k (-1) M) ∧
    (∀ o3, q4 = some o3 →
      w_X6_empty (v0 + 10) M (fun M5 =>
        w_X10_formInsertion v0 o3 M5 (fun M6 =>
          w_X2_entrySize o3 M6 (fun x7 =>
            w_X10_insert v0 v1 x7 M6 (fun x9 M8 =>
              k x9 M8))))))
def w_X10_repeatEntry (v0 : Nat) (v1 : Int) (M : hq_M) (k : Int → hq_M → Prop) : Prop :=
  w_X9_has (v0 + 1) v1 M (fun x1 =>
    (¬ x1 = 0 →
      w_X6_empty (v0 + 10) M (fun M2 =>
        rg ((M2 (v0 + 1) 3) - 1) ∧
        rg (((M2 (v0 + 1) 3) - 1) - v1) ∧
        w_X6_addInteger (v0 + 10) 0 5 (((M2 (v0 + 1) 3) - 1) - v1) M2 (fun M6 =>
          w_X9_fieldAt (v0 + 1) v1 M6 (fun x7 =>
            w_X9_sizeAt (v0 + 1) v1 M6 (fun x8 =>
              w_X10_insert v0 x7 x8 M6 (fun x10 M9 =>
                k x10 M9)))))) ∧
    (x1 = 0 →
      k (-1) M))
def w_X10_top (v0 : Nat) (M : hq_M) (k : Int → Prop) : Prop :=
  ((M v0 6) = 0 →
    k (M v0 5)) ∧
  (¬ (M v0 6) = 0 →
    k (M (v0 + 1) 3))
def w_X10_refer (v0 : Nat) (v1 : Nat) (v2 : Int) (M : hq_M) (k : hq_M → Prop) : Prop :=
  rg (v2 + 1) ∧
  ∀ M3 : hq_M, M3 = hq_up M v1 3 (max (M v1 3) (v2 + 1)) →
  w_X9_hold (v0 + 1) v2 (M3 v1 0) M3 (fun M5 =>
    k M5)
def b_X10_encodeValue_136 (v0 : Nat) (v2 : Nat) (k : hq_M → Prop) (M : hq_M) : Prop :=
  w_X6_addWord (v0 + 12) 0 (v2 + 3) M (fun M1 =>
    k M1)
def w_X10_encodeValue (v0 : Nat) (v1 : Nat) (v2 : Nat) (M : hq_M) (k : hq_M → Prop) : Prop :=
  ∀ o2 : Nat, o2 = (M v0 4).toNat →
  w_X3_lowestNamed (o2 + 38) v2 M (fun x3 =>
    ∀ o5 : Nat, o5 = (M v0 4).toNat →
    w_X10_top v0 M (fun x6 =>
      w_X9_highestNamed (v0 + 1) (v2 + 1) (o5 + 1) x6 M (fun x7 =>
        (x3 < 0 →
          (0 ≤ x7 →
            ((M v1 4) ≤ x7 →
              rg (x7 - (M v1 4)) ∧
              w_X6_addInteger (v0 + 12) 0 3 (x7 - (M v1 4)) M (fun M11 =>
                w_X10_refer v0 v1 x7 M11 (fun M12 =>
                  b_X10_encodeValue_136 v0 v2 k M12))) ∧
            (¬ (M v1 4) ≤ x7 →
              rg ((M v1 4) - 1) ∧
              rg (((M v1 4) - 1) - x7) ∧
              w_X6_addInteger (v0 + 12) 64 4 (((M v1 4) - 1) - x7) M (fun M16 =>
                w_X10_refer v0 v1 x7 M16 (fun M17 =>
                  b_X10_encodeValue_136 v0 v2 k M17)))) ∧
          (¬ 0 ≤ x7 →
            w_X6_addWord (v0 + 12) 32 (v2 + 1) M (fun M18 =>
              b_X10_encodeValue_136 v0 v2 k M18))) ∧
        (¬ x3 < 0 →
          w_X6_addInteger (v0 + 12) 80 4 x3 M (fun M19 =>
            b_X10_encodeValue_136 v0 v2 k M19)))))
def b_X10_encodeField_66 (v0 : Nat) (v1 : Nat) (v3 : Nat) (v5 : Int) (k : hq_M → Prop) (M : hq_M) : Prop :=
  (0 ≤ v5 →
    ((M v1 4) ≤ v5 →
      rg (v5 - (M v1 4)) ∧
      w_X6_addInteger (v0 + 12) 16 4 (v5 - (M v1 4)) M (fun M4 =>
        w_X10_refer v0 v1 v5 M4 (fun M5 =>
          k M5))) ∧
    (¬ (M v1 4) ≤ v5 →
      rg ((M v1 4) - 1) ∧
      rg (((M v1 4) - 1) - v5) ∧
      w_X6_addInteger (v0 + 12) 128 6 (((M v1 4) - 1) - v5) M (fun M9 =>
        w_X10_refer v0 v1 v5 M9 (fun M10 =>
          k M10)))) ∧
  (¬ 0 ≤ v5 →
    w_X10_encodeValue v0 v1 v3 M (fun M11 =>
      k M11))
def w_X10_encodeField (v0 : Nat) (v1 : Nat) (v2 : Int) (v3 : Nat) (M : hq_M) (k : hq_M → Prop) : Prop :=
  ∀ o2 : Nat, o2 = (M v0 4).toNat →
  w_X3_lowestLike (o2 + 38) v3 M (fun x3 =>
    (x3 < 0 →
      w_X10_top v0 M (fun x4 =>
        w_X9_highestLike (v0 + 1) v2 x4 M (fun x5 =>
          (0 ≤ x5 →
            b_X10_encodeField_66 v0 v1 v3 x5 k M) ∧
          (¬ 0 ≤ x5 →
            ((M v0 7) = 0 →
              b_X10_encodeField_66 v0 v1 v3 x5 k M) ∧
            (¬ (M v0 7) = 0 →
              w_X10_insertField v0 v2 M (fun x8 M7 =>
                b_X10_encodeField_66 v0 v1 v3 x8 k M7)))))) ∧
    (¬ x3 < 0 →
      w_X6_addInteger (v0 + 12) 192 6 x3 M (fun M9 =>
        k M9)))
def b_X10_encodeStart_23 (v1 : Nat) (k : hq_M → Prop) (M : hq_M) : Prop :=
  w_X6_addInteger (v1 + 3) 0 8 0 M (fun M1 =>
    w_X6_addInteger (v1 + 3) 0 7 0 M1 (fun M2 =>
      k M2))
def w_X10_encodeStart (v0 : Nat) (v1 : Nat) (M : hq_M) (k : hq_M → Prop) : Prop :=
  ∀ o2 : Nat, o2 = (M v0 4).toNat →
  (0 ≤ (M o2 2) ∧ (0 : Int) < 4) ∧
  rg (((M o2 2) / 4) * 2) ∧
  ∀ x6 : Int, x6 = (((M o2 2) / 4) * 2) →
  ((M v1 3) = 0 →
    b_X10_encodeStart_23 v1 k M) ∧
  (¬ (M v1 3) = 0 →
    (¬ x6 = 0 →
      (0 ≤ (M v1 3) ∧ (0 : Int) < x6) ∧
      rg (((M v1 3) % x6) + 1) ∧
      w_X6_addInteger (v1 + 3) 0 8 (((M v1 3) % x6) + 1) M (fun M11 =>
        ((M11 v1 4) < (M11 v1 3) →
          rg ((M11 v1 3) - (M11 v1 4)) ∧
          rg (((M11 v1 3) - (M11 v1 4)) - 1) ∧
          w_X6_addInteger (v1 + 3) 128 7 (((M11 v1 3) - (M11 v1 4)) - 1) M11 (fun M18 =>
            k M18)) ∧
        (¬ (M11 v1 4) < (M11 v1 3) →
          rg ((M11 v1 4) - (M11 v1 3)) ∧
          w_X6_addInteger (v1 + 3) 0 7 ((M11 v1 4) - (M11 v1 3)) M11 (fun M22 =>
            k M22)))) ∧
    (x6 = 0 →
      b_X10_encodeStart_23 v1 k M))
def b_X10_encode_94 (v0 : Nat) (v1 : Nat) (v4 : Int) (k_43 : Int → hq_M → Prop) (k : hq_M → Prop) (M : hq_M) : Prop :=
  rg (v4 + 1) ∧ ∀ x1 : Int, x1 = (v4 + 1) →
  k_43 x1 M
def l_X10_encode_43 (v0 : Nat) (v1 : Nat) (k_100 : hq_M → Prop) (k : hq_M → Prop) : Nat → Int → hq_M → Prop
  | 0, _, _ => False
  | n + 1, v4, M =>
    ((M (v1 + 1) 1) ≤ v4 →
      k_100 M) ∧
    (¬ (M (v1 + 1) 1) ≤ v4 →
      w_X6_at (v1 + 1) v4 M (fun x2 =>
        ∀ o4 : Nat, o4 = (M v0 4).toNat →
        w_X3_at (o4 + 1) x2 M (fun q6 =>
          (q6 = none →
            b_X10_encode_94 v0 v1 v4 (fun v4q Mq => l_X10_encode_43 v0 v1 k_100 k n v4q Mq) k M) ∧
          (∀ o5, q6 = some o5 →
            w_X10_encodeField v0 v1 x2 o5 M (fun M7 =>
              b_X10_encode_94 v0 v1 v4 (fun v4q Mq => l_X10_encode_43 v0 v1 k_100 k n v4q Mq) k M7)))))
def b_X10_encode_19 (v0 : Nat) (v1 : Nat) (t0 : Nat) (t1 : Int) (k : hq_M → Prop) (M : hq_M) : Prop :=
  ∀ M1 : hq_M, M1 = hq_up M t0 7 t1 →
  ∀ M3 : hq_M, M3 = hq_up M1 v1 4 (M1 (v0 + 1) 3) →
  w_X6_empty (v0 + 12) M3 (fun M4 =>
    ∃ m43, l_X10_encode_43 v0 v1 (fun M5 =>
      w_X10_encodeStart v0 v1 M5 (fun M6 =>
        w_X6_addAll (v1 + 3) (v0 + 12) M6 (fun M7 =>
          k M7))) k m43 0 M4)
def b_X10_encode_18 (v0 : Nat) (v1 : Nat) (t0 : Nat) (k : hq_M → Prop) (M : hq_M) : Prop :=
  b_X10_encode_19 v0 v1 t0 0 k M
def w_X10_encode (v0 : Nat) (v1 : Nat) (v2 : Int) (v3 : Int) (M : hq_M) (k : hq_M → Prop) : Prop :=
  ∀ M1 : hq_M, M1 = hq_up M v0 6 v2 →
  (v2 = 0 →
    b_X10_encode_18 v0 v1 v0 k M1) ∧
  (¬ v2 = 0 →
    (v3 = 0 →
      b_X10_encode_18 v0 v1 v0 k M1) ∧
    (¬ v3 = 0 →
      b_X10_encode_19 v0 v1 v0 1 k M1))
def b_X10_hear_42 (v0 : Nat) (v1 : Int) (t1 : Int) (k : hq_M → Prop) (M : hq_M) : Prop :=
  w_X1_at t1 M (fun q2 =>
    (q2 = none →
      k M) ∧
    (∀ o1, q2 = some o1 →
      ∀ M3 : hq_M, M3 = hq_up M o1 7 1 →
      w_X9_release (v0 + 1) (M3 o1 0) M3 (fun M5 =>
        (v1 < 128 →
          k M5) ∧
        (¬ v1 < 128 →
          ∀ M8 : hq_M, M8 = hq_up M5 v0 5 (max (M5 v0 5) (M5 o1 3)) →
          k M8))))
def w_X10_hear (v0 : Nat) (v1 : Int) (M : hq_M) (k : hq_M → Prop) : Prop :=
  (0 ≤ v1 →
    (64 ≤ v1 →
      (128 ≤ v1 →
        rg (v1 - 128) ∧
        b_X10_hear_42 v0 v1 (v1 - 128) k M) ∧
      (¬ 128 ≤ v1 →
        rg (v1 - 64) ∧
        b_X10_hear_42 v0 v1 (v1 - 64) k M)) ∧
    (¬ 64 ≤ v1 →
      rg ((M v0 5) + v1) ∧
      ∀ M5 : hq_M, M5 = hq_up M v0 5 ((M v0 5) + v1) →
      k M5)) ∧
  (¬ 0 ≤ v1 →
    k M)
def w_X11_restart  (M : hq_M) (k : hq_M → Prop) : Prop :=
  w_X6_empty 1 M (fun M1 =>
    w_X6_empty 3 M1 (fun M2 =>
      ∀ M3 : hq_M, M3 = hq_up M2 168 1 0 →
      ∀ o5 : Nat, o5 = (M3 0 9).toNat →
      w_X10_restart 370 o5 M3 (fun M6 =>
        w_X5_restart M6 (fun M7 =>
          k M7))))
def w_X11_type (v1 : Int) (M : hq_M) (k : Int → hq_M → Prop) : Prop :=
  (v1 < 0 →
    k (-1) M) ∧
  (¬ v1 < 0 →
    (v1 ≤ 255 →
      w_X6_add 1 v1 M (fun x2 M1 =>
        (x2 = 0 →
          k (-3) M1) ∧
        (¬ x2 = 0 →
          k (M1 1 1) M1))) ∧
    (¬ v1 ≤ 255 →
      k (-1) M))
def w_X11_clear  (M : hq_M) (k : Int → hq_M → Prop) : Prop :=
  ∀ x2 : Int, x2 = M 1 1 →
  w_X6_empty 1 M (fun M3 =>
    k x2 M3)
def w_X11_tells  (M : hq_M) (k : Int → hq_M → Prop) : Prop :=
  ∀ o2 : Nat, o2 = (M 0 10).toNat →
  w_X4_reads o2 M (fun x4 M3 =>
    (¬ x4 = 0 →
      ∀ o6 : Nat, o6 = (M3 0 9).toNat →
      ∀ o8 : Nat, o8 = (M3 0 10).toNat →
      ∀ M9 : hq_M, M9 = hq_up M3 0 9 ((o8 : Nat) : Int) →
      ∀ M10 : hq_M, M10 = hq_up M9 0 10 ((o6 : Nat) : Int) →
      w_X11_restart M10 (fun M11 =>
        k (M11 7 3) M11)) ∧
    (x4 = 0 →
      rg ((-10) - (M3 7 4)) ∧
      k ((-10) - (M3 7 4)) M3))
def b_X11_spells_81 (v4 : Int) (t0 : Nat) (k : Int → Prop) (M : hq_M) : Prop :=
  (¬ v4 = (-1) →
    w_X6_at t0 v4 M (fun x1 =>
      k x1)) ∧
  (v4 = (-1) →
    k (M t0 1))
def b_X11_spells_55 (v3 : Int) (v4 : Int) (t0 : Option Nat) (k : Int → Prop) (M : hq_M) : Prop :=
  (t0 = none →
    k (-1)) ∧
  (∀ o1, t0 = some o1 →
    (¬ v3 = 0 →
      b_X11_spells_81 v4 (o1 + 3) k M) ∧
    (v3 = 0 →
      b_X11_spells_81 v4 (o1 + 1) k M))
def w_X11_spells (v1 : Int) (v2 : Int) (v3 : Int) (v4 : Int) (M : hq_M) (k : Int → Prop) : Prop :=
  (v1 < 0 →
    k (-1)) ∧
  (¬ v1 < 0 →
    (1 < v1 →
      k (-1)) ∧
    (¬ 1 < v1 →
      (v3 < 0 →
        k (-1)) ∧
      (¬ v3 < 0 →
        (1 < v3 →
          k (-1)) ∧
        (¬ 1 < v3 →
          ((-1) ≤ v4 →
            (¬ v1 = 0 →
              ∀ o2 : Nat, o2 = (M 0 9).toNat →
              w_X3_at (o2 + 38) v2 M (fun q4 =>
                (q4 = none →
                  b_X11_spells_55 v3 v4 none k M) ∧
                (∀ o3, q4 = some o3 →
                  b_X11_spells_55 v3 v4 (some o3) k M))) ∧
            (v1 = 0 →
              ∀ o6 : Nat, o6 = (M 0 9).toNat →
              w_X3_at (o6 + 1) v2 M (fun q8 =>
                (q8 = none →
                  b_X11_spells_55 v3 v4 none k M) ∧
                (∀ o7, q8 = some o7 →
                  b_X11_spells_55 v3 v4 (some o7) k M)))) ∧
          (¬ (-1) ≤ v4 →
            k (-1))))))
def w_X11_capacity (v1 : Int) (M : hq_M) (k : Int → hq_M → Prop) : Prop :=
  w_X10_changeCapacity 370 v1 M (fun x2 M1 =>
    k x2 M1)
def w_X11_inserts (v1 : Int) (M : hq_M) (k : Int → hq_M → Prop) : Prop :=
  w_X10_insertField 370 v1 M (fun x2 M1 =>
    k x2 M1)
def w_X11_repeats (v1 : Int) (M : hq_M) (k : Int → hq_M → Prop) : Prop :=
  w_X10_repeatEntry 370 v1 M (fun x2 M1 =>
    k x2 M1)
def w_X11_puts (v1 : Int) (M : hq_M) (k : Int → hq_M → Prop) : Prop :=
  ∀ o2 : Nat, o2 = (M 0 9).toNat →
  w_X3_at (o2 + 1) v1 M (fun q4 =>
    (q4 = none →
      k (-1) M) ∧
    (∀ o3, q4 = some o3 →
      w_X6_add 3 v1 M (fun x6 M5 =>
        (x6 = 0 →
          k (-3) M5) ∧
        (¬ x6 = 0 →
          k (M5 3 1) M5))))
def w_X11_takes  (M : hq_M) (k : Int → hq_M → Prop) : Prop :=
  (¬ (M 3 1) = 0 →
    w_X6_removeLast 3 M (fun x3 M2 =>
      k x3 M2)) ∧
  ((M 3 1) = 0 →
    k (-2) M)
def w_X11_mayReferToAny (v1 : Int) (M : hq_M) (k : Int → Prop) : Prop :=
  (v1 ≤ 0 →
    k 0) ∧
  (¬ v1 ≤ 0 →
    w_X1_atRisk (M 370 5) M (fun x2 =>
      ∀ o4 : Nat, o4 = (M 0 9).toNat →
      ((M o4 3) ≤ x2 →
        k 0) ∧
      (¬ (M o4 3) ≤ x2 →
        k 1)))
def b_X11_sends_54 (v2 : Nat) (t1 : Nat) (t2 : Int) (t3 : Int) (k : Int → hq_M → Prop) (M : hq_M) : Prop :=
  w_X10_encode 370 t1 t2 t3 M (fun M1 =>
    rg ((M1 168 1) + 1) ∧
    ∀ M4 : hq_M, M4 = hq_up M1 168 1 ((M1 168 1) + 1) →
    w_X6_empty 3 M4 (fun M5 =>
      k (M5 v2 0) M5))
def w_X11_sends (v1 : Int) (M : hq_M) (k : Int → hq_M → Prop) : Prop :=
  (v1 < 0 →
    k (-1) M) ∧
  (¬ v1 < 0 →
    (v1 ≤ 2 →
      w_X1_next M (fun q2 =>
        (q2 = none →
          k (-3) M) ∧
        (∀ o1, q2 = some o1 →
          w_X0_begin o1 3 M (fun M3 =>
            w_X11_mayReferToAny v1 M3 (fun x4 =>
              (¬ v1 = 2 →
                b_X11_sends_54 o1 o1 x4 0 k M3) ∧
              (v1 = 2 →
                b_X11_sends_54 o1 o1 x4 1 k M3)))))) ∧
    (¬ v1 ≤ 2 →
      k (-1) M))
def b_X11_cost_56 (t2 : Int) (t3 : Int) (k : Int → hq_M → Prop) (M : hq_M) : Prop :=
  w_X10_encode 391 405 t2 t3 M (fun M1 =>
    rg ((M1 397 1) - (M1 376 1)) ∧
    ∀ x5 : Int, x5 = ((M1 397 1) - (M1 376 1)) →
    rg ((M1 408 1) + x5) ∧
    k ((M1 408 1) + x5) M1)
def w_X11_cost (v1 : Int) (M : hq_M) (k : Int → hq_M → Prop) : Prop :=
  (v1 < 0 →
    k (-1) M) ∧
  (¬ v1 < 0 →
    (v1 ≤ 2 →
      w_X10_copyOf 391 370 M (fun M1 =>
        w_X0_begin 405 3 M1 (fun M2 =>
          w_X11_mayReferToAny v1 M2 (fun x3 =>
            (¬ v1 = 2 →
              b_X11_cost_56 x3 0 k M2) ∧
            (v1 = 2 →
              b_X11_cost_56 x3 1 k M2))))) ∧
    (¬ v1 ≤ 2 →
      k (-1) M))
def w_X11_loose  (M : hq_M) (k : Int → Prop) : Prop :=
  w_X9_evictable 371 (M 370 5) M (fun x2 =>
    k x2)
def b_X11_feeds_86 (v3 : Int) (v4 : Int) (k_45 : Int → hq_M → Prop) (k : Int → hq_M → Prop) (M : hq_M) : Prop :=
  rg (v4 + 1) ∧ ∀ x1 : Int, x1 = (v4 + 1) →
  k_45 x1 M
def l_X11_feeds_45 (v3 : Int) (k_92 : hq_M → Prop) (k : Int → hq_M → Prop) : Nat → Int → hq_M → Prop
  | 0, _, _ => False
  | n + 1, v4, M =>
    (v3 ≤ v4 →
      k_92 M) ∧
    (¬ v3 ≤ v4 →
      ∀ o2 : Nat, o2 = (M 0 9).toNat →
      w_X8_deliverTo 375 385 o2 M (fun x4 M3 =>
        (x4 = 0 →
          b_X11_feeds_86 v3 v4 (fun v4q Mq => l_X11_feeds_45 v3 k_92 k n v4q Mq) k M3) ∧
        (¬ x4 = 0 →
          w_X5_decodeBlocked M3 (fun M5 =>
            b_X11_feeds_86 v3 v4 (fun v4q Mq => l_X11_feeds_45 v3 k_92 k n v4q Mq) k M5))))
def w_X11_feeds (v1 : Int) (M : hq_M) (k : Int → hq_M → Prop) : Prop :=
  (v1 < 1 →
    k (-1) M) ∧
  (¬ v1 < 1 →
    (v1 ≤ 99 →
      ∀ x2 : Int, x2 = M 375 4 →
      ∀ x4 : Int, x4 = (min v1 (M 376 1)) →
      ∃ m45, l_X11_feeds_45 x4 (fun M5 =>
        w_X6_drop 376 x4 M5 (fun M6 =>
          rg ((M6 375 4) - x2) ∧
          k ((M6 375 4) - x2) M6)) k m45 0 M) ∧
    (¬ v1 ≤ 99 →
      k (-1) M))
def b_X11_gives_83 (v3 : Nat) (k : Int → hq_M → Prop) (M : hq_M) : Prop :=
  k (M v3 6) M
def w_X11_gives (v1 : Int) (v2 : Int) (M : hq_M) (k : Int → hq_M → Prop) : Prop :=
  w_X1_at v1 M (fun q2 =>
    (q2 = none →
      k (-1) M) ∧
    (∀ o1, q2 = some o1 →
      (v2 < 1 →
        k (-1) M) ∧
      (¬ v2 < 1 →
        (v2 ≤ 99 →
          ((M o1 6) = 0 →
            rg ((M (o1 + 3) 1) - (M o1 5)) ∧
            rg ((M o1 5) + (min v2 ((M (o1 + 3) 1) - (M o1 5)))) ∧
            ∀ M9 : hq_M, M9 = hq_up M o1 5 ((M o1 5) + (min v2 ((M (o1 + 3) 1) - (M o1 5)))) →
            ((M9 o1 5) < (M9 (o1 + 3) 1) →
              b_X11_gives_83 o1 k M9) ∧
            (¬ (M9 o1 5) < (M9 (o1 + 3) 1) →
              w_X5_receive o1 M9 (fun M12 =>
                b_X11_gives_83 o1 k M12))) ∧
          (¬ (M o1 6) = 0 →
            k (-2) M)) ∧
        (¬ v2 ≤ 99 →
          k (-1) M))))
def w_X11_quits (v1 : Int) (M : hq_M) (k : Int → hq_M → Prop) : Prop :=
  w_X1_at v1 M (fun q2 =>
    (q2 = none →
      k (-1) M) ∧
    (∀ o1, q2 = some o1 →
      ((M o1 6) = 2 →
        k (-2) M) ∧
      (¬ (M o1 6) = 2 →
        (¬ (M o1 6) = 3 →
          w_X5_cancel o1 M (fun M5 =>
            k (M5 o1 5) M5)) ∧
        ((M o1 6) = 3 →
          k (-2) M))))
def w_X11_grows  (M : hq_M) (k : Int → hq_M → Prop) : Prop :=
  rg ((M 385 3) - (M 384 2)) ∧
  ∀ x4 : Int, x4 = ((M 385 3) - (M 384 2)) →
  (0 < x4 →
    ((M 389 1) < 100 →
      w_X6_addInteger 389 0 6 x4 M (fun M6 =>
        ∀ M8 : hq_M, M8 = hq_up M6 384 2 (M6 385 3) →
        k x4 M8)) ∧
    (¬ (M 389 1) < 100 →
      k (-3) M)) ∧
  (¬ 0 < x4 →
    k (-2) M)
def l_X11_hears_30 (v2 : Int) (k_63 : hq_M → Prop) (k : Int → hq_M → Prop) : Nat → Int → hq_M → Prop
  | 0, _, _ => False
  | n + 1, v3, M =>
    (v2 ≤ v3 →
      k_63 M) ∧
    (¬ v2 ≤ v3 →
      w_X6_at 389 v3 M (fun x1 =>
        w_X10_hear 370 x1 M (fun M2 =>
          rg (v3 + 1) ∧ ∀ x3 : Int, x3 = (v3 + 1) →
          l_X11_hears_30 v2 k_63 k n x3 M2)))
def w_X11_hears (v1 : Int) (M : hq_M) (k : Int → hq_M → Prop) : Prop :=
  (v1 < 1 →
    k (-1) M) ∧
  (¬ v1 < 1 →
    (v1 ≤ 99 →
      ∀ x2 : Int, x2 = (min v1 (M 389 1)) →
      ∃ m30, l_X11_hears_30 x2 (fun M3 =>
        w_X6_drop 389 x2 M3 (fun M4 =>
          k x2 M4)) k m30 0 M) ∧
    (¬ v1 ≤ 99 →
      k (-1) M))
def w_X11_tableOf (v1 : Int) (M : hq_M) (k : Option Nat → Prop) : Prop :=
  (¬ v1 = 0 →
    k (some 385)) ∧
  (v1 = 0 →
    k (some 371))
def w_X11_table (v1 : Int) (v2 : Int) (M : hq_M) (k : Int → Prop) : Prop :=
  (v1 < 0 →
    k (-1)) ∧
  (¬ v1 < 0 →
    (v1 ≤ 1 →
      w_X11_tableOf v1 M (fun q2 =>
        ¬ q2 = none ∧
        (∀ o1, q2 = some o1 →
          (v2 = 0 →
            k (M o1 3)) ∧
          (v2 = 1 →
            rg ((M o1 3) - (M o1 4)) ∧
            k ((M o1 3) - (M o1 4))) ∧
          (v2 = 2 →
            k (M o1 5)) ∧
          (v2 = 3 →
            k (M o1 6)) ∧
          (v2 = 4 →
            ((M o1 3) ≤ (M o1 4) →
              k (-9)) ∧
            (¬ (M o1 3) ≤ (M o1 4) →
              k (M o1 4))) ∧
          (v2 < 0 ∨ 4 < v2 →
            k (-1))))) ∧
    (¬ v1 ≤ 1 →
      k (-1)))
def w_X11_entry (v1 : Int) (v2 : Int) (v3 : Int) (M : hq_M) (k : Int → Prop) : Prop :=
  (v1 < 0 →
    k (-1)) ∧
  (¬ v1 < 0 →
    (1 < v1 →
      k (-1)) ∧
    (¬ 1 < v1 →
      (v3 < 0 →
        k (-1)) ∧
      (¬ v3 < 0 →
        (1 < v3 →
          k (-1)) ∧
        (¬ 1 < v3 →
          (0 ≤ v2 →
            w_X11_tableOf v1 M (fun q2 =>
              ¬ q2 = none ∧
              (∀ o1, q2 = some o1 →
                w_X9_has o1 v2 M (fun x3 =>
                  (¬ x3 = 0 →
                    (¬ v3 = 0 →
                      w_X9_fieldAt o1 v2 M (fun x4 =>
                        k x4)) ∧
                    (v3 = 0 →
                      w_X9_sizeAt o1 v2 M (fun x5 =>
                        k x5))) ∧
                  (x3 = 0 →
                    k (-9)))))) ∧
          (¬ 0 ≤ v2 →
            k (-1))))))
def w_X11_holds (v1 : Int) (M : hq_M) (k : Int → Prop) : Prop :=
  w_X9_has 371 v1 M (fun x1 =>
    (x1 = 0 →
      k (-1)) ∧
    (¬ x1 = 0 →
      w_X9_holdersAt 371 v1 M (fun x2 =>
        k x2)))
def w_X11_letter (v1 : Int) (v2 : Int) (M : hq_M) (k : Int → Prop) : Prop :=
  w_X1_at v1 M (fun q2 =>
    (q2 = none →
      k (-1)) ∧
    (∀ o1, q2 = some o1 →
      (v2 = 0 →
        k (M (o1 + 3) 1)) ∧
      (v2 = 1 →
        k (M o1 3)) ∧
      (v2 = 2 →
        k (M o1 4)) ∧
      (v2 = 3 →
        k (M o1 5)) ∧
      (v2 = 4 →
        k (M o1 6)) ∧
      (v2 = 5 →
        ((M o1 7) = 0 →
          k 0) ∧
        (¬ (M o1 7) = 0 →
          k 1)) ∧
      (v2 = 6 →
        k (M (o1 + 1) 1)) ∧
      (v2 < 0 ∨ 6 < v2 →
        k (-1))))
def w_X11_got (v1 : Int) (v2 : Int) (M : hq_M) (k : Int → Prop) : Prop :=
  w_X1_at v1 M (fun q2 =>
    (q2 = none →
      k (-1)) ∧
    (∀ o1, q2 = some o1 →
      (v2 < 0 →
        k (-1)) ∧
      (¬ v2 < 0 →
        (v2 < (M (o1 + 1) 1) →
          (¬ (M o1 6) = 2 →
            k (-2)) ∧
          ((M o1 6) = 2 →
            w_X6_at (o1 + 1) v2 M (fun x5 =>
              k x5))) ∧
        (¬ v2 < (M (o1 + 1) 1) →
          k (-1)))))
def w_X11_waits (v1 : Int) (M : hq_M) (k : Int → Prop) : Prop :=
  (0 ≤ v1 →
    w_X1_blockedAt v1 M (fun x1 =>
      k x1)) ∧
  (¬ 0 ≤ v1 →
    k (-1))
def w_X11_octet (v1 : Int) (v2 : Int) (M : hq_M) (k : Int → Prop) : Prop :=
  (0 ≤ v2 →
    (¬ v1 = 40 →
      (¬ v1 = 41 →
        w_X1_at v1 M (fun q2 =>
          (q2 = none →
            k (-1)) ∧
          (∀ o1, q2 = some o1 →
            w_X6_at (o1 + 3) v2 M (fun x3 =>
              k x3)))) ∧
      (v1 = 41 →
        w_X6_at 389 v2 M (fun x4 =>
          k x4))) ∧
    (v1 = 40 →
      w_X6_at 376 v2 M (fun x5 =>
        k x5))) ∧
  (¬ 0 ≤ v2 →
    k (-1))
def l_X11_coded_41 (k : Int → hq_M → Prop) : Nat → Int → Int → hq_M → Prop
  | 0, _, _, _ => False
  | n + 1, v3, v5, M =>
    ((M 5 1) ≤ v5 →
      k v3 M) ∧
    (¬ (M 5 1) ≤ v5 →
      rl (v3 * 256) ∧
      w_X6_at 5 v5 M (fun x3 =>
        rl ((v3 * 256) + x3) ∧
        ∀ x5 : Int, x5 = ((v3 * 256) + x3) →
        rg (v5 + 1) ∧ ∀ x6 : Int, x6 = (v5 + 1) →
        l_X11_coded_41 k n x5 x6 M))
def w_X11_coded (v1 : Int) (v2 : Int) (M : hq_M) (k : Int → hq_M → Prop) : Prop :=
  (v1 < 1 →
    k (-1) M) ∧
  (¬ v1 < 1 →
    (8 < v1 →
      k (-1) M) ∧
    (¬ 8 < v1 →
      (0 ≤ v2 →
        w_X6_empty 5 M (fun M1 =>
          w_X6_addInteger 5 0 v1 v2 M1 (fun M2 =>
            ∃ m41, l_X11_coded_41 k m41 0 0 M2))) ∧
      (¬ 0 ≤ v2 →
        k (-1) M)))
def w_X11_withGroup (v0 : Int) (v2 : Int) (v3 : Int) (M : hq_M) (k : Int → Prop) : Prop :=
  (¬ v2 = 0 →
    (v3 ≤ 4 →
      rg (7 * v3) ∧
      rl (v0 + (hq_lsh v2 (7 * v3))) ∧
      k (v0 + (hq_lsh v2 (7 * v3)))) ∧
    (¬ v3 ≤ 4 →
      k 2147483648)) ∧
  (v2 = 0 →
    k v0)
def b_X11_withGroups_73 (v2 : Int) (v4 : Int) (v5 : Int) (t0 : Int) (k_20 : Int → Int → Prop) (k : Int → Prop) (M : hq_M) : Prop :=
  (¬ v5 = t0 →
    w_X6_at 1 v4 M (fun x1 =>
      rg (v4 - 1) ∧
      w_X11_withGroup v2 (x1 % 128) (v4 - 1) M (fun x3 =>
        rg (v4 + 1) ∧ ∀ x4 : Int, x4 = (v4 + 1) →
        k_20 x3 x4))) ∧
  (v5 = t0 →
    k (-2))
def b_X11_withGroups_52 (v2 : Int) (v4 : Int) (t0 : Int) (k_20 : Int → Int → Prop) (k : Int → Prop) (M : hq_M) : Prop :=
  rg ((M 1 1) - 1) ∧
  (¬ v4 = ((M 1 1) - 1) →
    b_X11_withGroups_73 v2 v4 t0 0 k_20 k M) ∧
  (v4 = ((M 1 1) - 1) →
    b_X11_withGroups_73 v2 v4 t0 1 k_20 k M)
def l_X11_withGroups_20 (k_112 : Int → Prop) (k : Int → Prop) (M : hq_M) : Nat → Int → Int → Prop
  | 0, _, _ => False
  | n + 1, v2, v4 =>
    ((M 1 1) ≤ v4 →
      k_112 v2) ∧
    (¬ (M 1 1) ≤ v4 →
      w_X6_at 1 v4 M (fun x2 =>
        (x2 < 128 →
          b_X11_withGroups_52 v2 v4 0 (fun v2q v4q => l_X11_withGroups_20 k_112 k M n v2q v4q) k M) ∧
        (¬ x2 < 128 →
          b_X11_withGroups_52 v2 v4 1 (fun v2q v4q => l_X11_withGroups_20 k_112 k M n v2q v4q) k M)))
def w_X11_withGroups (v1 : Int) (M : hq_M) (k : Int → Prop) : Prop :=
  (2 ≤ (M 1 1) →
    ∃ m20, l_X11_withGroups_20 (fun x2 =>
      (x2 ≤ 2147483647 →
        rg x2 ∧
        k x2) ∧
      (¬ x2 ≤ 2147483647 →
        k (-3))) k M m20 v1 1) ∧
  (¬ 2 ≤ (M 1 1) →
    k (-2))
def w_X11_number (v1 : Int) (M : hq_M) (k : Int → Prop) : Prop :=
  (v1 < 1 →
    k (-1)) ∧
  (¬ v1 < 1 →
    (v1 ≤ 8 →
      (¬ (M 1 1) = 0 →
        (0 ≤ v1 ∧ v1 ≤ 30) ∧ rg (1 * ((2 ^ v1.toNat : Nat) : Int)) ∧
        rg ((1 * ((2 ^ v1.toNat : Nat) : Int)) - 1) ∧
        ∀ x5 : Int, x5 = ((1 * ((2 ^ v1.toNat : Nat) : Int)) - 1) →
        w_X6_at 1 0 M (fun x6 =>
          ∀ x7 : Int, x7 = (hq_ian x6 x5) →
          (x5 ≤ x7 →
            w_X11_withGroups x5 M (fun x8 =>
              k x8)) ∧
          (¬ x5 ≤ x7 →
            (¬ (M 1 1) = 1 →
              k (-2)) ∧
            ((M 1 1) = 1 →
              k x7)))) ∧
      ((M 1 1) = 0 →
        k (-2))) ∧
    (¬ v1 ≤ 8 →
      k (-1)))
def w_X11_count (v1 : Int) (M : hq_M) (k : Int → Prop) : Prop :=
  (v1 = 0 →
    ∀ o2 : Nat, o2 = (M 0 9).toNat →
    k (M (o2 + 1) 1)) ∧
  (v1 = 1 →
    ∀ o5 : Nat, o5 = (M 0 9).toNat →
    k (M (o5 + 38) 1)) ∧
  (v1 = 2 →
    ∀ o8 : Nat, o8 = (M 0 9).toNat →
    k (M o8 2)) ∧
  (v1 = 3 →
    ∀ o11 : Nat, o11 = (M 0 9).toNat →
    k (M o11 3)) ∧
  (v1 = 4 →
    k (M 370 5)) ∧
  (v1 = 5 →
    k (M 384 2)) ∧
  (v1 = 6 →
    k (M 168 1)) ∧
  (v1 = 7 →
    w_X1_blocked M (fun x16 =>
      k x16)) ∧
  (v1 = 8 →
    w_X1_atRisk (M 370 5) M (fun x18 =>
      k x18)) ∧
  (v1 = 9 →
    k (M 376 1)) ∧
  (v1 = 10 →
    k (M 389 1)) ∧
  (v1 = 11 →
    k (M 3 1)) ∧
  (v1 = 12 →
    k (M 1 1)) ∧
  (v1 < 0 ∨ 12 < v1 →
    k (-1))
