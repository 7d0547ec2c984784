/-! ===== what each method needs, read out of its bytecode by program (wip/whole/gen) ===== -/
def w_X12_in (v0 : Int) (v2 : Int) (v4 : Int) (M : hq_M) (k : Int → Prop) : Prop :=
  (v0 < v2 →
    k 0) ∧
  (¬ v0 < v2 →
    (v4 < v0 →
      k 0) ∧
    (¬ v4 < v0 →
      k 1))
def w_X12_lesser (v0 : Int) (v1 : Int) (M : hq_M) (k : Int → Prop) : Prop :=
  (v1 ≤ v0 →
    k v1) ∧
  (¬ v1 ≤ v0 →
    k v0)
def w_X12_greater (v0 : Int) (v1 : Int) (M : hq_M) (k : Int → Prop) : Prop :=
  (v0 ≤ v1 →
    k v1) ∧
  (¬ v0 ≤ v1 →
    k v0)
def w_X12_isFigure (v0 : Int) (M : hq_M) (k : Int → Prop) : Prop :=
  w_X12_in v0 48 57 M (fun x1 =>
    k x1)
def w_X12_isSmall (v0 : Int) (M : hq_M) (k : Int → Prop) : Prop :=
  w_X12_in v0 97 122 M (fun x1 =>
    k x1)
def l_X12_take_0 (k_38 : hq_M → Prop) (k : hq_M → Prop) : Nat → hq_M → Prop
  | 0, _ => False
  | n + 1, M =>
    ((M 0 9) ≤ (M 0 10) →
      k_38 M) ∧
    (¬ (M 0 9) ≤ (M 0 10) →
      (0 ≤ (M 0 10) ∧ (M 0 10) < 200) ∧
      (¬ (M 5 (M 0 10).toNat) = 32 →
        k_38 M) ∧
      ((M 5 (M 0 10).toNat) = 32 →
        rg ((M 0 10) + 1) ∧
        ∀ M8 : hq_M, M8 = hq_up M 0 10 ((M 0 10) + 1) →
        l_X12_take_0 k_38 k n M8))
def b_X12_take_165 (k_124 : hq_M → Prop) (k : hq_M → Prop) (M : hq_M) : Prop :=
  rg ((M 0 10) + 1) ∧
  ∀ M3 : hq_M, M3 = hq_up M 0 10 ((M 0 10) + 1) →
  k_124 M3
def l_X12_take_124 (k : hq_M → Prop) : Nat → hq_M → Prop
  | 0, _ => False
  | n + 1, M =>
    ((M 0 9) ≤ (M 0 10) →
      k M) ∧
    (¬ (M 0 9) ≤ (M 0 10) →
      (0 ≤ (M 0 10) ∧ (M 0 10) < 200) ∧
      w_X12_isFigure (M 5 (M 0 10).toNat) M (fun x6 =>
        (¬ x6 = 0 →
          b_X12_take_165 (fun Mq => l_X12_take_124 k n Mq) k M) ∧
        (x6 = 0 →
          (0 ≤ (M 0 10) ∧ (M 0 10) < 200) ∧
          w_X12_isSmall (M 5 (M 0 10).toNat) M (fun x10 =>
            (x10 = 0 →
              k M) ∧
            (¬ x10 = 0 →
              b_X12_take_165 (fun Mq => l_X12_take_124 k n Mq) k M)))))
def b_X12_take_118 (k : hq_M → Prop) (M : hq_M) : Prop :=
  ∀ M1 : hq_M, M1 = hq_up M 0 12 (-2) →
  ∃ m124, l_X12_take_124 k m124 M1
def b_X12_take_91 (v1 : Int) (t1 : Int) (k : hq_M → Prop) (M : hq_M) : Prop :=
  ∀ M1 : hq_M, M1 = hq_up M 0 12 t1 →
  rg ((M1 0 10) + 1) ∧
  ∀ M4 : hq_M, M4 = hq_up M1 0 10 ((M1 0 10) + 1) →
  w_X12_isFigure v1 M4 (fun x5 =>
    (¬ x5 = 0 →
      b_X12_take_118 k M4) ∧
    (x5 = 0 →
      w_X12_isSmall v1 M4 (fun x6 =>
        (x6 = 0 →
          k M4) ∧
        (¬ x6 = 0 →
          b_X12_take_118 k M4))))
def b_X12_take_86 (v1 : Int) (k : hq_M → Prop) (M : hq_M) : Prop :=
  b_X12_take_91 v1 v1 k M
def w_X12_take  (M : hq_M) (k : hq_M → Prop) : Prop :=
  ∃ m0, l_X12_take_0 (fun M1 =>
    ∀ M3 : hq_M, M3 = hq_up M1 0 11 (M1 0 10) →
    (¬ (M3 0 10) = (M3 0 9) →
      (0 ≤ (M3 0 10) ∧ (M3 0 10) < 200) ∧
      ∀ x9 : Int, x9 = M3 5 (M3 0 10).toNat →
      (x9 = 61 →
        b_X12_take_86 x9 k M3) ∧
      (¬ x9 = 61 →
        (¬ x9 = 59 →
          b_X12_take_91 x9 0 k M3) ∧
        (x9 = 59 →
          b_X12_take_86 x9 k M3))) ∧
    ((M3 0 10) = (M3 0 9) →
      ∀ M10 : hq_M, M10 = hq_up M3 0 12 (-1) →
      k M10)) k m0 M
def l_X12_word_7 (k_35 : Int → Prop) (k : Int → Prop) (M : hq_M) : Nat → Int → Int → Prop
  | 0, _, _ => False
  | n + 1, v1, v3 =>
    ((M 0 10) ≤ v3 →
      k_35 v1) ∧
    (¬ (M 0 10) ≤ v3 →
      (0 ≤ v3 ∧ v3 < 200) ∧
      ∀ x4 : Int, x4 = (hq_wr ((hq_wr (256 * v1)) + (M 5 v3.toNat))) →
      rg (v3 + 1) ∧ ∀ x5 : Int, x5 = (v3 + 1) →
      l_X12_word_7 k_35 k M n x4 x5)
def w_X12_word  (M : hq_M) (k : Int → Prop) : Prop :=
  ∀ x2 : Int, x2 = M 0 11 →
  ∃ m7, l_X12_word_7 (fun x3 =>
    (¬ (M 0 12) = (-2) →
      k 0) ∧
    ((M 0 12) = (-2) →
      rg ((M 0 10) - (M 0 11)) ∧
      (8 ≤ ((M 0 10) - (M 0 11)) →
        k 0) ∧
      (¬ 8 ≤ ((M 0 10) - (M 0 11)) →
        k x3))) k M m7 0 x2
def b_X12_told_104 (v2 : Int) (t0 : Int) (k_61 : Int → Int → Prop) (k : Int → Prop) (M : hq_M) : Prop :=
  rg (v2 + 1) ∧ ∀ x1 : Int, x1 = (v2 + 1) →
  k_61 t0 x1
def l_X12_told_61 (k : Int → Prop) (M : hq_M) : Nat → Int → Int → Prop
  | 0, _, _ => False
  | n + 1, v1, v2 =>
    ((M 0 10) ≤ v2 →
      k v1) ∧
    (¬ (M 0 10) ≤ v2 →
      (v1 < 0 →
        k v1) ∧
      (¬ v1 < 0 →
        (0 ≤ v2 ∧ v2 < 200) ∧
        w_X12_isFigure (M 5 v2.toNat) M (fun x4 =>
          (x4 = 0 →
            b_X12_told_104 v2 (-9) (fun v1q v2q => l_X12_told_61 k M n v1q v2q) k M) ∧
          (¬ x4 = 0 →
            rg (10 * v1) ∧
            (0 ≤ v2 ∧ v2 < 200) ∧
            rg ((10 * v1) + (M 5 v2.toNat)) ∧
            rg (((10 * v1) + (M 5 v2.toNat)) - 48) ∧
            b_X12_told_104 v2 (((10 * v1) + (M 5 v2.toNat)) - 48) (fun v1q v2q => l_X12_told_61 k M n v1q v2q) k M))))
def b_X12_told_55 (t0 : Int) (k : Int → Prop) (M : hq_M) : Prop :=
  ∀ x2 : Int, x2 = M 0 11 →
  ∃ m61, l_X12_told_61 k M m61 t0 x2
def b_X12_told_53 (k : Int → Prop) (M : hq_M) : Prop :=
  b_X12_told_55 (-9) k M
def b_X12_told_49 (k : Int → Prop) (M : hq_M) : Prop :=
  b_X12_told_55 0 k M
def w_X12_told  (M : hq_M) (k : Int → Prop) : Prop :=
  (¬ (M 0 12) = (-2) →
    b_X12_told_53 k M) ∧
  ((M 0 12) = (-2) →
    rg ((M 0 10) - (M 0 11)) ∧
    (4 ≤ ((M 0 10) - (M 0 11)) →
      b_X12_told_53 k M) ∧
    (¬ 4 ≤ ((M 0 10) - (M 0 11)) →
      (0 ≤ (M 0 11) ∧ (M 0 11) < 200) ∧
      (¬ (M 5 (M 0 11).toNat) = 48 →
        b_X12_told_49 k M) ∧
      ((M 5 (M 0 11).toNat) = 48 →
        rg ((M 0 10) - (M 0 11)) ∧
        (¬ ((M 0 10) - (M 0 11)) = 1 →
          b_X12_told_53 k M) ∧
        (((M 0 10) - (M 0 11)) = 1 →
          b_X12_told_49 k M))))
def b_X12_readsSign_13 (t0 : Int) (k : Int → hq_M → Prop) (M : hq_M) : Prop :=
  (t0 = 0 →
    k t0 M) ∧
  (¬ t0 = 0 →
    w_X12_take M (fun M1 =>
      k t0 M1))
def w_X12_readsSign (v1 : Int) (M : hq_M) (k : Int → hq_M → Prop) : Prop :=
  (¬ (M 0 12) = v1 →
    b_X12_readsSign_13 0 k M) ∧
  ((M 0 12) = v1 →
    b_X12_readsSign_13 1 k M)
def b_X12_readsMost_14 (t0 : Int) (k : Int → hq_M → Prop) (M : hq_M) : Prop :=
  (t0 = 0 →
    k t0 M) ∧
  (¬ t0 = 0 →
    w_X12_take M (fun M1 =>
      w_X12_told M1 (fun x2 =>
        w_X12_in x2 0 200 M1 (fun x3 =>
          w_X12_told M1 (fun x4 =>
            ∀ M5 : hq_M, M5 = hq_up M1 0 16 x4 →
            k x3 M5)))))
def w_X12_readsMost  (M : hq_M) (k : Int → hq_M → Prop) : Prop :=
  (¬ (M 0 16) = (-9) →
    b_X12_readsMost_14 0 k M) ∧
  ((M 0 16) = (-9) →
    b_X12_readsMost_14 1 k M)
def b_X12_readsBound_14 (t0 : Int) (k : Int → hq_M → Prop) (M : hq_M) : Prop :=
  (t0 = 0 →
    k t0 M) ∧
  (¬ t0 = 0 →
    w_X12_take M (fun M1 =>
      w_X12_told M1 (fun x2 =>
        w_X12_in x2 0 9 M1 (fun x3 =>
          w_X12_told M1 (fun x4 =>
            ∀ M5 : hq_M, M5 = hq_up M1 0 17 x4 →
            k x3 M5)))))
def w_X12_readsBound  (M : hq_M) (k : Int → hq_M → Prop) : Prop :=
  (¬ (M 0 17) = (-9) →
    b_X12_readsBound_14 0 k M) ∧
  ((M 0 17) = (-9) →
    b_X12_readsBound_14 1 k M)
def l_X12_isName_34 (k : Int → Prop) (M : hq_M) : Nat → Int → Int → Prop
  | 0, _, _ => False
  | n + 1, v1, v2 =>
    ((M 0 10) ≤ v2 →
      k v1) ∧
    (¬ (M 0 10) ≤ v2 →
      (v1 = 0 →
        k v1) ∧
      (¬ v1 = 0 →
        (0 ≤ v2 ∧ v2 < 200) ∧
        w_X12_isSmall (M 5 v2.toNat) M (fun x4 =>
          rg (v2 + 1) ∧ ∀ x5 : Int, x5 = (v2 + 1) →
          l_X12_isName_34 k M n x4 x5)))
def b_X12_isName_28 (t0 : Int) (k : Int → Prop) (M : hq_M) : Prop :=
  ∀ x2 : Int, x2 = M 0 11 →
  ∃ m34, l_X12_isName_34 k M m34 t0 x2
def b_X12_isName_27 (k : Int → Prop) (M : hq_M) : Prop :=
  b_X12_isName_28 0 k M
def w_X12_isName  (M : hq_M) (k : Int → Prop) : Prop :=
  (¬ (M 0 12) = (-2) →
    b_X12_isName_27 k M) ∧
  ((M 0 12) = (-2) →
    rg ((M 0 10) - (M 0 11)) ∧
    (6 < ((M 0 10) - (M 0 11)) →
      b_X12_isName_27 k M) ∧
    (¬ 6 < ((M 0 10) - (M 0 11)) →
      b_X12_isName_28 1 k M))
def l_X12_readsPair_30 (v1 : Int) (k_68 : hq_M → Prop) (k : Int → hq_M → Prop) : Nat → Int → hq_M → Prop
  | 0, _, _ => False
  | n + 1, v2, M =>
    (0 ≤ v1 ∧ v1 < 32) ∧
    ((M 1 v1.toNat) ≤ v2 →
      k_68 M) ∧
    (¬ (M 1 v1.toNat) ≤ v2 →
      rg (6 * v1) ∧
      rg ((6 * v1) + v2) ∧
      rg ((M 0 11) + v2) ∧
      (0 ≤ ((M 0 11) + v2) ∧ ((M 0 11) + v2) < 200) ∧
      (0 ≤ ((6 * v1) + v2) ∧ ((6 * v1) + v2) < 192) ∧
      ∀ M10 : hq_M, M10 = hq_up M 3 (((6 * v1) + v2).toNat) (M 5 ((M 0 11) + v2).toNat) →
      rg (v2 + 1) ∧ ∀ x11 : Int, x11 = (v2 + 1) →
      l_X12_readsPair_30 v1 k_68 k n x11 M10)
def l_X12_readsPair_132 (v1 : Int) (k_170 : hq_M → Prop) (k : Int → hq_M → Prop) : Nat → Int → hq_M → Prop
  | 0, _, _ => False
  | n + 1, v2, M =>
    (0 ≤ v1 ∧ v1 < 32) ∧
    ((M 2 v1.toNat) ≤ v2 →
      k_170 M) ∧
    (¬ (M 2 v1.toNat) ≤ v2 →
      rg (6 * v1) ∧
      rg ((6 * v1) + v2) ∧
      rg ((M 0 11) + v2) ∧
      (0 ≤ ((M 0 11) + v2) ∧ ((M 0 11) + v2) < 200) ∧
      (0 ≤ ((6 * v1) + v2) ∧ ((6 * v1) + v2) < 192) ∧
      ∀ M10 : hq_M, M10 = hq_up M 4 (((6 * v1) + v2).toNat) (M 5 ((M 0 11) + v2).toNat) →
      rg (v2 + 1) ∧ ∀ x11 : Int, x11 = (v2 + 1) →
      l_X12_readsPair_132 v1 k_170 k n x11 M10)
def w_X12_readsPair (v1 : Int) (M : hq_M) (k : Int → hq_M → Prop) : Prop :=
  w_X12_take M (fun M1 =>
    w_X12_isName M1 (fun x2 =>
      (¬ x2 = 0 →
        rg ((M1 0 10) - (M1 0 11)) ∧
        (0 ≤ v1 ∧ v1 < 32) ∧
        ∀ M7 : hq_M, M7 = hq_up M1 1 (v1.toNat) ((M1 0 10) - (M1 0 11)) →
        ∃ m30, l_X12_readsPair_30 v1 (fun M8 =>
          w_X12_take M8 (fun M9 =>
            w_X12_readsSign 61 M9 (fun x11 M10 =>
              (¬ x11 = 0 →
                (0 ≤ v1 ∧ v1 < 32) ∧
                ∀ M13 : hq_M, M13 = hq_up M10 2 (v1.toNat) 0 →
                (¬ (M13 0 12) = (-2) →
                  k 1 M13) ∧
                ((M13 0 12) = (-2) →
                  rg ((M13 0 10) - (M13 0 11)) ∧
                  (((M13 0 10) - (M13 0 11)) ≤ 6 →
                    rg ((M13 0 10) - (M13 0 11)) ∧
                    (0 ≤ v1 ∧ v1 < 32) ∧
                    ∀ M22 : hq_M, M22 = hq_up M13 2 (v1.toNat) ((M13 0 10) - (M13 0 11)) →
                    ∃ m132, l_X12_readsPair_132 v1 (fun M23 =>
                      w_X12_take M23 (fun M24 =>
                        k 1 M24)) k m132 0 M22) ∧
                  (¬ ((M13 0 10) - (M13 0 11)) ≤ 6 →
                    k 0 M13))) ∧
              (x11 = 0 →
                k 0 M10)))) k m30 0 M7) ∧
      (x2 = 0 →
        k 0 M1)))
def b_X12_readsStill_43 (v1 : Int) (t1 : Int) (t2 : Int) (k : Int → hq_M → Prop) (M : hq_M) : Prop :=
  rg (t1 + t2) ∧
  ∀ M2 : hq_M, M2 = hq_up M 0 15 (t1 + t2) →
  k v1 M2
def b_X12_readsStill_28 (t0 : Int) (k : Int → hq_M → Prop) (M : hq_M) : Prop :=
  (t0 = 0 →
    b_X12_readsStill_43 t0 (M 0 15) 0 k M) ∧
  (¬ t0 = 0 →
    b_X12_readsStill_43 t0 (M 0 15) 1 k M)
def b_X12_readsStill_27 (k : Int → hq_M → Prop) (M : hq_M) : Prop :=
  b_X12_readsStill_28 0 k M
def w_X12_readsStill  (M : hq_M) (k : Int → hq_M → Prop) : Prop :=
  (8 ≤ (M 0 15) →
    b_X12_readsStill_27 k M) ∧
  (¬ 8 ≤ (M 0 15) →
    rg (24 + (M 0 15)) ∧
    w_X12_readsPair (24 + (M 0 15)) M (fun x5 M4 =>
      (x5 = 0 →
        b_X12_readsStill_27 k M4) ∧
      (¬ x5 = 0 →
        b_X12_readsStill_28 1 k M4)))
def b_X12_areOfOneName_71 (v1 : Int) (v2 : Int) (v4 : Int) (t0 : Int) (k_24 : Int → Int → Prop) (k : Int → Prop) (M : hq_M) : Prop :=
  rg (v4 + 1) ∧ ∀ x1 : Int, x1 = (v4 + 1) →
  k_24 t0 x1
def l_X12_areOfOneName_24 (v1 : Int) (v2 : Int) (k : Int → Prop) (M : hq_M) : Nat → Int → Int → Prop
  | 0, _, _ => False
  | n + 1, v3, v4 =>
    (0 ≤ v1 ∧ v1 < 32) ∧
    ((M 1 v1.toNat) ≤ v4 →
      k v3) ∧
    (¬ (M 1 v1.toNat) ≤ v4 →
      (v3 = 0 →
        k v3) ∧
      (¬ v3 = 0 →
        rg (6 * v1) ∧
        rg ((6 * v1) + v4) ∧
        (0 ≤ ((6 * v1) + v4) ∧ ((6 * v1) + v4) < 192) ∧
        rg (6 * v2) ∧
        rg ((6 * v2) + v4) ∧
        (0 ≤ ((6 * v2) + v4) ∧ ((6 * v2) + v4) < 192) ∧
        (¬ (M 3 ((6 * v1) + v4).toNat) = (M 3 ((6 * v2) + v4).toNat) →
          b_X12_areOfOneName_71 v1 v2 v4 0 (fun v3q v4q => l_X12_areOfOneName_24 v1 v2 k M n v3q v4q) k M) ∧
        ((M 3 ((6 * v1) + v4).toNat) = (M 3 ((6 * v2) + v4).toNat) →
          b_X12_areOfOneName_71 v1 v2 v4 1 (fun v3q v4q => l_X12_areOfOneName_24 v1 v2 k M n v3q v4q) k M)))
def b_X12_areOfOneName_20 (v1 : Int) (v2 : Int) (t0 : Int) (k : Int → Prop) (M : hq_M) : Prop :=
  ∃ m24, l_X12_areOfOneName_24 v1 v2 k M m24 t0 0
def w_X12_areOfOneName (v1 : Int) (v2 : Int) (M : hq_M) (k : Int → Prop) : Prop :=
  (0 ≤ v1 ∧ v1 < 32) ∧
  (0 ≤ v2 ∧ v2 < 32) ∧
  (¬ (M 1 v1.toNat) = (M 1 v2.toNat) →
    b_X12_areOfOneName_20 v1 v2 0 k M) ∧
  ((M 1 v1.toNat) = (M 1 v2.toNat) →
    b_X12_areOfOneName_20 v1 v2 1 k M)
def b_X12_areAlike_80 (v1 : Int) (v2 : Int) (v4 : Int) (t0 : Int) (k_33 : Int → Int → Prop) (k : Int → Prop) (M : hq_M) : Prop :=
  rg (v4 + 1) ∧ ∀ x1 : Int, x1 = (v4 + 1) →
  k_33 t0 x1
def l_X12_areAlike_33 (v1 : Int) (v2 : Int) (k : Int → Prop) (M : hq_M) : Nat → Int → Int → Prop
  | 0, _, _ => False
  | n + 1, v3, v4 =>
    (0 ≤ v1 ∧ v1 < 32) ∧
    ((M 2 v1.toNat) ≤ v4 →
      k v3) ∧
    (¬ (M 2 v1.toNat) ≤ v4 →
      (v3 = 0 →
        k v3) ∧
      (¬ v3 = 0 →
        rg (6 * v1) ∧
        rg ((6 * v1) + v4) ∧
        (0 ≤ ((6 * v1) + v4) ∧ ((6 * v1) + v4) < 192) ∧
        rg (6 * v2) ∧
        rg ((6 * v2) + v4) ∧
        (0 ≤ ((6 * v2) + v4) ∧ ((6 * v2) + v4) < 192) ∧
        (¬ (M 4 ((6 * v1) + v4).toNat) = (M 4 ((6 * v2) + v4).toNat) →
          b_X12_areAlike_80 v1 v2 v4 0 (fun v3q v4q => l_X12_areAlike_33 v1 v2 k M n v3q v4q) k M) ∧
        ((M 4 ((6 * v1) + v4).toNat) = (M 4 ((6 * v2) + v4).toNat) →
          b_X12_areAlike_80 v1 v2 v4 1 (fun v3q v4q => l_X12_areAlike_33 v1 v2 k M n v3q v4q) k M)))
def b_X12_areAlike_29 (v1 : Int) (v2 : Int) (t0 : Int) (k : Int → Prop) (M : hq_M) : Prop :=
  ∃ m33, l_X12_areAlike_33 v1 v2 k M m33 t0 0
def b_X12_areAlike_28 (v1 : Int) (v2 : Int) (k : Int → Prop) (M : hq_M) : Prop :=
  b_X12_areAlike_29 v1 v2 0 k M
def w_X12_areAlike (v1 : Int) (v2 : Int) (M : hq_M) (k : Int → Prop) : Prop :=
  w_X12_areOfOneName v1 v2 M (fun x1 =>
    (x1 = 0 →
      b_X12_areAlike_28 v1 v2 k M) ∧
    (¬ x1 = 0 →
      (0 ≤ v1 ∧ v1 < 32) ∧
      (0 ≤ v2 ∧ v2 < 32) ∧
      (¬ (M 2 v1.toNat) = (M 2 v2.toNat) →
        b_X12_areAlike_28 v1 v2 k M) ∧
      ((M 2 v1.toNat) = (M 2 v2.toNat) →
        b_X12_areAlike_29 v1 v2 1 k M)))
def l_X12_readsField_36 (k_70 : hq_M → Prop) (k : Int → hq_M → Prop) : Nat → Int → hq_M → Prop
  | 0, _, _ => False
  | n + 1, v1, M =>
    ((M 0 14) ≤ v1 →
      k_70 M) ∧
    (¬ (M 0 14) ≤ v1 →
      rg (16 + v1) ∧
      rg (16 + (M 0 14)) ∧
      w_X12_areAlike (16 + v1) (16 + (M 0 14)) M (fun x5 =>
        (x5 = 0 →
          rg (v1 + 1) ∧ ∀ x6 : Int, x6 = (v1 + 1) →
          l_X12_readsField_36 k_70 k n x6 M) ∧
        (¬ x5 = 0 →
          k 0 M)))
def w_X12_readsField  (M : hq_M) (k : Int → hq_M → Prop) : Prop :=
  ((M 0 14) = 7 →
    k 0 M) ∧
  (¬ (M 0 14) = 7 →
    rg (16 + (M 0 14)) ∧
    w_X12_readsPair (16 + (M 0 14)) M (fun x5 M4 =>
      (x5 = 0 →
        k 0 M4) ∧
      (¬ x5 = 0 →
        ((M4 0 12) = 59 →
          ∃ m36, l_X12_readsField_36 (fun M7 =>
            rg ((M7 0 14) + 1) ∧
            ∀ M10 : hq_M, M10 = hq_up M7 0 14 ((M7 0 14) + 1) →
            k 1 M10) k m36 0 M4) ∧
        (¬ (M4 0 12) = 59 →
          k 0 M4))))
def b_X12_readsItem_40 (t0 : Int) (k : Int → hq_M → Prop) (M : hq_M) : Prop :=
  (t0 = 0 →
    k t0 M) ∧
  (¬ t0 = 0 →
    w_X12_take M (fun M1 =>
      k t0 M1))
def b_X12_readsItem_21 (v1 : Int) (k : Int → hq_M → Prop) (M : hq_M) : Prop :=
  (¬ v1 = 499850046565 →
    w_X12_readsBound M (fun x2 M1 =>
      b_X12_readsItem_40 x2 k M1)) ∧
  (v1 = 499850046565 →
    w_X12_readsMost M (fun x4 M3 =>
      b_X12_readsItem_40 x4 k M3))
def w_X12_readsItem  (M : hq_M) (k : Int → hq_M → Prop) : Prop :=
  w_X12_word M (fun x1 =>
    (x1 = 499850046565 →
      b_X12_readsItem_21 x1 k M) ∧
    (¬ x1 = 499850046565 →
      (¬ x1 = 27703773382796644 →
        (¬ x1 = 495874305132 →
          (¬ x1 = 439854918756 →
            k 0 M) ∧
          (x1 = 439854918756 →
            w_X12_readsField M (fun x3 M2 =>
              (x3 = 0 →
                k 0 M2) ∧
              (¬ x3 = 0 →
                k 1 M2)))) ∧
        (x1 = 495874305132 →
          w_X12_readsStill M (fun x5 M4 =>
            k x5 M4))) ∧
      (x1 = 27703773382796644 →
        b_X12_readsItem_21 x1 k M)))
def l_X12_reads_36 (k : Int → hq_M → Prop) : Nat → hq_M → Prop
  | 0, _ => False
  | n + 1, M =>
    ((M 0 12) = (-1) →
      k 1 M) ∧
    (¬ (M 0 12) = (-1) →
      w_X12_readsItem M (fun x3 M2 =>
        (x3 = 0 →
          k 0 M2) ∧
        (¬ x3 = 0 →
          w_X12_readsSign 59 M2 (fun x5 M4 =>
            (¬ x5 = 0 →
              rg ((M4 0 13) + 1) ∧
              ∀ M8 : hq_M, M8 = hq_up M4 0 13 ((M4 0 13) + 1) →
              l_X12_reads_36 k n M8) ∧
            (x5 = 0 →
              k 0 M4)))))
def w_X12_reads  (M : hq_M) (k : Int → hq_M → Prop) : Prop :=
  ∀ M1 : hq_M, M1 = hq_up M 0 10 0 →
  ∀ M2 : hq_M, M2 = hq_up M1 0 13 0 →
  ∀ M3 : hq_M, M3 = hq_up M2 0 14 0 →
  ∀ M4 : hq_M, M4 = hq_up M3 0 15 0 →
  ∀ M5 : hq_M, M5 = hq_up M4 0 16 (-9) →
  ∀ M6 : hq_M, M6 = hq_up M5 0 17 (-9) →
  w_X12_take M6 (fun M7 =>
    ∃ m36, l_X12_reads_36 k m36 M7)
def w_X12_sizeOf (v1 : Int) (M : hq_M) (k : Int → Prop) : Prop :=
  (0 ≤ v1 ∧ v1 < 32) ∧
  (0 ≤ v1 ∧ v1 < 32) ∧
  rg ((M 1 v1.toNat) + (M 2 v1.toNat)) ∧
  rg (((M 1 v1.toNat) + (M 2 v1.toNat)) + 4) ∧
  k (((M 1 v1.toNat) + (M 2 v1.toNat)) + 4)
def b_X12_stillOf_43 (v1 : Int) (v2 : Int) (v3 : Int) (k_2 : Int → Prop) (k : Int → Prop) (M : hq_M) : Prop :=
  rg (v3 + 1) ∧ ∀ x1 : Int, x1 = (v3 + 1) →
  k_2 x1
def l_X12_stillOf_2 (v1 : Int) (v2 : Int) (k : Int → Prop) (M : hq_M) : Nat → Int → Prop
  | 0, _ => False
  | n + 1, v3 =>
    ((M 0 1) ≤ v3 →
      k (-9)) ∧
    (¬ (M 0 1) ≤ v3 →
      (v2 = 0 →
        rg (8 + v3) ∧
        w_X12_areOfOneName (8 + v3) v1 M (fun x3 =>
          (x3 = 0 →
            b_X12_stillOf_43 v1 v2 v3 (fun v3q => l_X12_stillOf_2 v1 v2 k M n v3q) k M) ∧
          (¬ x3 = 0 →
            k v3))) ∧
      (¬ v2 = 0 →
        rg (8 + v3) ∧
        w_X12_areAlike (8 + v3) v1 M (fun x5 =>
          (x5 = 0 →
            b_X12_stillOf_43 v1 v2 v3 (fun v3q => l_X12_stillOf_2 v1 v2 k M n v3q) k M) ∧
          (¬ x5 = 0 →
            k v3))))
def w_X12_stillOf (v1 : Int) (v2 : Int) (M : hq_M) (k : Int → Prop) : Prop :=
  ∃ m2, l_X12_stillOf_2 v1 v2 k M m2 0
def w_X12_type (v1 : Int) (M : hq_M) (k : Int → hq_M → Prop) : Prop :=
  w_X12_in v1 0 255 M (fun x1 =>
    (¬ x1 = 0 →
      (¬ (M 0 9) = 200 →
        (0 ≤ (M 0 9) ∧ (M 0 9) < 200) ∧
        ∀ M5 : hq_M, M5 = hq_up M 5 ((M 0 9).toNat) v1 →
        rg ((M5 0 9) + 1) ∧
        ∀ M8 : hq_M, M8 = hq_up M5 0 9 ((M5 0 9) + 1) →
        k (M8 0 9) M8) ∧
      ((M 0 9) = 200 →
        k (-3) M)) ∧
    (x1 = 0 →
      k (-1) M))
def w_X12_clear  (M : hq_M) (k : Int → hq_M → Prop) : Prop :=
  ∀ x2 : Int, x2 = M 0 9 →
  ∀ M3 : hq_M, M3 = hq_up M 0 9 0 →
  k x2 M3
def l_X12_begins_2 (k_41 : hq_M → Prop) (k : hq_M → Prop) : Nat → Int → hq_M → Prop
  | 0, _, _ => False
  | n + 1, v1, M =>
    (2 ≤ v1 →
      k_41 M) ∧
    (¬ 2 ≤ v1 →
      (0 ≤ v1 ∧ v1 < 2) ∧
      ∀ M2 : hq_M, M2 = hq_up M 6 (v1.toNat) 0 →
      (0 ≤ v1 ∧ v1 < 2) ∧
      ∀ M4 : hq_M, M4 = hq_up M2 7 (v1.toNat) 0 →
      (0 ≤ v1 ∧ v1 < 2) ∧
      ∀ M6 : hq_M, M6 = hq_up M4 8 (v1.toNat) 0 →
      (0 ≤ v1 ∧ v1 < 2) ∧
      ∀ M8 : hq_M, M8 = hq_up M6 9 (v1.toNat) 0 →
      rg (v1 + 1) ∧ ∀ x9 : Int, x9 = (v1 + 1) →
      l_X12_begins_2 k_41 k n x9 M8)
def w_X12_begins  (M : hq_M) (k : hq_M → Prop) : Prop :=
  ∃ m2, l_X12_begins_2 (fun M1 =>
    ∀ M2 : hq_M, M2 = hq_up M1 0 23 0 →
    ∀ M3 : hq_M, M3 = hq_up M2 0 24 0 →
    ∀ M4 : hq_M, M4 = hq_up M3 0 25 0 →
    ∀ M5 : hq_M, M5 = hq_up M4 0 37 0 →
    ∀ M6 : hq_M, M6 = hq_up M5 0 39 0 →
    ∀ M7 : hq_M, M7 = hq_up M6 0 43 0 →
    ∀ M8 : hq_M, M8 = hq_up M7 0 47 0 →
    ∀ M9 : hq_M, M9 = hq_up M8 0 52 0 →
    ∀ M10 : hq_M, M10 = hq_up M9 0 56 0 →
    k M10) k m2 0 M
def l_X12_tells_76 (k_118 : hq_M → Prop) (k : Int → hq_M → Prop) : Nat → Int → hq_M → Prop
  | 0, _, _ => False
  | n + 1, v1, M =>
    (16 ≤ v1 →
      k_118 M) ∧
    (¬ 16 ≤ v1 →
      rg (16 + v1) ∧
      (0 ≤ (16 + v1) ∧ (16 + v1) < 32) ∧
      (0 ≤ v1 ∧ v1 < 32) ∧
      ∀ M5 : hq_M, M5 = hq_up M 1 (v1.toNat) (M 1 (16 + v1).toNat) →
      rg (16 + v1) ∧
      (0 ≤ (16 + v1) ∧ (16 + v1) < 32) ∧
      (0 ≤ v1 ∧ v1 < 32) ∧
      ∀ M10 : hq_M, M10 = hq_up M5 2 (v1.toNat) (M5 2 (16 + v1).toNat) →
      rg (v1 + 1) ∧ ∀ x11 : Int, x11 = (v1 + 1) →
      l_X12_tells_76 k_118 k n x11 M10)
def l_X12_tells_120 (k_162 : hq_M → Prop) (k : Int → hq_M → Prop) : Nat → Int → hq_M → Prop
  | 0, _, _ => False
  | n + 1, v1, M =>
    (96 ≤ v1 →
      k_162 M) ∧
    (¬ 96 ≤ v1 →
      rg (96 + v1) ∧
      (0 ≤ (96 + v1) ∧ (96 + v1) < 192) ∧
      (0 ≤ v1 ∧ v1 < 192) ∧
      ∀ M5 : hq_M, M5 = hq_up M 3 (v1.toNat) (M 3 (96 + v1).toNat) →
      rg (96 + v1) ∧
      (0 ≤ (96 + v1) ∧ (96 + v1) < 192) ∧
      (0 ≤ v1 ∧ v1 < 192) ∧
      ∀ M10 : hq_M, M10 = hq_up M5 4 (v1.toNat) (M5 4 (96 + v1).toNat) →
      rg (v1 + 1) ∧ ∀ x11 : Int, x11 = (v1 + 1) →
      l_X12_tells_120 k_162 k n x11 M10)
def b_X12_tells_71 (t1 : Int) (k : Int → hq_M → Prop) (M : hq_M) : Prop :=
  ∀ M1 : hq_M, M1 = hq_up M 0 3 t1 →
  ∃ m76, l_X12_tells_76 (fun M2 =>
    ∃ m120, l_X12_tells_120 (fun M3 =>
      ∀ M4 : hq_M, M4 = hq_up M3 0 9 0 →
      w_X12_begins M4 (fun M5 =>
        k (M5 0 13) M5)) k m120 0 M2) k m76 0 M1
def b_X12_tells_50 (t1 : Int) (k : Int → hq_M → Prop) (M : hq_M) : Prop :=
  ∀ M1 : hq_M, M1 = hq_up M 0 2 t1 →
  (¬ (M1 0 17) = (-9) →
    b_X12_tells_71 (M1 0 17) k M1) ∧
  ((M1 0 17) = (-9) →
    b_X12_tells_71 2 k M1)
def w_X12_tells  (M : hq_M) (k : Int → hq_M → Prop) : Prop :=
  w_X12_reads M (fun x2 M1 =>
    (¬ x2 = 0 →
      ∀ M4 : hq_M, M4 = hq_up M1 0 0 (M1 0 14) →
      ∀ M6 : hq_M, M6 = hq_up M4 0 1 (M4 0 15) →
      (¬ (M6 0 16) = (-9) →
        b_X12_tells_50 (M6 0 16) k M6) ∧
      ((M6 0 16) = (-9) →
        b_X12_tells_50 60 k M6)) ∧
    (x2 = 0 →
      rg ((-10) - (M1 0 11)) ∧
      k ((-10) - (M1 0 11)) M1))
def w_X12_isField (v1 : Int) (M : hq_M) (k : Int → Prop) : Prop :=
  rg ((M 0 0) - 1) ∧
  w_X12_in v1 0 ((M 0 0) - 1) M (fun x3 =>
    k x3)
def b_X12_spells_84 (v3 : Int) (v4 : Int) (v5 : Int) (t0 : Int) (k : Int → Prop) (M : hq_M) : Prop :=
  (0 ≤ v4 →
    (v4 < t0 →
      (¬ v3 = 0 →
        rg (6 * v5) ∧
        rg ((6 * v5) + v4) ∧
        (0 ≤ ((6 * v5) + v4) ∧ ((6 * v5) + v4) < 192) ∧
        k (M 4 ((6 * v5) + v4).toNat)) ∧
      (v3 = 0 →
        rg (6 * v5) ∧
        rg ((6 * v5) + v4) ∧
        (0 ≤ ((6 * v5) + v4) ∧ ((6 * v5) + v4) < 192) ∧
        k (M 3 ((6 * v5) + v4).toNat))) ∧
    (¬ v4 < t0 →
      k (-9))) ∧
  (¬ 0 ≤ v4 →
    k t0)
def b_X12_spells_28 (v1 : Int) (v2 : Int) (v3 : Int) (v4 : Int) (t0 : Int) (t1 : Int) (t2 : Int) (k : Int → Prop) (M : hq_M) : Prop :=
  rg (t2 - 1) ∧
  w_X12_in t0 t1 (t2 - 1) M (fun x2 =>
    (x2 = 0 →
      k (-1)) ∧
    (¬ x2 = 0 →
      w_X12_in v3 0 1 M (fun x3 =>
        (x3 = 0 →
          k (-1)) ∧
        (¬ x3 = 0 →
          ((-1) ≤ v4 →
            rg (8 * v1) ∧
            rg ((8 * v1) + v2) ∧
            ∀ x6 : Int, x6 = ((8 * v1) + v2) →
            (¬ v3 = 0 →
              (0 ≤ x6 ∧ x6 < 32) ∧
              b_X12_spells_84 v3 v4 x6 (M 2 x6.toNat) k M) ∧
            (v3 = 0 →
              (0 ≤ x6 ∧ x6 < 32) ∧
              b_X12_spells_84 v3 v4 x6 (M 1 x6.toNat) k M)) ∧
          (¬ (-1) ≤ v4 →
            k (-1))))))
def w_X12_spells (v1 : Int) (v2 : Int) (v3 : Int) (v4 : Int) (M : hq_M) (k : Int → Prop) : Prop :=
  w_X12_in v1 0 1 M (fun x1 =>
    (x1 = 0 →
      k (-1)) ∧
    (¬ x1 = 0 →
      (¬ v1 = 0 →
        b_X12_spells_28 v1 v2 v3 v4 v2 0 (M 0 1) k M) ∧
      (v1 = 0 →
        b_X12_spells_28 v1 v2 v3 v4 v2 0 (M 0 0) k M)))
def w_X12_fieldAt (v1 : Int) (v2 : Int) (M : hq_M) (k : Int → Prop) : Prop :=
  rg (64 * v1) ∧
  (0 ≤ v2 ∧ (0 : Int) < 64) ∧
  rg ((64 * v1) + (v2 % 64)) ∧
  (0 ≤ ((64 * v1) + (v2 % 64)) ∧ ((64 * v1) + (v2 % 64)) < 128) ∧
  k (M 10 ((64 * v1) + (v2 % 64)).toNat)
def w_X12_isThere (v1 : Int) (v2 : Int) (M : hq_M) (k : Int → Prop) : Prop :=
  (0 ≤ v1 ∧ v1 < 2) ∧
  (0 ≤ v1 ∧ v1 < 2) ∧
  rg ((M 6 v1.toNat) - 1) ∧
  w_X12_in v2 (M 7 v1.toNat) ((M 6 v1.toNat) - 1) M (fun x6 =>
    k x6)
def w_X12_goes (v1 : Int) (M : hq_M) (k : hq_M → Prop) : Prop :=
  (0 ≤ v1 ∧ v1 < 2) ∧
  (0 ≤ v1 ∧ v1 < 2) ∧
  w_X12_fieldAt v1 (M 7 v1.toNat) M (fun x5 =>
    w_X12_sizeOf x5 M (fun x6 =>
      rg ((M 9 v1.toNat) - x6) ∧
      (0 ≤ v1 ∧ v1 < 2) ∧
      ∀ M9 : hq_M, M9 = hq_up M 9 (v1.toNat) ((M 9 v1.toNat) - x6) →
      (0 ≤ v1 ∧ v1 < 2) ∧
      rg ((M9 7 v1.toNat) + 1) ∧
      (0 ≤ v1 ∧ v1 < 2) ∧
      ∀ M14 : hq_M, M14 = hq_up M9 7 (v1.toNat) ((M9 7 v1.toNat) + 1) →
      k M14))
def l_X12_makesRoom_2 (v1 : Int) (v2 : Int) (k : Int → hq_M → Prop) : Nat → Int → hq_M → Prop
  | 0, _, _ => False
  | n + 1, v3, M =>
    (0 ≤ v1 ∧ v1 < 2) ∧
    rg ((M 9 v1.toNat) + v2) ∧
    (0 ≤ v1 ∧ v1 < 2) ∧
    (((M 9 v1.toNat) + v2) ≤ (M 8 v1.toNat) →
      k v3 M) ∧
    (¬ ((M 9 v1.toNat) + v2) ≤ (M 8 v1.toNat) →
      w_X12_goes v1 M (fun M6 =>
        rg (v3 + 1) ∧ ∀ x7 : Int, x7 = (v3 + 1) →
        l_X12_makesRoom_2 v1 v2 k n x7 M6))
def w_X12_makesRoom (v1 : Int) (v2 : Int) (M : hq_M) (k : Int → hq_M → Prop) : Prop :=
  ∃ m2, l_X12_makesRoom_2 v1 v2 k m2 0 M
def w_X12_comes (v1 : Int) (v2 : Int) (M : hq_M) (k : hq_M → Prop) : Prop :=
  w_X12_sizeOf v2 M (fun x1 =>
    w_X12_makesRoom v1 x1 M (fun x3 M2 =>
      rg (64 * v1) ∧
      (0 ≤ v1 ∧ v1 < 2) ∧
      (0 ≤ (M2 6 v1.toNat) ∧ (0 : Int) < 64) ∧
      rg ((64 * v1) + ((M2 6 v1.toNat) % 64)) ∧
      (0 ≤ ((64 * v1) + ((M2 6 v1.toNat) % 64)) ∧ ((64 * v1) + ((M2 6 v1.toNat) % 64)) < 128) ∧
      ∀ M10 : hq_M, M10 = hq_up M2 10 (((64 * v1) + ((M2 6 v1.toNat) % 64)).toNat) v2 →
      (0 ≤ v1 ∧ v1 < 2) ∧
      rg ((M10 6 v1.toNat) + 1) ∧
      (0 ≤ v1 ∧ v1 < 2) ∧
      ∀ M15 : hq_M, M15 = hq_up M10 6 (v1.toNat) ((M10 6 v1.toNat) + 1) →
      (0 ≤ v1 ∧ v1 < 2) ∧
      w_X12_sizeOf v2 M15 (fun x18 =>
        rg ((M15 9 v1.toNat) + x18) ∧
        (0 ≤ v1 ∧ v1 < 2) ∧
        ∀ M21 : hq_M, M21 = hq_up M15 9 (v1.toNat) ((M15 9 v1.toNat) + x18) →
        k M21)))
def b_X12_isHeldBy_50 (v1 : Int) (v2 : Int) (v4 : Int) (t0 : Int) (k_5 : Int → Int → Prop) (k : Int → Prop) (M : hq_M) : Prop :=
  rg (v4 + 1) ∧ ∀ x1 : Int, x1 = (v4 + 1) →
  k_5 t0 x1
def b_X12_isHeldBy_45 (v1 : Int) (v2 : Int) (v4 : Int) (k_5 : Int → Int → Prop) (k : Int → Prop) (M : hq_M) : Prop :=
  b_X12_isHeldBy_50 v1 v2 v4 1 k_5 k M
def b_X12_isHeldBy_49 (v1 : Int) (v2 : Int) (v4 : Int) (k_5 : Int → Int → Prop) (k : Int → Prop) (M : hq_M) : Prop :=
  b_X12_isHeldBy_50 v1 v2 v4 0 k_5 k M
def l_X12_isHeldBy_5 (v1 : Int) (v2 : Int) (k : Int → Prop) (M : hq_M) : Nat → Int → Int → Prop
  | 0, _, _ => False
  | n + 1, v3, v4 =>
    (0 ≤ v1 ∧ v1 < 40) ∧
    ((M 17 v1.toNat) ≤ v4 →
      k v3) ∧
    (¬ (M 17 v1.toNat) ≤ v4 →
      (¬ v3 = 0 →
        b_X12_isHeldBy_45 v1 v2 v4 (fun v3q v4q => l_X12_isHeldBy_5 v1 v2 k M n v3q v4q) k M) ∧
      (v3 = 0 →
        (0 ≤ v1 ∧ v1 < 40) ∧
        (¬ (M 16 v1.toNat) = 0 →
          b_X12_isHeldBy_49 v1 v2 v4 (fun v3q v4q => l_X12_isHeldBy_5 v1 v2 k M n v3q v4q) k M) ∧
        ((M 16 v1.toNat) = 0 →
          rg (6 * v1) ∧
          rg ((6 * v1) + v4) ∧
          (0 ≤ ((6 * v1) + v4) ∧ ((6 * v1) + v4) < 240) ∧
          (¬ (M 19 ((6 * v1) + v4).toNat) = v2 →
            b_X12_isHeldBy_49 v1 v2 v4 (fun v3q v4q => l_X12_isHeldBy_5 v1 v2 k M n v3q v4q) k M) ∧
          ((M 19 ((6 * v1) + v4).toNat) = v2 →
            b_X12_isHeldBy_45 v1 v2 v4 (fun v3q v4q => l_X12_isHeldBy_5 v1 v2 k M n v3q v4q) k M))))
def w_X12_isHeldBy (v1 : Int) (v2 : Int) (M : hq_M) (k : Int → Prop) : Prop :=
  ∃ m5, l_X12_isHeldBy_5 v1 v2 k M m5 0 0
def b_X12_isHeld_31 (v1 : Int) (v3 : Int) (t0 : Int) (k_4 : Int → Int → Prop) (k : Int → Prop) (M : hq_M) : Prop :=
  rg (v3 + 1) ∧ ∀ x1 : Int, x1 = (v3 + 1) →
  k_4 t0 x1
def b_X12_isHeld_26 (v1 : Int) (v3 : Int) (k_4 : Int → Int → Prop) (k : Int → Prop) (M : hq_M) : Prop :=
  b_X12_isHeld_31 v1 v3 1 k_4 k M
def l_X12_isHeld_4 (v1 : Int) (k_38 : Int → Prop) (k : Int → Prop) (M : hq_M) : Nat → Int → Int → Prop
  | 0, _, _ => False
  | n + 1, v2, v3 =>
    ((M 0 39) ≤ v3 →
      k_38 v2) ∧
    (¬ (M 0 39) ≤ v3 →
      (¬ v2 = 0 →
        b_X12_isHeld_26 v1 v3 (fun v2q v3q => l_X12_isHeld_4 v1 k_38 k M n v2q v3q) k M) ∧
      (v2 = 0 →
        (0 ≤ v3 ∧ v3 < 6) ∧
        (¬ (M 22 v3.toNat) = v1 →
          b_X12_isHeld_31 v1 v3 0 (fun v2q v3q => l_X12_isHeld_4 v1 k_38 k M n v2q v3q) k M) ∧
        ((M 22 v3.toNat) = v1 →
          b_X12_isHeld_26 v1 v3 (fun v2q v3q => l_X12_isHeld_4 v1 k_38 k M n v2q v3q) k M)))
def b_X12_isHeld_66 (v1 : Int) (v3 : Int) (t0 : Int) (k_40 : Int → Int → Prop) (k : Int → Prop) (M : hq_M) : Prop :=
  rg (v3 + 1) ∧ ∀ x1 : Int, x1 = (v3 + 1) →
  k_40 t0 x1
def b_X12_isHeld_61 (v1 : Int) (v3 : Int) (k_40 : Int → Int → Prop) (k : Int → Prop) (M : hq_M) : Prop :=
  b_X12_isHeld_66 v1 v3 1 k_40 k M
def l_X12_isHeld_40 (v1 : Int) (k : Int → Prop) (M : hq_M) : Nat → Int → Int → Prop
  | 0, _, _ => False
  | n + 1, v2, v3 =>
    ((M 0 25) ≤ v3 →
      k v2) ∧
    (¬ (M 0 25) ≤ v3 →
      (¬ v2 = 0 →
        b_X12_isHeld_61 v1 v3 (fun v2q v3q => l_X12_isHeld_40 v1 k M n v2q v3q) k M) ∧
      (v2 = 0 →
        w_X12_isHeldBy v3 v1 M (fun x2 =>
          (x2 = 0 →
            b_X12_isHeld_66 v1 v3 0 (fun v2q v3q => l_X12_isHeld_40 v1 k M n v2q v3q) k M) ∧
          (¬ x2 = 0 →
            b_X12_isHeld_61 v1 v3 (fun v2q v3q => l_X12_isHeld_40 v1 k M n v2q v3q) k M))))
def w_X12_isHeld (v1 : Int) (M : hq_M) (k : Int → Prop) : Prop :=
  ∃ m4, l_X12_isHeld_4 v1 (fun x1 =>
    ∃ m40, l_X12_isHeld_40 v1 k M m40 x1 0) k M m4 0 0
def w_X12_isFree (v1 : Int) (M : hq_M) (k : Int → Prop) : Prop :=
  ((M 0 23) ≤ v1 →
    k 0) ∧
  (¬ (M 0 23) ≤ v1 →
    w_X12_isHeld v1 M (fun x2 =>
      (¬ x2 = 0 →
        k 0) ∧
      (x2 = 0 →
        k 1)))
def l_X12_canHave_17 (v2 : Int) (k_62 : Int → Prop) (k : Int → Prop) (M : hq_M) : Nat → Int → Int → Prop
  | 0, _, _ => False
  | n + 1, v3, v4 =>
    (v3 ≤ v2 →
      k_62 v3) ∧
    (¬ v3 ≤ v2 →
      ((0 : Int) ≤ 0 ∧ (0 : Int) < 2) ∧
      ((M 6 0) ≤ v4 →
        k_62 v3) ∧
      (¬ (M 6 0) ≤ v4 →
        w_X12_isFree v4 M (fun x3 =>
          (x3 = 0 →
            k_62 v3) ∧
          (¬ x3 = 0 →
            w_X12_fieldAt 0 v4 M (fun x4 =>
              w_X12_sizeOf x4 M (fun x5 =>
                rg (v3 - x5) ∧
                ∀ x7 : Int, x7 = (v3 - x5) →
                rg (v4 + 1) ∧ ∀ x8 : Int, x8 = (v4 + 1) →
                l_X12_canHave_17 v2 k_62 k M n x7 x8))))))
def w_X12_canHave (v1 : Int) (v2 : Int) (M : hq_M) (k : Int → Prop) : Prop :=
  ((0 : Int) ≤ 0 ∧ (0 : Int) < 2) ∧
  rg ((M 9 0) + v1) ∧
  ∀ x4 : Int, x4 = ((M 9 0) + v1) →
  ((0 : Int) ≤ 0 ∧ (0 : Int) < 2) ∧
  ∀ x7 : Int, x7 = M 7 0 →
  ∃ m17, l_X12_canHave_17 v2 (fun x8 =>
    (v2 < x8 →
      k 0) ∧
    (¬ v2 < x8 →
      k 1)) k M m17 x4 x7
def w_X12_lays (v1 : Int) (M : hq_M) (k : hq_M → Prop) : Prop :=
  (0 ≤ (M 0 49) ∧ (M 0 49) < 32) ∧
  ∀ M3 : hq_M, M3 = hq_up M 28 ((M 0 49).toNat) v1 →
  rg ((M3 0 49) + 1) ∧
  ∀ M6 : hq_M, M6 = hq_up M3 0 49 ((M3 0 49) + 1) →
  k M6
def l_X12_laysNumber_35 (k_67 : Int → hq_M → Prop) (k : hq_M → Prop) : Nat → Int → hq_M → Prop
  | 0, _, _ => False
  | n + 1, v5, M =>
    (v5 ≤ 127 →
      k_67 v5 M) ∧
    (¬ v5 ≤ 127 →
      (0 ≤ v5 ∧ (0 : Int) < 128) ∧
      rg (128 + (v5 % 128)) ∧
      w_X12_lays (128 + (v5 % 128)) M (fun M3 =>
        (0 ≤ v5 ∧ (0 : Int) < 128) ∧
        ∀ x5 : Int, x5 = (v5 / 128) →
        l_X12_laysNumber_35 k_67 k n x5 M3))
def w_X12_laysNumber (v1 : Int) (v2 : Int) (v3 : Int) (M : hq_M) (k : hq_M → Prop) : Prop :=
  (0 ≤ v2 ∧ v2 ≤ 30) ∧ rg (1 * ((2 ^ v2.toNat : Nat) : Int)) ∧
  rg ((1 * ((2 ^ v2.toNat : Nat) : Int)) - 1) ∧
  ∀ x4 : Int, x4 = ((1 * ((2 ^ v2.toNat : Nat) : Int)) - 1) →
  (x4 ≤ v3 →
    rg (v1 + x4) ∧
    w_X12_lays (v1 + x4) M (fun M6 =>
      rg (v3 - x4) ∧
      ∀ x8 : Int, x8 = (v3 - x4) →
      ∃ m35, l_X12_laysNumber_35 (fun x10 M9 =>
        w_X12_lays x10 M9 (fun M11 =>
          k M11)) k m35 x8 M6)) ∧
  (¬ x4 ≤ v3 →
    rg (v1 + v3) ∧
    w_X12_lays (v1 + v3) M (fun M13 =>
      k M13))
def l_X12_laysName_2 (v1 : Int) (k : hq_M → Prop) : Nat → Int → hq_M → Prop
  | 0, _, _ => False
  | n + 1, v2, M =>
    (0 ≤ v1 ∧ v1 < 32) ∧
    ((M 1 v1.toNat) ≤ v2 →
      k M) ∧
    (¬ (M 1 v1.toNat) ≤ v2 →
      rg (6 * v1) ∧
      rg ((6 * v1) + v2) ∧
      (0 ≤ ((6 * v1) + v2) ∧ ((6 * v1) + v2) < 192) ∧
      w_X12_lays (M 3 ((6 * v1) + v2).toNat) M (fun M7 =>
        rg (v2 + 1) ∧ ∀ x8 : Int, x8 = (v2 + 1) →
        l_X12_laysName_2 v1 k n x8 M7))
def w_X12_laysName (v1 : Int) (M : hq_M) (k : hq_M → Prop) : Prop :=
  ∃ m2, l_X12_laysName_2 v1 k m2 0 M
def l_X12_laysValue_15 (v1 : Int) (k : hq_M → Prop) : Nat → Int → hq_M → Prop
  | 0, _, _ => False
  | n + 1, v2, M =>
    (0 ≤ v1 ∧ v1 < 32) ∧
    ((M 2 v1.toNat) ≤ v2 →
      k M) ∧
    (¬ (M 2 v1.toNat) ≤ v2 →
      rg (6 * v1) ∧
      rg ((6 * v1) + v2) ∧
      (0 ≤ ((6 * v1) + v2) ∧ ((6 * v1) + v2) < 192) ∧
      w_X12_lays (M 4 ((6 * v1) + v2).toNat) M (fun M7 =>
        rg (v2 + 1) ∧ ∀ x8 : Int, x8 = (v2 + 1) →
        l_X12_laysValue_15 v1 k n x8 M7))
def w_X12_laysValue (v1 : Int) (M : hq_M) (k : hq_M → Prop) : Prop :=
  (0 ≤ v1 ∧ v1 < 32) ∧
  w_X12_laysNumber 0 7 (M 2 v1.toNat) M (fun M3 =>
    ∃ m15, l_X12_laysValue_15 v1 k m15 0 M3)
def l_X12_sendsOrder_2 (k_33 : hq_M → Prop) (k : hq_M → Prop) : Nat → Int → hq_M → Prop
  | 0, _, _ => False
  | n + 1, v3, M =>
    ((M 0 49) ≤ v3 →
      k_33 M) ∧
    (¬ (M 0 49) ≤ v3 →
      rg ((M 0 43) + v3) ∧
      (0 ≤ v3 ∧ v3 < 32) ∧
      (0 ≤ ((M 0 43) + v3) ∧ ((M 0 43) + v3) < 224) ∧
      ∀ M7 : hq_M, M7 = hq_up M 24 (((M 0 43) + v3).toNat) (M 28 v3.toNat) →
      rg (v3 + 1) ∧ ∀ x8 : Int, x8 = (v3 + 1) →
      l_X12_sendsOrder_2 k_33 k n x8 M7)
def w_X12_sendsOrder (v1 : Int) (v2 : Int) (M : hq_M) (k : hq_M → Prop) : Prop :=
  ∃ m2, l_X12_sendsOrder_2 (fun M1 =>
    rg ((M1 0 43) + (M1 0 49)) ∧
    ∀ M5 : hq_M, M5 = hq_up M1 0 43 ((M1 0 43) + (M1 0 49)) →
    (0 ≤ (M5 0 47) ∧ (M5 0 47) < 224) ∧
    ∀ M8 : hq_M, M8 = hq_up M5 25 ((M5 0 47).toNat) v1 →
    (0 ≤ (M8 0 47) ∧ (M8 0 47) < 224) ∧
    ∀ M11 : hq_M, M11 = hq_up M8 27 ((M8 0 47).toNat) v2 →
    (0 ≤ (M11 0 47) ∧ (M11 0 47) < 224) ∧
    ∀ M15 : hq_M, M15 = hq_up M11 26 ((M11 0 47).toNat) (M11 0 49) →
    rg ((M15 0 47) + 1) ∧
    ∀ M18 : hq_M, M18 = hq_up M15 0 47 ((M15 0 47) + 1) →
    k M18) k m2 0 M
def w_X12_isOverfull  (M : hq_M) (k : Int → Prop) : Prop :=
  rg ((M 0 43) + (M 0 49)) ∧
  (((M 0 43) + (M 0 49)) ≤ 200 →
    k 0) ∧
  (¬ ((M 0 43) + (M 0 49)) ≤ 200 →
    k 1)
def b_X12_latest_60 (v1 : Int) (v3 : Int) (v4 : Int) (k_14 : Int → Prop) (k : Int → Prop) (M : hq_M) : Prop :=
  rg (v4 + (-1)) ∧ ∀ x1 : Int, x1 = (v4 + (-1)) →
  k_14 x1
def l_X12_latest_14 (v1 : Int) (v3 : Int) (k : Int → Prop) (M : hq_M) : Nat → Int → Prop
  | 0, _ => False
  | n + 1, v4 =>
    ((0 : Int) ≤ 0 ∧ (0 : Int) < 2) ∧
    (v4 < (M 7 0) →
      k (-9)) ∧
    (¬ v4 < (M 7 0) →
      w_X12_fieldAt 0 v4 M (fun x3 =>
        (v3 = 0 →
          w_X12_areOfOneName x3 v1 M (fun x4 =>
            (x4 = 0 →
              b_X12_latest_60 v1 v3 v4 (fun v4q => l_X12_latest_14 v1 v3 k M n v4q) k M) ∧
            (¬ x4 = 0 →
              k v4))) ∧
        (¬ v3 = 0 →
          (¬ x3 = v1 →
            b_X12_latest_60 v1 v3 v4 (fun v4q => l_X12_latest_14 v1 v3 k M n v4q) k M) ∧
          (x3 = v1 →
            k v4))))
def w_X12_latest (v1 : Int) (v2 : Int) (v3 : Int) (M : hq_M) (k : Int → Prop) : Prop :=
  ((0 : Int) ≤ 0 ∧ (0 : Int) < 2) ∧
  w_X12_lesser v2 (M 6 0) M (fun x3 =>
    rg (x3 - 1) ∧
    ∀ x5 : Int, x5 = (x3 - 1) →
    ∃ m14, l_X12_latest_14 v1 v3 k M m14 x5)
def w_X12_inserted (v1 : Int) (M : hq_M) (k : Int → hq_M → Prop) : Prop :=
  w_X12_sizeOf v1 M (fun x1 =>
    ((0 : Int) ≤ 0 ∧ (0 : Int) < 2) ∧
    w_X12_canHave x1 (M 8 0) M (fun x4 =>
      (¬ x4 = 0 →
        w_X12_isOverfull M (fun x5 =>
          (x5 = 0 →
            w_X12_comes 0 v1 M (fun M6 =>
              w_X12_sendsOrder 1 v1 M6 (fun M7 =>
                ((0 : Int) ≤ 0 ∧ (0 : Int) < 2) ∧
                rg ((M7 6 0) - 1) ∧
                k ((M7 6 0) - 1) M7))) ∧
          (¬ x5 = 0 →
            k (-3) M))) ∧
      (x4 = 0 →
        k (-2) M)))
def b_X12_insertsField_90 (v1 : Int) (k : Int → hq_M → Prop) (M : hq_M) : Prop :=
  w_X12_laysValue v1 M (fun M1 =>
    w_X12_inserted v1 M1 (fun x3 M2 =>
      k x3 M2))
def w_X12_insertsField (v1 : Int) (M : hq_M) (k : Int → hq_M → Prop) : Prop :=
  ∀ M1 : hq_M, M1 = hq_up M 0 49 0 →
  w_X12_stillOf v1 0 M1 (fun x2 =>
    ((0 : Int) ≤ 0 ∧ (0 : Int) < 2) ∧
    w_X12_latest v1 (M1 6 0) 0 M1 (fun x5 =>
      (x2 = (-9) →
        (x5 = (-9) →
          (0 ≤ v1 ∧ v1 < 32) ∧
          w_X12_laysNumber 64 5 (M1 1 v1.toNat) M1 (fun M8 =>
            w_X12_laysName v1 M8 (fun M9 =>
              b_X12_insertsField_90 v1 k M9))) ∧
        (¬ x5 = (-9) →
          ((0 : Int) ≤ 0 ∧ (0 : Int) < 2) ∧
          rg ((M1 6 0) - 1) ∧
          rg (((M1 6 0) - 1) - x5) ∧
          w_X12_laysNumber 128 6 (((M1 6 0) - 1) - x5) M1 (fun M14 =>
            b_X12_insertsField_90 v1 k M14))) ∧
      (¬ x2 = (-9) →
        w_X12_laysNumber 192 6 x2 M1 (fun M15 =>
          b_X12_insertsField_90 v1 k M15))))
def w_X12_capacity (v1 : Int) (M : hq_M) (k : Int → hq_M → Prop) : Prop :=
  w_X12_in v1 0 (M 0 2) M (fun x2 =>
    (¬ x2 = 0 →
      ((0 : Int) ≤ 0 ∧ (0 : Int) < 2) ∧
      (v1 = (M 8 0) →
        k (-2) M) ∧
      (¬ v1 = (M 8 0) →
        w_X12_canHave 0 v1 M (fun x5 =>
          (¬ x5 = 0 →
            ∀ M6 : hq_M, M6 = hq_up M 0 49 0 →
            w_X12_laysNumber 32 5 v1 M6 (fun M7 =>
              w_X12_isOverfull M7 (fun x8 =>
                (x8 = 0 →
                  w_X12_sendsOrder 0 v1 M7 (fun M9 =>
                    ((0 : Int) ≤ 0 ∧ (0 : Int) < 2) ∧
                    ∀ M11 : hq_M, M11 = hq_up M9 8 0 v1 →
                    w_X12_makesRoom 0 0 M11 (fun x13 M12 =>
                      k x13 M12))) ∧
                (¬ x8 = 0 →
                  k (-3) M7)))) ∧
          (x5 = 0 →
            k (-2) M)))) ∧
    (x2 = 0 →
      k (-1) M))
def w_X12_inserts (v1 : Int) (M : hq_M) (k : Int → hq_M → Prop) : Prop :=
  w_X12_isField v1 M (fun x1 =>
    (x1 = 0 →
      k (-1) M) ∧
    (¬ x1 = 0 →
      w_X12_insertsField v1 M (fun x3 M2 =>
        k x3 M2)))
def w_X12_repeats (v1 : Int) (M : hq_M) (k : Int → hq_M → Prop) : Prop :=
  w_X12_isThere 0 v1 M (fun x1 =>
    (¬ x1 = 0 →
      ∀ M2 : hq_M, M2 = hq_up M 0 49 0 →
      ((0 : Int) ≤ 0 ∧ (0 : Int) < 2) ∧
      rg ((M2 6 0) - 1) ∧
      rg (((M2 6 0) - 1) - v1) ∧
      w_X12_laysNumber 0 5 (((M2 6 0) - 1) - v1) M2 (fun M7 =>
        w_X12_fieldAt 0 v1 M7 (fun x8 =>
          w_X12_inserted x8 M7 (fun x10 M9 =>
            k x10 M9)))) ∧
    (x1 = 0 →
      k (-1) M))
def w_X12_puts (v1 : Int) (M : hq_M) (k : Int → hq_M → Prop) : Prop :=
  w_X12_isField v1 M (fun x1 =>
    (¬ x1 = 0 →
      (¬ (M 0 37) = 6 →
        (0 ≤ (M 0 37) ∧ (M 0 37) < 6) ∧
        ∀ M5 : hq_M, M5 = hq_up M 21 ((M 0 37).toNat) v1 →
        rg ((M5 0 37) + 1) ∧
        ∀ M8 : hq_M, M8 = hq_up M5 0 37 ((M5 0 37) + 1) →
        k (M8 0 37) M8) ∧
      ((M 0 37) = 6 →
        k (-3) M)) ∧
    (x1 = 0 →
      k (-1) M))
def w_X12_takes  (M : hq_M) (k : Int → hq_M → Prop) : Prop :=
  (¬ (M 0 37) = 0 →
    rg ((M 0 37) - 1) ∧
    ∀ M4 : hq_M, M4 = hq_up M 0 37 ((M 0 37) - 1) →
    (0 ≤ (M4 0 37) ∧ (M4 0 37) < 6) ∧
    k (M4 21 (M4 0 37).toNat) M4) ∧
  ((M 0 37) = 0 →
    k (-2) M)
def w_X12_isAtRisk (v1 : Int) (M : hq_M) (k : Int → Prop) : Prop :=
  (0 ≤ v1 ∧ v1 < 40) ∧
  (¬ (M 16 v1.toNat) = 0 →
    k 0) ∧
  ((M 16 v1.toNat) = 0 →
    (0 ≤ v1 ∧ v1 < 40) ∧
    ((M 11 v1.toNat) ≤ (M 0 23) →
      k 0) ∧
    (¬ (M 11 v1.toNat) ≤ (M 0 23) →
      k 1))
def b_X12_risks_26 (v2 : Int) (t0 : Int) (t1 : Int) (k_4 : Int → Int → Prop) (k : Int → Prop) (M : hq_M) : Prop :=
  rg (t0 + t1) ∧
  ∀ x2 : Int, x2 = (t0 + t1) →
  rg (v2 + 1) ∧ ∀ x3 : Int, x3 = (v2 + 1) →
  k_4 x2 x3
def l_X12_risks_4 (k : Int → Prop) (M : hq_M) : Nat → Int → Int → Prop
  | 0, _, _ => False
  | n + 1, v1, v2 =>
    ((M 0 25) ≤ v2 →
      k v1) ∧
    (¬ (M 0 25) ≤ v2 →
      w_X12_isAtRisk v2 M (fun x2 =>
        (x2 = 0 →
          b_X12_risks_26 v2 v1 0 (fun v1q v2q => l_X12_risks_4 k M n v1q v2q) k M) ∧
        (¬ x2 = 0 →
          b_X12_risks_26 v2 v1 1 (fun v1q v2q => l_X12_risks_4 k M n v1q v2q) k M)))
def w_X12_risks  (M : hq_M) (k : Int → Prop) : Prop :=
  ∃ m4, l_X12_risks_4 k M m4 0 0
def l_X12_laysToLetter_2 (k_41 : hq_M → Prop) (k : hq_M → Prop) : Nat → Int → hq_M → Prop
  | 0, _, _ => False
  | n + 1, v1, M =>
    ((M 0 49) ≤ v1 →
      k_41 M) ∧
    (¬ (M 0 49) ≤ v1 →
      (0 ≤ v1 ∧ v1 < 32) ∧
      (0 ≤ (M 0 41) ∧ (M 0 41) < 112) ∧
      ∀ M6 : hq_M, M6 = hq_up M 23 ((M 0 41).toNat) (M 28 v1.toNat) →
      rg ((M6 0 41) + 1) ∧
      ∀ M9 : hq_M, M9 = hq_up M6 0 41 ((M6 0 41) + 1) →
      rg (v1 + 1) ∧ ∀ x10 : Int, x10 = (v1 + 1) →
      l_X12_laysToLetter_2 k_41 k n x10 M9)
def w_X12_laysToLetter  (M : hq_M) (k : hq_M → Prop) : Prop :=
  ∃ m2, l_X12_laysToLetter_2 (fun M1 =>
    ∀ M2 : hq_M, M2 = hq_up M1 0 49 0 →
    k M2) k m2 0 M
def w_X12_refersTo (v1 : Int) (M : hq_M) (k : hq_M → Prop) : Prop :=
  (0 ≤ (M 0 39) ∧ (M 0 39) < 6) ∧
  ∀ M3 : hq_M, M3 = hq_up M 22 ((M 0 39).toNat) v1 →
  k M3
def b_X12_laysLike_37 (v1 : Int) (k : hq_M → Prop) (M : hq_M) : Prop :=
  w_X12_refersTo v1 M (fun M1 =>
    k M1)
def w_X12_laysLike (v1 : Int) (v2 : Int) (M : hq_M) (k : hq_M → Prop) : Prop :=
  ∀ M1 : hq_M, M1 = hq_up M 0 49 0 →
  (v2 ≤ v1 →
    rg (v1 - v2) ∧
    w_X12_laysNumber 16 4 (v1 - v2) M1 (fun M3 =>
      b_X12_laysLike_37 v1 k M3)) ∧
  (¬ v2 ≤ v1 →
    rg (v2 - 1) ∧
    rg ((v2 - 1) - v1) ∧
    w_X12_laysNumber 128 6 ((v2 - 1) - v1) M1 (fun M6 =>
      b_X12_laysLike_37 v1 k M6))
def b_X12_laysByName_107 (v1 : Int) (k : hq_M → Prop) (M : hq_M) : Prop :=
  w_X12_laysValue v1 M (fun M1 =>
    k M1)
def w_X12_laysByName (v1 : Int) (v2 : Int) (v3 : Int) (M : hq_M) (k : hq_M → Prop) : Prop :=
  ∀ M1 : hq_M, M1 = hq_up M 0 49 0 →
  w_X12_stillOf v1 0 M1 (fun x2 =>
    w_X12_latest v1 v2 0 M1 (fun x3 =>
      (x2 = (-9) →
        (x3 = (-9) →
          (0 ≤ v1 ∧ v1 < 32) ∧
          w_X12_laysNumber 32 3 (M1 1 v1.toNat) M1 (fun M6 =>
            w_X12_laysName v1 M6 (fun M7 =>
              b_X12_laysByName_107 v1 k M7))) ∧
        (¬ x3 = (-9) →
          w_X12_refersTo x3 M1 (fun M8 =>
            (v3 ≤ x3 →
              rg (x3 - v3) ∧
              w_X12_laysNumber 0 3 (x3 - v3) M8 (fun M10 =>
                b_X12_laysByName_107 v1 k M10)) ∧
            (¬ v3 ≤ x3 →
              rg (v3 - 1) ∧
              rg ((v3 - 1) - x3) ∧
              w_X12_laysNumber 64 4 ((v3 - 1) - x3) M8 (fun M13 =>
                b_X12_laysByName_107 v1 k M13))))) ∧
      (¬ x2 = (-9) →
        w_X12_laysNumber 80 4 x2 M1 (fun M14 =>
          b_X12_laysByName_107 v1 k M14))))
def b_X12_laysField_143 (k : hq_M → Prop) (M : hq_M) : Prop :=
  w_X12_laysToLetter M (fun M1 =>
    rg ((M1 0 39) + 1) ∧
    ∀ M4 : hq_M, M4 = hq_up M1 0 39 ((M1 0 39) + 1) →
    k M4)
def b_X12_laysField_138 (v4 : Int) (t1 : Int) (t2 : Int) (k : hq_M → Prop) (M : hq_M) : Prop :=
  w_X12_laysByName t1 t2 v4 M (fun M1 =>
    b_X12_laysField_143 k M1)
def b_X12_laysField_101 (v1 : Int) (v2 : Int) (v4 : Int) (v6 : Int) (k : hq_M → Prop) (M : hq_M) : Prop :=
  (v6 = (-9) →
    (v2 = 0 →
      b_X12_laysField_138 v4 v1 (M 0 23) k M) ∧
    (¬ v2 = 0 →
      ((0 : Int) ≤ 0 ∧ (0 : Int) < 2) ∧
      b_X12_laysField_138 v4 v1 (M 6 0) k M)) ∧
  (¬ v6 = (-9) →
    w_X12_laysLike v6 v4 M (fun M4 =>
      b_X12_laysField_143 k M4))
def b_X12_laysField_99 (v1 : Int) (v2 : Int) (v4 : Int) (t0 : Int) (k : hq_M → Prop) (M : hq_M) : Prop :=
  b_X12_laysField_101 v1 v2 v4 t0 k M
def b_X12_laysField_59 (v1 : Int) (v2 : Int) (v3 : Int) (v4 : Int) (t1 : Int) (t2 : Int) (k : hq_M → Prop) (M : hq_M) : Prop :=
  w_X12_latest t1 t2 1 M (fun x1 =>
    (¬ x1 = (-9) →
      b_X12_laysField_101 v1 v2 v4 x1 k M) ∧
    (x1 = (-9) →
      (v3 = 0 →
        b_X12_laysField_101 v1 v2 v4 x1 k M) ∧
      (¬ v3 = 0 →
        (v2 = 0 →
          b_X12_laysField_101 v1 v2 v4 x1 k M) ∧
        (¬ v2 = 0 →
          w_X12_insertsField v1 M (fun x3 M2 =>
            (0 ≤ x3 →
              b_X12_laysField_99 v1 v2 v4 x3 k M2) ∧
            (¬ 0 ≤ x3 →
              b_X12_laysField_99 v1 v2 v4 (-9) k M2))))))
def w_X12_laysField (v1 : Int) (v2 : Int) (v3 : Int) (v4 : Int) (M : hq_M) (k : hq_M → Prop) : Prop :=
  w_X12_refersTo (-9) M (fun M1 =>
    w_X12_stillOf v1 1 M1 (fun x2 =>
      (x2 = (-9) →
        (v2 = 0 →
          b_X12_laysField_59 v1 v2 v3 v4 v1 (M1 0 23) k M1) ∧
        (¬ v2 = 0 →
          ((0 : Int) ≤ 0 ∧ (0 : Int) < 2) ∧
          b_X12_laysField_59 v1 v2 v3 v4 v1 (M1 6 0) k M1)) ∧
      (¬ x2 = (-9) →
        ∀ M6 : hq_M, M6 = hq_up M1 0 49 0 →
        w_X12_laysNumber 192 6 x2 M6 (fun M7 =>
          b_X12_laysField_143 k M7))))
def b_X12_makes_72 (v1 : Int) (v2 : Int) (v3 : Int) (v4 : Int) (v5 : Int) (t1 : Int) (t2 : Int) (t3 : Int) (k_44 : Int → Int → hq_M → Prop) (k : Int → hq_M → Prop) (M : hq_M) : Prop :=
  w_X12_laysField t1 t2 t3 v3 M (fun M1 =>
    (0 ≤ v5 ∧ v5 < 6) ∧
    rg ((M1 22 v5.toNat) + 1) ∧
    w_X12_greater v4 ((M1 22 v5.toNat) + 1) M1 (fun x5 =>
      rg (v5 + 1) ∧ ∀ x6 : Int, x6 = (v5 + 1) →
      k_44 x5 x6 M1))
def l_X12_makes_44 (v1 : Int) (v2 : Int) (v3 : Int) (k_98 : Int → hq_M → Prop) (k : Int → hq_M → Prop) : Nat → Int → Int → hq_M → Prop
  | 0, _, _, _ => False
  | n + 1, v4, v5, M =>
    ((M 0 37) ≤ v5 →
      k_98 v4 M) ∧
    (¬ (M 0 37) ≤ v5 →
      (0 ≤ v5 ∧ v5 < 6) ∧
      (¬ v1 = 2 →
        b_X12_makes_72 v1 v2 v3 v4 v5 (M 21 v5.toNat) v2 0 (fun v4q v5q Mq => l_X12_makes_44 v1 v2 v3 k_98 k n v4q v5q Mq) k M) ∧
      (v1 = 2 →
        b_X12_makes_72 v1 v2 v3 v4 v5 (M 21 v5.toNat) v2 1 (fun v4q v5q Mq => l_X12_makes_44 v1 v2 v3 k_98 k n v4q v5q Mq) k M))
def b_X12_makes_160 (v4 : Int) (t1 : Int) (t2 : Int) (t3 : Int) (k : Int → hq_M → Prop) (M : hq_M) : Prop :=
  w_X12_laysNumber t1 t2 t3 M (fun M1 =>
    k v4 M1)
def b_X12_makes_143 (v3 : Int) (v4 : Int) (k : Int → hq_M → Prop) (M : hq_M) : Prop :=
  (¬ v4 = 0 →
    rg (v3 - v4) ∧
    b_X12_makes_160 v4 0 7 (v3 - v4) k M) ∧
  (v4 = 0 →
    b_X12_makes_160 v4 0 7 0 k M)
def b_X12_makes_129 (v3 : Int) (v4 : Int) (t1 : Int) (t2 : Int) (t3 : Int) (k : Int → hq_M → Prop) (M : hq_M) : Prop :=
  w_X12_laysNumber t1 t2 t3 M (fun M1 =>
    (v4 = 0 →
      b_X12_makes_143 v3 v4 k M1) ∧
    (¬ v4 = 0 →
      (v3 < v4 →
        rg (v4 - v3) ∧
        rg ((v4 - v3) - 1) ∧
        w_X12_laysNumber 128 7 ((v4 - v3) - 1) M1 (fun M4 =>
          k v4 M4)) ∧
      (¬ v3 < v4 →
        b_X12_makes_143 v3 v4 k M1)))
def b_X12_makes_30 (v1 : Int) (t0 : Int) (k : Int → hq_M → Prop) (M : hq_M) : Prop :=
  ((0 : Int) ≤ 0 ∧ (0 : Int) < 2) ∧
  ∀ x3 : Int, x3 = M 6 0 →
  ∃ m44, l_X12_makes_44 v1 t0 x3 (fun x5 M4 =>
    ∀ M6 : hq_M, M6 = hq_up M4 0 49 0 →
    (¬ x5 = 0 →
      (0 ≤ (M6 0 2) ∧ (0 : Int) < 4) ∧
      rg (2 * ((M6 0 2) / 4)) ∧
      (0 ≤ x5 ∧ (0 : Int) < (2 * ((M6 0 2) / 4))) ∧
      rg ((x5 % (2 * ((M6 0 2) / 4))) + 1) ∧
      b_X12_makes_129 x3 x5 0 8 ((x5 % (2 * ((M6 0 2) / 4))) + 1) k M6) ∧
    (x5 = 0 →
      b_X12_makes_129 x3 x5 0 8 0 k M6)) k m44 0 0 M
def b_X12_makes_29 (v1 : Int) (k : Int → hq_M → Prop) (M : hq_M) : Prop :=
  b_X12_makes_30 v1 0 k M
def w_X12_makes (v1 : Int) (M : hq_M) (k : Int → hq_M → Prop) : Prop :=
  ∀ M1 : hq_M, M1 = hq_up M 0 39 0 →
  ∀ M2 : hq_M, M2 = hq_up M1 0 41 0 →
  (v1 ≤ 0 →
    b_X12_makes_29 v1 k M2) ∧
  (¬ v1 ≤ 0 →
    w_X12_risks M2 (fun x3 =>
      ((M2 0 3) ≤ x3 →
        b_X12_makes_29 v1 k M2) ∧
      (¬ (M2 0 3) ≤ x3 →
        b_X12_makes_30 v1 1 k M2)))
def b_X12_sends_129 (v2 : Int) (t1 : Int) (t2 : Int) (k_75 : Int → hq_M → Prop) (k : Int → hq_M → Prop) (M : hq_M) : Prop :=
  (0 ≤ t1 ∧ t1 < 4480) ∧
  ∀ M2 : hq_M, M2 = hq_up M 20 (t1.toNat) t2 →
  rg (v2 + 1) ∧ ∀ x3 : Int, x3 = (v2 + 1) →
  k_75 x3 M2
def l_X12_sends_75 (k_136 : hq_M → Prop) (k : Int → hq_M → Prop) : Nat → Int → hq_M → Prop
  | 0, _, _ => False
  | n + 1, v2, M =>
    (0 ≤ (M 0 25) ∧ (M 0 25) < 40) ∧
    ((M 13 (M 0 25).toNat) ≤ v2 →
      k_136 M) ∧
    (¬ (M 13 (M 0 25).toNat) ≤ v2 →
      rg (112 * (M 0 25)) ∧
      rg ((112 * (M 0 25)) + v2) ∧
      ((M 0 49) ≤ v2 →
        rg (v2 - (M 0 49)) ∧
        (0 ≤ (v2 - (M 0 49)) ∧ (v2 - (M 0 49)) < 112) ∧
        b_X12_sends_129 v2 ((112 * (M 0 25)) + v2) (M 23 (v2 - (M 0 49)).toNat) (fun v2q Mq => l_X12_sends_75 k_136 k n v2q Mq) k M) ∧
      (¬ (M 0 49) ≤ v2 →
        (0 ≤ v2 ∧ v2 < 32) ∧
        b_X12_sends_129 v2 ((112 * (M 0 25)) + v2) (M 28 v2.toNat) (fun v2q Mq => l_X12_sends_75 k_136 k n v2q Mq) k M))
def l_X12_sends_181 (k_235 : hq_M → Prop) (k : Int → hq_M → Prop) : Nat → Int → hq_M → Prop
  | 0, _, _ => False
  | n + 1, v2, M =>
    ((M 0 37) ≤ v2 →
      k_235 M) ∧
    (¬ (M 0 37) ≤ v2 →
      rg (6 * (M 0 25)) ∧
      rg ((6 * (M 0 25)) + v2) ∧
      (0 ≤ v2 ∧ v2 < 6) ∧
      (0 ≤ ((6 * (M 0 25)) + v2) ∧ ((6 * (M 0 25)) + v2) < 240) ∧
      ∀ M8 : hq_M, M8 = hq_up M 18 (((6 * (M 0 25)) + v2).toNat) (M 21 v2.toNat) →
      rg (6 * (M8 0 25)) ∧
      rg ((6 * (M8 0 25)) + v2) ∧
      (0 ≤ v2 ∧ v2 < 6) ∧
      (0 ≤ ((6 * (M8 0 25)) + v2) ∧ ((6 * (M8 0 25)) + v2) < 240) ∧
      ∀ M15 : hq_M, M15 = hq_up M8 19 (((6 * (M8 0 25)) + v2).toNat) (M8 22 v2.toNat) →
      rg (v2 + 1) ∧ ∀ x16 : Int, x16 = (v2 + 1) →
      l_X12_sends_181 k_235 k n x16 M15)
def w_X12_sends (v1 : Int) (M : hq_M) (k : Int → hq_M → Prop) : Prop :=
  w_X12_in v1 0 2 M (fun x1 =>
    (¬ x1 = 0 →
      (¬ (M 0 25) = 40 →
        ((0 : Int) ≤ 0 ∧ (0 : Int) < 2) ∧
        (0 ≤ (M 0 25) ∧ (M 0 25) < 40) ∧
        ∀ M7 : hq_M, M7 = hq_up M 12 ((M 0 25).toNat) (M 6 0) →
        w_X12_makes v1 M7 (fun x10 M9 =>
          (0 ≤ (M7 0 25) ∧ (M7 0 25) < 40) ∧
          ∀ M12 : hq_M, M12 = hq_up M9 11 ((M7 0 25).toNat) x10 →
          rg ((M12 0 49) + (M12 0 41)) ∧
          (0 ≤ (M12 0 25) ∧ (M12 0 25) < 40) ∧
          ∀ M18 : hq_M, M18 = hq_up M12 13 ((M12 0 25).toNat) ((M12 0 49) + (M12 0 41)) →
          ∃ m75, l_X12_sends_75 (fun M19 =>
            (0 ≤ (M19 0 25) ∧ (M19 0 25) < 40) ∧
            ∀ M22 : hq_M, M22 = hq_up M19 14 ((M19 0 25).toNat) 0 →
            (0 ≤ (M22 0 25) ∧ (M22 0 25) < 40) ∧
            ∀ M25 : hq_M, M25 = hq_up M22 15 ((M22 0 25).toNat) 0 →
            (0 ≤ (M25 0 25) ∧ (M25 0 25) < 40) ∧
            ∀ M28 : hq_M, M28 = hq_up M25 16 ((M25 0 25).toNat) 0 →
            (0 ≤ (M28 0 25) ∧ (M28 0 25) < 40) ∧
            ∀ M32 : hq_M, M32 = hq_up M28 17 ((M28 0 25).toNat) (M28 0 37) →
            ∃ m181, l_X12_sends_181 (fun M33 =>
              ∀ M34 : hq_M, M34 = hq_up M33 0 39 0 →
              ∀ M35 : hq_M, M35 = hq_up M34 0 37 0 →
              rg ((M35 0 25) + 1) ∧
              ∀ M38 : hq_M, M38 = hq_up M35 0 25 ((M35 0 25) + 1) →
              rg ((M38 0 25) - 1) ∧
              k ((M38 0 25) - 1) M38) k m181 0 M32) k m75 0 M18)) ∧
      ((M 0 25) = 40 →
        k (-3) M)) ∧
    (x1 = 0 →
      k (-1) M))
def l_X12_cost_51 (k_78 : hq_M → Prop) (k : Int → hq_M → Prop) : Nat → Int → hq_M → Prop
  | 0, _, _ => False
  | n + 1, v7, M =>
    (64 ≤ v7 →
      k_78 M) ∧
    (¬ 64 ≤ v7 →
      (0 ≤ v7 ∧ v7 < 128) ∧
      (0 ≤ v7 ∧ v7 < 64) ∧
      ∀ M4 : hq_M, M4 = hq_up M 29 (v7.toNat) (M 10 v7.toNat) →
      rg (v7 + 1) ∧ ∀ x5 : Int, x5 = (v7 + 1) →
      l_X12_cost_51 k_78 k n x5 M4)
def l_X12_cost_145 (v7 : Int) (k : Int → hq_M → Prop) : Nat → Int → hq_M → Prop
  | 0, _, _ => False
  | n + 1, v8, M =>
    (64 ≤ v8 →
      k v7 M) ∧
    (¬ 64 ≤ v8 →
      (0 ≤ v8 ∧ v8 < 64) ∧
      (0 ≤ v8 ∧ v8 < 128) ∧
      ∀ M4 : hq_M, M4 = hq_up M 10 (v8.toNat) (M 29 v8.toNat) →
      rg (v8 + 1) ∧ ∀ x5 : Int, x5 = (v8 + 1) →
      l_X12_cost_145 v7 k n x5 M4)
def w_X12_cost (v1 : Int) (M : hq_M) (k : Int → hq_M → Prop) : Prop :=
  w_X12_in v1 0 2 M (fun x1 =>
    (¬ x1 = 0 →
      ((0 : Int) ≤ 0 ∧ (0 : Int) < 2) ∧
      ∀ x4 : Int, x4 = M 6 0 →
      ((0 : Int) ≤ 0 ∧ (0 : Int) < 2) ∧
      ∀ x7 : Int, x7 = M 7 0 →
      ((0 : Int) ≤ 0 ∧ (0 : Int) < 2) ∧
      ∀ x10 : Int, x10 = M 9 0 →
      ∀ x12 : Int, x12 = M 0 43 →
      ∀ x14 : Int, x14 = M 0 47 →
      ∃ m51, l_X12_cost_51 (fun M15 =>
        w_X12_makes v1 M15 (fun x17 M16 =>
          rg ((M16 0 49) + (M16 0 41)) ∧
          rg (((M16 0 49) + (M16 0 41)) + (M16 0 43)) ∧
          rg ((((M16 0 49) + (M16 0 41)) + (M16 0 43)) - x12) ∧
          ∀ x24 : Int, x24 = ((((M16 0 49) + (M16 0 41)) + (M16 0 43)) - x12) →
          ∀ M25 : hq_M, M25 = hq_up M16 0 39 0 →
          ((0 : Int) ≤ 0 ∧ (0 : Int) < 2) ∧
          ∀ M27 : hq_M, M27 = hq_up M25 6 0 x4 →
          ((0 : Int) ≤ 0 ∧ (0 : Int) < 2) ∧
          ∀ M29 : hq_M, M29 = hq_up M27 7 0 x7 →
          ((0 : Int) ≤ 0 ∧ (0 : Int) < 2) ∧
          ∀ M31 : hq_M, M31 = hq_up M29 9 0 x10 →
          ∀ M32 : hq_M, M32 = hq_up M31 0 43 x12 →
          ∀ M33 : hq_M, M33 = hq_up M32 0 47 x14 →
          ∃ m145, l_X12_cost_145 x24 k m145 0 M33)) k m51 0 M) ∧
    (x1 = 0 →
      k (-1) M))
def l_X12_loose_7 (k_31 : Int → Prop) (k : Int → Prop) (M : hq_M) : Nat → Int → Prop
  | 0, _ => False
  | n + 1, v1 =>
    ((0 : Int) ≤ 0 ∧ (0 : Int) < 2) ∧
    ((M 6 0) ≤ v1 →
      k_31 v1) ∧
    (¬ (M 6 0) ≤ v1 →
      w_X12_isFree v1 M (fun x3 =>
        (x3 = 0 →
          k_31 v1) ∧
        (¬ x3 = 0 →
          rg (v1 + 1) ∧ ∀ x4 : Int, x4 = (v1 + 1) →
          l_X12_loose_7 k_31 k M n x4)))
def w_X12_loose  (M : hq_M) (k : Int → Prop) : Prop :=
  ((0 : Int) ≤ 0 ∧ (0 : Int) < 2) ∧
  ∀ x3 : Int, x3 = M 7 0 →
  ∃ m7, l_X12_loose_7 (fun x4 =>
    ((0 : Int) ≤ 0 ∧ (0 : Int) < 2) ∧
    rg (x4 - (M 7 0)) ∧
    k (x4 - (M 7 0))) k M m7 x3
def l_X12_answer_44 (k_75 : hq_M → Prop) (k : hq_M → Prop) : Nat → Int → hq_M → Prop
  | 0, _, _ => False
  | n + 1, v3, M =>
    ((M 0 49) ≤ v3 →
      k_75 M) ∧
    (¬ (M 0 49) ≤ v3 →
      rg ((M 0 52) + v3) ∧
      (0 ≤ v3 ∧ v3 < 32) ∧
      (0 ≤ ((M 0 52) + v3) ∧ ((M 0 52) + v3) < 192) ∧
      ∀ M7 : hq_M, M7 = hq_up M 30 (((M 0 52) + v3).toNat) (M 28 v3.toNat) →
      rg (v3 + 1) ∧ ∀ x8 : Int, x8 = (v3 + 1) →
      l_X12_answer_44 k_75 k n x8 M7)
def b_X12_answer_38 (v1 : Int) (v2 : Int) (t1 : Int) (t2 : Int) (k : hq_M → Prop) (M : hq_M) : Prop :=
  w_X12_laysNumber t1 t2 v2 M (fun M1 =>
    ∃ m44, l_X12_answer_44 (fun M2 =>
      rg ((M2 0 52) + (M2 0 49)) ∧
      ∀ M6 : hq_M, M6 = hq_up M2 0 52 ((M2 0 52) + (M2 0 49)) →
      (0 ≤ (M6 0 56) ∧ (M6 0 56) < 192) ∧
      ∀ M9 : hq_M, M9 = hq_up M6 31 ((M6 0 56).toNat) v1 →
      (0 ≤ (M9 0 56) ∧ (M9 0 56) < 192) ∧
      ∀ M12 : hq_M, M12 = hq_up M9 32 ((M9 0 56).toNat) v2 →
      (0 ≤ (M12 0 56) ∧ (M12 0 56) < 192) ∧
      ∀ M16 : hq_M, M16 = hq_up M12 33 ((M12 0 56).toNat) (M12 0 49) →
      rg ((M16 0 56) + 1) ∧
      ∀ M19 : hq_M, M19 = hq_up M16 0 56 ((M16 0 56) + 1) →
      k M19) k m44 0 M1)
def b_X12_answer_27 (v1 : Int) (v2 : Int) (t1 : Int) (k : hq_M → Prop) (M : hq_M) : Prop :=
  (¬ v1 = 0 →
    b_X12_answer_38 v1 v2 t1 6 k M) ∧
  (v1 = 0 →
    b_X12_answer_38 v1 v2 t1 7 k M)
def w_X12_answer (v1 : Int) (v2 : Int) (M : hq_M) (k : hq_M → Prop) : Prop :=
  ∀ M1 : hq_M, M1 = hq_up M 0 49 0 →
  (¬ v1 = 0 →
    (¬ v1 = 1 →
      b_X12_answer_27 v1 v2 0 k M1) ∧
    (v1 = 1 →
      b_X12_answer_27 v1 v2 64 k M1)) ∧
  (v1 = 0 →
    b_X12_answer_27 v1 v2 128 k M1)
def w_X12_becomesRead (v1 : Int) (M : hq_M) (k : hq_M → Prop) : Prop :=
  (0 ≤ v1 ∧ v1 < 40) ∧
  ∀ M2 : hq_M, M2 = hq_up M 15 (v1.toNat) 2 →
  (0 ≤ v1 ∧ v1 < 40) ∧
  ((M2 11 v1.toNat) ≤ 0 →
    k M2) ∧
  (¬ (M2 11 v1.toNat) ≤ 0 →
    w_X12_answer 0 v1 M2 (fun M5 =>
      (0 ≤ v1 ∧ v1 < 40) ∧
      w_X12_greater (M5 0 24) (M5 11 v1.toNat) M5 (fun x9 =>
        ∀ M10 : hq_M, M10 = hq_up M5 0 24 x9 →
        k M10)))
def b_X12_waiting_58 (v2 : Int) (v3 : Int) (v4 : Int) (k_17 : Int → Int → Prop) (k : Int → Prop) (M : hq_M) : Prop :=
  rg (v4 + 1) ∧ ∀ x1 : Int, x1 = (v4 + 1) →
  k_17 v2 x1
def l_X12_waiting_17 (v3 : Int) (k_64 : Int → Prop) (k : Int → Prop) (M : hq_M) : Nat → Int → Int → Prop
  | 0, _, _ => False
  | n + 1, v2, v4 =>
    ((M 0 25) ≤ v4 →
      k_64 v2) ∧
    (¬ (M 0 25) ≤ v4 →
      (0 ≤ v4 ∧ v4 < 40) ∧
      (¬ (M 15 v4.toNat) = 1 →
        b_X12_waiting_58 v2 v3 v4 (fun v2q v4q => l_X12_waiting_17 v3 k_64 k M n v2q v4q) k M) ∧
      ((M 15 v4.toNat) = 1 →
        (0 ≤ v4 ∧ v4 < 40) ∧
        (¬ (M 11 v4.toNat) = v3 →
          b_X12_waiting_58 v2 v3 v4 (fun v2q v4q => l_X12_waiting_17 v3 k_64 k M n v2q v4q) k M) ∧
        ((M 11 v4.toNat) = v3 →
          (¬ v2 = 0 →
            rg (v2 + (-1)) ∧ ∀ x6 : Int, x6 = (v2 + (-1)) →
            b_X12_waiting_58 x6 v3 v4 (fun v2q v4q => l_X12_waiting_17 v3 k_64 k M n v2q v4q) k M) ∧
          (v2 = 0 →
            k v4))))
def l_X12_waiting_4 (k : Int → Prop) (M : hq_M) : Nat → Int → Int → Prop
  | 0, _, _ => False
  | n + 1, v2, v3 =>
    ((0 : Int) ≤ 0 ∧ (0 : Int) < 2) ∧
    ((M 6 0) < v3 →
      k (-9)) ∧
    (¬ (M 6 0) < v3 →
      ∃ m17, l_X12_waiting_17 v3 (fun x3 =>
        rg (v3 + 1) ∧ ∀ x4 : Int, x4 = (v3 + 1) →
        l_X12_waiting_4 k M n x3 x4) k M m17 v2 0)
def w_X12_waiting (v1 : Int) (M : hq_M) (k : Int → Prop) : Prop :=
  ∃ m4, l_X12_waiting_4 k M m4 v1 0
def l_X12_readsAll_6 (k : hq_M → Prop) : Nat → Int → hq_M → Prop
  | 0, _, _ => False
  | n + 1, v1, M =>
    (v1 = (-9) →
      k M) ∧
    (¬ v1 = (-9) →
      (0 ≤ v1 ∧ v1 < 40) ∧
      ((0 : Int) ≤ 1 ∧ (1 : Int) < 2) ∧
      ((M 6 1) < (M 11 v1.toNat) →
        k M) ∧
      (¬ (M 6 1) < (M 11 v1.toNat) →
        w_X12_becomesRead v1 M (fun M5 =>
          w_X12_waiting 0 M5 (fun x6 =>
            l_X12_readsAll_6 k n x6 M5))))
def w_X12_readsAll  (M : hq_M) (k : hq_M → Prop) : Prop :=
  w_X12_waiting 0 M (fun x1 =>
    ∃ m6, l_X12_readsAll_6 k m6 x1 M)
def l_X12_does_58 (k : hq_M → Prop) : Nat → Int → hq_M → Prop
  | 0, _, _ => False
  | n + 1, v1, M =>
    ((M 0 47) ≤ v1 →
      k M) ∧
    (¬ (M 0 47) ≤ v1 →
      rg (v1 + 1) ∧
      (0 ≤ (v1 + 1) ∧ (v1 + 1) < 224) ∧
      (0 ≤ v1 ∧ v1 < 224) ∧
      ∀ M6 : hq_M, M6 = hq_up M 25 (v1.toNat) (M 25 (v1 + 1).toNat) →
      rg (v1 + 1) ∧
      (0 ≤ (v1 + 1) ∧ (v1 + 1) < 224) ∧
      (0 ≤ v1 ∧ v1 < 224) ∧
      ∀ M11 : hq_M, M11 = hq_up M6 27 (v1.toNat) (M6 27 (v1 + 1).toNat) →
      rg (v1 + 1) ∧
      (0 ≤ (v1 + 1) ∧ (v1 + 1) < 224) ∧
      (0 ≤ v1 ∧ v1 < 224) ∧
      ∀ M16 : hq_M, M16 = hq_up M11 26 (v1.toNat) (M11 26 (v1 + 1).toNat) →
      rg (v1 + 1) ∧ ∀ x17 : Int, x17 = (v1 + 1) →
      l_X12_does_58 k n x17 M16)
def b_X12_does_46 (k : hq_M → Prop) (M : hq_M) : Prop :=
  rg ((M 0 47) - 1) ∧
  ∀ M3 : hq_M, M3 = hq_up M 0 47 ((M 0 47) - 1) →
  ∃ m58, l_X12_does_58 k m58 0 M3
def w_X12_does  (M : hq_M) (k : hq_M → Prop) : Prop :=
  ((0 : Int) ≤ 0 ∧ (0 : Int) < 224) ∧
  (¬ (M 25 0) = 0 →
    ((0 : Int) ≤ 0 ∧ (0 : Int) < 224) ∧
    w_X12_comes 1 (M 27 0) M (fun M5 =>
      w_X12_readsAll M5 (fun M6 =>
        b_X12_does_46 k M6))) ∧
  ((M 25 0) = 0 →
    ((0 : Int) ≤ 0 ∧ (0 : Int) < 224) ∧
    ((0 : Int) ≤ 1 ∧ (1 : Int) < 2) ∧
    ∀ M10 : hq_M, M10 = hq_up M 8 1 (M 27 0) →
    w_X12_makesRoom 1 0 M10 (fun x12 M11 =>
      b_X12_does_46 k M11))
def b_X12_feeds_60 (v2 : Int) (v3 : Int) (v4 : Int) (k_28 : Int → Int → hq_M → Prop) (k : Int → hq_M → Prop) (M : hq_M) : Prop :=
  rg (v4 + 1) ∧ ∀ x1 : Int, x1 = (v4 + 1) →
  k_28 v2 x1 M
def l_X12_feeds_28 (v3 : Int) (k_66 : Int → hq_M → Prop) (k : Int → hq_M → Prop) : Nat → Int → Int → hq_M → Prop
  | 0, _, _, _ => False
  | n + 1, v2, v4, M =>
    (v3 ≤ v4 →
      k_66 v2 M) ∧
    (¬ v3 ≤ v4 →
      ((0 : Int) ≤ 0 ∧ (0 : Int) < 224) ∧
      rg ((M 26 0) - 1) ∧
      ((0 : Int) ≤ 0 ∧ (0 : Int) < 224) ∧
      ∀ M5 : hq_M, M5 = hq_up M 26 0 ((M 26 0) - 1) →
      ((0 : Int) ≤ 0 ∧ (0 : Int) < 224) ∧
      (¬ (M5 26 0) = 0 →
        b_X12_feeds_60 v2 v3 v4 (fun v2q v4q Mq => l_X12_feeds_28 v3 k_66 k n v2q v4q Mq) k M5) ∧
      ((M5 26 0) = 0 →
        w_X12_does M5 (fun M8 =>
          rg (v2 + 1) ∧ ∀ x9 : Int, x9 = (v2 + 1) →
          b_X12_feeds_60 x9 v3 v4 (fun v2q v4q Mq => l_X12_feeds_28 v3 k_66 k n v2q v4q Mq) k M8)))
def l_X12_feeds_79 (v2 : Int) (v3 : Int) (k : Int → hq_M → Prop) : Nat → Int → hq_M → Prop
  | 0, _, _ => False
  | n + 1, v4, M =>
    ((M 0 43) ≤ v4 →
      k v2 M) ∧
    (¬ (M 0 43) ≤ v4 →
      rg (v4 + v3) ∧
      (0 ≤ (v4 + v3) ∧ (v4 + v3) < 224) ∧
      (0 ≤ v4 ∧ v4 < 224) ∧
      ∀ M6 : hq_M, M6 = hq_up M 24 (v4.toNat) (M 24 (v4 + v3).toNat) →
      rg (v4 + 1) ∧ ∀ x7 : Int, x7 = (v4 + 1) →
      l_X12_feeds_79 v2 v3 k n x7 M6)
def w_X12_feeds (v1 : Int) (M : hq_M) (k : Int → hq_M → Prop) : Prop :=
  w_X12_in v1 1 99 M (fun x1 =>
    (¬ x1 = 0 →
      w_X12_lesser v1 (M 0 43) M (fun x3 =>
        ∃ m28, l_X12_feeds_28 x3 (fun x5 M4 =>
          rg ((M4 0 43) - x3) ∧
          ∀ M8 : hq_M, M8 = hq_up M4 0 43 ((M4 0 43) - x3) →
          ∃ m79, l_X12_feeds_79 x5 x3 k m79 0 M8) k m28 0 0 M)) ∧
    (x1 = 0 →
      k (-1) M))
def w_X12_isLetter (v1 : Int) (M : hq_M) (k : Int → Prop) : Prop :=
  rg ((M 0 25) - 1) ∧
  w_X12_in v1 0 ((M 0 25) - 1) M (fun x3 =>
    k x3)
def w_X12_gives (v1 : Int) (v2 : Int) (M : hq_M) (k : Int → hq_M → Prop) : Prop :=
  w_X12_isLetter v1 M (fun x1 =>
    (x1 = 0 →
      k (-1) M) ∧
    (¬ x1 = 0 →
      w_X12_in v2 1 99 M (fun x2 =>
        (¬ x2 = 0 →
          (0 ≤ v1 ∧ v1 < 40) ∧
          ((M 15 v1.toNat) = 0 →
            (0 ≤ v1 ∧ v1 < 40) ∧
            (0 ≤ v1 ∧ v1 < 40) ∧
            rg ((M 14 v1.toNat) + v2) ∧
            w_X12_lesser (M 13 v1.toNat) ((M 14 v1.toNat) + v2) M (fun x10 =>
              (0 ≤ v1 ∧ v1 < 40) ∧
              ∀ M12 : hq_M, M12 = hq_up M 14 (v1.toNat) x10 →
              (0 ≤ v1 ∧ v1 < 40) ∧
              (0 ≤ v1 ∧ v1 < 40) ∧
              ((M12 13 v1.toNat) ≤ (M12 14 v1.toNat) →
                (0 ≤ v1 ∧ v1 < 40) ∧
                ((0 : Int) ≤ 1 ∧ (1 : Int) < 2) ∧
                ((M12 11 v1.toNat) ≤ (M12 6 1) →
                  w_X12_becomesRead v1 M12 (fun M21 =>
                    k 2 M21)) ∧
                (¬ (M12 11 v1.toNat) ≤ (M12 6 1) →
                  (0 ≤ v1 ∧ v1 < 40) ∧
                  ∀ M23 : hq_M, M23 = hq_up M12 15 (v1.toNat) 1 →
                  k 1 M23)) ∧
              (¬ (M12 13 v1.toNat) ≤ (M12 14 v1.toNat) →
                k 0 M12))) ∧
          (¬ (M 15 v1.toNat) = 0 →
            k (-2) M)) ∧
        (x2 = 0 →
          k (-1) M))))
def w_X12_quits (v1 : Int) (M : hq_M) (k : Int → hq_M → Prop) : Prop :=
  w_X12_isLetter v1 M (fun x1 =>
    (¬ x1 = 0 →
      (0 ≤ v1 ∧ v1 < 40) ∧
      ((M 15 v1.toNat) ≤ 1 →
        (0 ≤ v1 ∧ v1 < 40) ∧
        ∀ M5 : hq_M, M5 = hq_up M 15 (v1.toNat) 3 →
        w_X12_answer 1 v1 M5 (fun M6 =>
          (0 ≤ v1 ∧ v1 < 40) ∧
          k (M6 14 v1.toNat) M6)) ∧
      (¬ (M 15 v1.toNat) ≤ 1 →
        k (-2) M)) ∧
    (x1 = 0 →
      k (-1) M))
def w_X12_grows  (M : hq_M) (k : Int → hq_M → Prop) : Prop :=
  ((0 : Int) ≤ 1 ∧ (1 : Int) < 2) ∧
  rg ((M 6 1) - (M 0 24)) ∧
  ∀ x5 : Int, x5 = ((M 6 1) - (M 0 24)) →
  (¬ x5 = 0 →
    ((M 0 52) < 100 →
      w_X12_answer 2 x5 M (fun M7 =>
        ((0 : Int) ≤ 1 ∧ (1 : Int) < 2) ∧
        ∀ M10 : hq_M, M10 = hq_up M7 0 24 (M7 6 1) →
        k x5 M10)) ∧
    (¬ (M 0 52) < 100 →
      k (-3) M)) ∧
  (x5 = 0 →
    k (-2) M)
def l_X12_hearsFirst_82 (k : hq_M → Prop) : Nat → Int → hq_M → Prop
  | 0, _, _ => False
  | n + 1, v2, M =>
    ((M 0 56) ≤ v2 →
      k M) ∧
    (¬ (M 0 56) ≤ v2 →
      rg (v2 + 1) ∧
      (0 ≤ (v2 + 1) ∧ (v2 + 1) < 192) ∧
      (0 ≤ v2 ∧ v2 < 192) ∧
      ∀ M6 : hq_M, M6 = hq_up M 31 (v2.toNat) (M 31 (v2 + 1).toNat) →
      rg (v2 + 1) ∧
      (0 ≤ (v2 + 1) ∧ (v2 + 1) < 192) ∧
      (0 ≤ v2 ∧ v2 < 192) ∧
      ∀ M11 : hq_M, M11 = hq_up M6 32 (v2.toNat) (M6 32 (v2 + 1).toNat) →
      rg (v2 + 1) ∧
      (0 ≤ (v2 + 1) ∧ (v2 + 1) < 192) ∧
      (0 ≤ v2 ∧ v2 < 192) ∧
      ∀ M16 : hq_M, M16 = hq_up M11 33 (v2.toNat) (M11 33 (v2 + 1).toNat) →
      rg (v2 + 1) ∧ ∀ x17 : Int, x17 = (v2 + 1) →
      l_X12_hearsFirst_82 k n x17 M16)
def b_X12_hearsFirst_70 (k : hq_M → Prop) (M : hq_M) : Prop :=
  rg ((M 0 56) - 1) ∧
  ∀ M3 : hq_M, M3 = hq_up M 0 56 ((M 0 56) - 1) →
  ∃ m82, l_X12_hearsFirst_82 k m82 0 M3
def b_X12_hearsFirst_67 (t1 : Int) (k : hq_M → Prop) (M : hq_M) : Prop :=
  ∀ M1 : hq_M, M1 = hq_up M 0 23 t1 →
  b_X12_hearsFirst_70 k M1
def w_X12_hearsFirst  (M : hq_M) (k : hq_M → Prop) : Prop :=
  ((0 : Int) ≤ 0 ∧ (0 : Int) < 192) ∧
  ∀ x3 : Int, x3 = M 32 0 →
  ((0 : Int) ≤ 0 ∧ (0 : Int) < 192) ∧
  (¬ (M 31 0) = 2 →
    (0 ≤ x3 ∧ x3 < 40) ∧
    ∀ M7 : hq_M, M7 = hq_up M 16 (x3.toNat) 1 →
    ((0 : Int) ≤ 0 ∧ (0 : Int) < 192) ∧
    (¬ (M7 31 0) = 0 →
      b_X12_hearsFirst_67 (M7 0 23) k M7) ∧
    ((M7 31 0) = 0 →
      (0 ≤ x3 ∧ x3 < 40) ∧
      w_X12_greater (M7 0 23) (M7 11 x3.toNat) M7 (fun x14 =>
        b_X12_hearsFirst_67 x14 k M7))) ∧
  ((M 31 0) = 2 →
    rg ((M 0 23) + x3) ∧
    ∀ M17 : hq_M, M17 = hq_up M 0 23 ((M 0 23) + x3) →
    b_X12_hearsFirst_70 k M17)
def b_X12_hears_60 (v2 : Int) (v3 : Int) (v4 : Int) (k_28 : Int → Int → hq_M → Prop) (k : Int → hq_M → Prop) (M : hq_M) : Prop :=
  rg (v4 + 1) ∧ ∀ x1 : Int, x1 = (v4 + 1) →
  k_28 v2 x1 M
def l_X12_hears_28 (v3 : Int) (k_66 : Int → hq_M → Prop) (k : Int → hq_M → Prop) : Nat → Int → Int → hq_M → Prop
  | 0, _, _, _ => False
  | n + 1, v2, v4, M =>
    (v3 ≤ v4 →
      k_66 v2 M) ∧
    (¬ v3 ≤ v4 →
      ((0 : Int) ≤ 0 ∧ (0 : Int) < 192) ∧
      rg ((M 33 0) - 1) ∧
      ((0 : Int) ≤ 0 ∧ (0 : Int) < 192) ∧
      ∀ M5 : hq_M, M5 = hq_up M 33 0 ((M 33 0) - 1) →
      ((0 : Int) ≤ 0 ∧ (0 : Int) < 192) ∧
      (¬ (M5 33 0) = 0 →
        b_X12_hears_60 v2 v3 v4 (fun v2q v4q Mq => l_X12_hears_28 v3 k_66 k n v2q v4q Mq) k M5) ∧
      ((M5 33 0) = 0 →
        w_X12_hearsFirst M5 (fun M8 =>
          rg (v2 + 1) ∧ ∀ x9 : Int, x9 = (v2 + 1) →
          b_X12_hears_60 x9 v3 v4 (fun v2q v4q Mq => l_X12_hears_28 v3 k_66 k n v2q v4q Mq) k M8)))
def l_X12_hears_79 (v2 : Int) (v3 : Int) (k : Int → hq_M → Prop) : Nat → Int → hq_M → Prop
  | 0, _, _ => False
  | n + 1, v4, M =>
    ((M 0 52) ≤ v4 →
      k v2 M) ∧
    (¬ (M 0 52) ≤ v4 →
      rg (v4 + v3) ∧
      (0 ≤ (v4 + v3) ∧ (v4 + v3) < 192) ∧
      (0 ≤ v4 ∧ v4 < 192) ∧
      ∀ M6 : hq_M, M6 = hq_up M 30 (v4.toNat) (M 30 (v4 + v3).toNat) →
      rg (v4 + 1) ∧ ∀ x7 : Int, x7 = (v4 + 1) →
      l_X12_hears_79 v2 v3 k n x7 M6)
def w_X12_hears (v1 : Int) (M : hq_M) (k : Int → hq_M → Prop) : Prop :=
  w_X12_in v1 1 99 M (fun x1 =>
    (¬ x1 = 0 →
      w_X12_lesser v1 (M 0 52) M (fun x3 =>
        ∃ m28, l_X12_hears_28 x3 (fun x5 M4 =>
          rg ((M4 0 52) - x3) ∧
          ∀ M8 : hq_M, M8 = hq_up M4 0 52 ((M4 0 52) - x3) →
          ∃ m79, l_X12_hears_79 x5 x3 k m79 0 M8) k m28 0 0 M)) ∧
    (x1 = 0 →
      k (-1) M))
def w_X12_table (v1 : Int) (v2 : Int) (M : hq_M) (k : Int → Prop) : Prop :=
  w_X12_in v1 0 1 M (fun x1 =>
    (¬ x1 = 0 →
      (v2 = 0 →
        (0 ≤ v1 ∧ v1 < 2) ∧
        k (M 6 v1.toNat)) ∧
      (v2 = 1 →
        (0 ≤ v1 ∧ v1 < 2) ∧
        (0 ≤ v1 ∧ v1 < 2) ∧
        rg ((M 6 v1.toNat) - (M 7 v1.toNat)) ∧
        k ((M 6 v1.toNat) - (M 7 v1.toNat))) ∧
      (v2 = 2 →
        (0 ≤ v1 ∧ v1 < 2) ∧
        k (M 9 v1.toNat)) ∧
      (v2 = 3 →
        (0 ≤ v1 ∧ v1 < 2) ∧
        k (M 8 v1.toNat)) ∧
      (v2 = 4 →
        (0 ≤ v1 ∧ v1 < 2) ∧
        (0 ≤ v1 ∧ v1 < 2) ∧
        ((M 6 v1.toNat) ≤ (M 7 v1.toNat) →
          k (-9)) ∧
        (¬ (M 6 v1.toNat) ≤ (M 7 v1.toNat) →
          (0 ≤ v1 ∧ v1 < 2) ∧
          k (M 7 v1.toNat))) ∧
      (v2 < 0 ∨ 4 < v2 →
        k (-1))) ∧
    (x1 = 0 →
      k (-1)))
def w_X12_entry (v1 : Int) (v2 : Int) (v3 : Int) (M : hq_M) (k : Int → Prop) : Prop :=
  w_X12_in v1 0 1 M (fun x1 =>
    (x1 = 0 →
      k (-1)) ∧
    (¬ x1 = 0 →
      (v2 < 0 →
        k (-1)) ∧
      (¬ v2 < 0 →
        w_X12_in v3 0 1 M (fun x2 =>
          (¬ x2 = 0 →
            w_X12_isThere v1 v2 M (fun x3 =>
              (¬ x3 = 0 →
                (¬ v3 = 0 →
                  w_X12_fieldAt v1 v2 M (fun x4 =>
                    k x4)) ∧
                (v3 = 0 →
                  w_X12_fieldAt v1 v2 M (fun x5 =>
                    w_X12_sizeOf x5 M (fun x6 =>
                      k x6)))) ∧
              (x3 = 0 →
                k (-9)))) ∧
          (x2 = 0 →
            k (-1))))))
def b_X12_holds_46 (v1 : Int) (v4 : Int) (t0 : Int) (t1 : Int) (k_18 : Int → Int → Prop) (k : Int → Prop) (M : hq_M) : Prop :=
  ∀ x1 : Int, x1 = (hq_or t0 t1) →
  rg (v4 + 1) ∧ ∀ x2 : Int, x2 = (v4 + 1) →
  k_18 x1 x2
def l_X12_holds_18 (v1 : Int) (k : Int → Prop) (M : hq_M) : Nat → Int → Int → Prop
  | 0, _, _ => False
  | n + 1, v2, v4 =>
    ((M 0 25) ≤ v4 →
      k v2) ∧
    (¬ (M 0 25) ≤ v4 →
      w_X12_isHeldBy v4 v1 M (fun x2 =>
        (x2 = 0 →
          b_X12_holds_46 v1 v4 v2 0 (fun v2q v4q => l_X12_holds_18 v1 k M n v2q v4q) k M) ∧
        (¬ x2 = 0 →
          b_X12_holds_46 v1 v4 v2 (hq_lsh 1 v4) (fun v2q v4q => l_X12_holds_18 v1 k M n v2q v4q) k M)))
def w_X12_holds (v1 : Int) (M : hq_M) (k : Int → Prop) : Prop :=
  w_X12_isThere 0 v1 M (fun x1 =>
    (¬ x1 = 0 →
      ∃ m18, l_X12_holds_18 v1 k M m18 0 0) ∧
    (x1 = 0 →
      k (-1)))
def w_X12_letter (v1 : Int) (v2 : Int) (M : hq_M) (k : Int → Prop) : Prop :=
  w_X12_isLetter v1 M (fun x1 =>
    (¬ x1 = 0 →
      (v2 = 0 →
        (0 ≤ v1 ∧ v1 < 40) ∧
        k (M 13 v1.toNat)) ∧
      (v2 = 1 →
        (0 ≤ v1 ∧ v1 < 40) ∧
        k (M 11 v1.toNat)) ∧
      (v2 = 2 →
        (0 ≤ v1 ∧ v1 < 40) ∧
        k (M 12 v1.toNat)) ∧
      (v2 = 3 →
        (0 ≤ v1 ∧ v1 < 40) ∧
        k (M 14 v1.toNat)) ∧
      (v2 = 4 →
        (0 ≤ v1 ∧ v1 < 40) ∧
        k (M 15 v1.toNat)) ∧
      (v2 = 5 →
        (0 ≤ v1 ∧ v1 < 40) ∧
        ((M 16 v1.toNat) = 0 →
          k 0) ∧
        (¬ (M 16 v1.toNat) = 0 →
          k 1)) ∧
      (v2 = 6 →
        (0 ≤ v1 ∧ v1 < 40) ∧
        k (M 17 v1.toNat)) ∧
      (v2 < 0 ∨ 6 < v2 →
        k (-1))) ∧
    (x1 = 0 →
      k (-1)))
def w_X12_got (v1 : Int) (v2 : Int) (M : hq_M) (k : Int → Prop) : Prop :=
  w_X12_isLetter v1 M (fun x1 =>
    (x1 = 0 →
      k (-1)) ∧
    (¬ x1 = 0 →
      (0 ≤ v1 ∧ v1 < 40) ∧
      rg ((M 17 v1.toNat) - 1) ∧
      w_X12_in v2 0 ((M 17 v1.toNat) - 1) M (fun x5 =>
        (¬ x5 = 0 →
          (0 ≤ v1 ∧ v1 < 40) ∧
          (¬ (M 15 v1.toNat) = 2 →
            k (-2)) ∧
          ((M 15 v1.toNat) = 2 →
            rg (6 * v1) ∧
            rg ((6 * v1) + v2) ∧
            (0 ≤ ((6 * v1) + v2) ∧ ((6 * v1) + v2) < 240) ∧
            k (M 18 ((6 * v1) + v2).toNat))) ∧
        (x5 = 0 →
          k (-1)))))
def w_X12_waits (v1 : Int) (M : hq_M) (k : Int → Prop) : Prop :=
  (0 ≤ v1 →
    w_X12_waiting v1 M (fun x1 =>
      k x1)) ∧
  (¬ 0 ≤ v1 →
    k (-1))
def b_X12_octet_25 (v1 : Int) (v2 : Int) (t0 : Int) (k : Int → Prop) (M : hq_M) : Prop :=
  (t0 = 0 →
    k (-1)) ∧
  (¬ t0 = 0 →
    (0 ≤ v2 →
      (¬ v1 = 40 →
        (¬ v1 = 41 →
          (0 ≤ v1 ∧ v1 < 40) ∧
          ((M 13 v1.toNat) ≤ v2 →
            k (-9)) ∧
          (¬ (M 13 v1.toNat) ≤ v2 →
            rg (112 * v1) ∧
            rg ((112 * v1) + v2) ∧
            (0 ≤ ((112 * v1) + v2) ∧ ((112 * v1) + v2) < 4480) ∧
            k (M 20 ((112 * v1) + v2).toNat))) ∧
        (v1 = 41 →
          ((M 0 52) ≤ v2 →
            k (-9)) ∧
          (¬ (M 0 52) ≤ v2 →
            (0 ≤ v2 ∧ v2 < 192) ∧
            k (M 30 v2.toNat)))) ∧
      (v1 = 40 →
        ((M 0 43) ≤ v2 →
          k (-9)) ∧
        (¬ (M 0 43) ≤ v2 →
          (0 ≤ v2 ∧ v2 < 224) ∧
          k (M 24 v2.toNat)))) ∧
    (¬ 0 ≤ v2 →
      k (-1)))
def b_X12_octet_20 (v1 : Int) (v2 : Int) (k : Int → Prop) (M : hq_M) : Prop :=
  b_X12_octet_25 v1 v2 1 k M
def w_X12_octet (v1 : Int) (v2 : Int) (M : hq_M) (k : Int → Prop) : Prop :=
  w_X12_isLetter v1 M (fun x1 =>
    (¬ x1 = 0 →
      b_X12_octet_20 v1 v2 k M) ∧
    (x1 = 0 →
      (v1 = 40 →
        b_X12_octet_20 v1 v2 k M) ∧
      (¬ v1 = 40 →
        (¬ v1 = 41 →
          b_X12_octet_25 v1 v2 0 k M) ∧
        (v1 = 41 →
          b_X12_octet_20 v1 v2 k M))))
def l_X12_coded_37 (k : Int → hq_M → Prop) : Nat → Int → Int → hq_M → Prop
  | 0, _, _, _ => False
  | n + 1, v3, v5, M =>
    ((M 0 49) ≤ v5 →
      k v3 M) ∧
    (¬ (M 0 49) ≤ v5 →
      rl (256 * v3) ∧
      (0 ≤ v5 ∧ v5 < 32) ∧
      rl ((256 * v3) + (M 28 v5.toNat)) ∧
      ∀ x6 : Int, x6 = ((256 * v3) + (M 28 v5.toNat)) →
      rg (v5 + 1) ∧ ∀ x7 : Int, x7 = (v5 + 1) →
      l_X12_coded_37 k n x6 x7 M)
def w_X12_coded (v1 : Int) (v2 : Int) (M : hq_M) (k : Int → hq_M → Prop) : Prop :=
  w_X12_in v1 1 8 M (fun x1 =>
    (x1 = 0 →
      k (-1) M) ∧
    (¬ x1 = 0 →
      (0 ≤ v2 →
        ∀ M2 : hq_M, M2 = hq_up M 0 49 0 →
        w_X12_laysNumber 0 v1 v2 M2 (fun M3 =>
          ∃ m37, l_X12_coded_37 k m37 0 0 M3)) ∧
      (¬ 0 ≤ v2 →
        k (-1) M)))
def b_X12_number_152 (v4 : Int) (v8 : Int) (t0 : Int) (k_71 : Int → Int → Int → Prop) (k : Int → Prop) (M : hq_M) : Prop :=
  rg (v8 + 1) ∧ ∀ x1 : Int, x1 = (v8 + 1) →
  k_71 v4 t0 x1
def b_X12_number_129 (v6 : Int) (v8 : Int) (t0 : Int) (k_71 : Int → Int → Int → Prop) (k : Int → Prop) (M : hq_M) : Prop :=
  (v6 ≤ 2147483647 →
    rl (128 * v6) ∧
    b_X12_number_152 t0 v8 (128 * v6) k_71 k M) ∧
  (¬ v6 ≤ 2147483647 →
    b_X12_number_152 t0 v8 4294967296 k_71 k M)
def l_X12_number_71 (k_160 : Int → Int → Int → Prop) (k : Int → Prop) (M : hq_M) : Nat → Int → Int → Int → Prop
  | 0, _, _, _ => False
  | n + 1, v4, v6, v8 =>
    ((M 0 9) ≤ v8 →
      k_160 v4 v6 v8) ∧
    (¬ (M 0 9) ≤ v8 →
      (0 ≤ v8 ∧ v8 < 200) ∧
      ((M 5 v8.toNat) ≤ 127 →
        k_160 v4 v6 v8) ∧
      (¬ (M 5 v8.toNat) ≤ 127 →
        (0 ≤ v8 ∧ v8 < 200) ∧
        rg ((M 5 v8.toNat) - 128) ∧
        rl (((M 5 v8.toNat) - 128) * v6) ∧
        rl (v4 + (((M 5 v8.toNat) - 128) * v6)) ∧
        ∀ x9 : Int, x9 = (v4 + (((M 5 v8.toNat) - 128) * v6)) →
        (x9 ≤ 2147483647 →
          b_X12_number_129 v6 v8 x9 (fun v4q v6q v8q => l_X12_number_71 k_160 k M n v4q v6q v8q) k M) ∧
        (¬ x9 ≤ 2147483647 →
          b_X12_number_129 v6 v8 4294967296 (fun v4q v6q v8q => l_X12_number_71 k_160 k M n v4q v6q v8q) k M)))
def w_X12_number (v1 : Int) (M : hq_M) (k : Int → Prop) : Prop :=
  w_X12_in v1 1 8 M (fun x1 =>
    (¬ x1 = 0 →
      (¬ (M 0 9) = 0 →
        (0 ≤ v1 ∧ v1 ≤ 30) ∧ rg (1 * ((2 ^ v1.toNat : Nat) : Int)) ∧
        rg ((1 * ((2 ^ v1.toNat : Nat) : Int)) - 1) ∧
        ∀ x6 : Int, x6 = ((1 * ((2 ^ v1.toNat : Nat) : Int)) - 1) →
        ((0 : Int) ≤ 0 ∧ (0 : Int) < 200) ∧
        rg (x6 + 1) ∧
        (0 ≤ (M 5 0) ∧ (0 : Int) < (x6 + 1)) ∧
        ∀ x11 : Int, x11 = ((M 5 0) % (x6 + 1)) →
        (x6 ≤ x11 →
          ∃ m71, l_X12_number_71 (fun x12 x13 x14 =>
            rg ((M 0 9) - 1) ∧
            (x14 = ((M 0 9) - 1) →
              (0 ≤ x14 ∧ x14 < 200) ∧
              rl ((M 5 x14.toNat) * x13) ∧
              rl (x12 + ((M 5 x14.toNat) * x13)) ∧
              ∀ x21 : Int, x21 = (x12 + ((M 5 x14.toNat) * x13)) →
              (x21 ≤ 2147483647 →
                rg x21 ∧
                k x21) ∧
              (¬ x21 ≤ 2147483647 →
                k (-3))) ∧
            (¬ x14 = ((M 0 9) - 1) →
              k (-2))) k M m71 x6 1 1) ∧
        (¬ x6 ≤ x11 →
          (¬ (M 0 9) = 1 →
            k (-2)) ∧
          ((M 0 9) = 1 →
            k x11))) ∧
      ((M 0 9) = 0 →
        k (-2))) ∧
    (x1 = 0 →
      k (-1)))
def b_X12_waitingMany_28 (v2 : Int) (t0 : Int) (t1 : Int) (k_4 : Int → Int → Prop) (k : Int → Prop) (M : hq_M) : Prop :=
  rg (t0 + t1) ∧
  ∀ x2 : Int, x2 = (t0 + t1) →
  rg (v2 + 1) ∧ ∀ x3 : Int, x3 = (v2 + 1) →
  k_4 x2 x3
def l_X12_waitingMany_4 (k : Int → Prop) (M : hq_M) : Nat → Int → Int → Prop
  | 0, _, _ => False
  | n + 1, v1, v2 =>
    ((M 0 25) ≤ v2 →
      k v1) ∧
    (¬ (M 0 25) ≤ v2 →
      (0 ≤ v2 ∧ v2 < 40) ∧
      (¬ (M 15 v2.toNat) = 1 →
        b_X12_waitingMany_28 v2 v1 0 (fun v1q v2q => l_X12_waitingMany_4 k M n v1q v2q) k M) ∧
      ((M 15 v2.toNat) = 1 →
        b_X12_waitingMany_28 v2 v1 1 (fun v1q v2q => l_X12_waitingMany_4 k M n v1q v2q) k M))
def w_X12_waitingMany  (M : hq_M) (k : Int → Prop) : Prop :=
  ∃ m4, l_X12_waitingMany_4 k M m4 0 0
def w_X12_count (v1 : Int) (M : hq_M) (k : Int → Prop) : Prop :=
  (v1 = 0 →
    k (M 0 0)) ∧
  (v1 = 1 →
    k (M 0 1)) ∧
  (v1 = 2 →
    k (M 0 2)) ∧
  (v1 = 3 →
    k (M 0 3)) ∧
  (v1 = 4 →
    k (M 0 23)) ∧
  (v1 = 5 →
    k (M 0 24)) ∧
  (v1 = 6 →
    k (M 0 25)) ∧
  (v1 = 7 →
    w_X12_waitingMany M (fun x8 =>
      k x8)) ∧
  (v1 = 8 →
    w_X12_risks M (fun x9 =>
      k x9)) ∧
  (v1 = 9 →
    k (M 0 43)) ∧
  (v1 = 10 →
    k (M 0 52)) ∧
  (v1 = 11 →
    k (M 0 37)) ∧
  (v1 = 12 →
    k (M 0 9)) ∧
  (v1 < 0 ∨ 12 < v1 →
    k (-1))
