abbrev hq_M : Type := Nat → Nat → Int
abbrev hq_Y : Type := List (Nat × Nat)
abbrev rg (z : Int) : Prop := -2147483648 ≤ z ∧ z ≤ 2147483647
abbrev rl (z : Int) : Prop := -9223372036854775808 ≤ z ∧ z ≤ 9223372036854775807
abbrev rb (z : Int) : Prop := z = 0 ∨ z = 1
def hq_len (Y : hq_Y) (o : Nat) : Nat := (Y.getD o (0, 0)).2
/-! ===== the layout of the cells: the class under test (YC), the reference (YM); the slots of each class ===== -/
def SLx : Nat → List (Nat × Nat) := fun c => match c with
  | 0 => [(0, 0), (2, 1), (2, 3), (0, 0), (0, 0), (0, 0), (0, 0), (1, 0)]
  | 1 => [(2, 1), (0, 0)]
  | 2 => [(2, 1), (2, 3)]
  | 3 => [(2, 1), (0, 0)]
  | 4 => [(3, 1), (1, 0), (1, 0), (0, 0), (0, 0), (0, 0)]
  | 5 => [(2, 1), (2, 5), (0, 0)]
  | 6 => [(2, 1), (0, 0)]
  | 7 => [(2, 1), (2, 38), (0, 0), (0, 0)]
  | 8 => [(2, 1), (2, 3), (2, 4), (0, 0), (0, 0)]
  | 9 => [(2, 1), (2, 2), (2, 3), (0, 0), (0, 0), (0, 0), (0, 0)]
  | 10 => [(2, 1), (2, 5), (2, 10), (2, 12), (4, 0), (0, 0), (1, 0), (1, 0)]
  | 11 => [(3, 1), (3, 3), (3, 5), (3, 7), (3, 168), (3, 370), (3, 384), (3, 391), (3, 405), (4, 0), (4, 0)]
  | 12 => [(0, 0), (0, 0), (0, 0), (0, 0), (3, 1), (3, 2), (3, 3), (3, 4), (3, 5), (0, 0), (0, 0), (0, 0), (0, 0), (0, 0), (0, 0), (0, 0), (0, 0), (0, 0), (3, 6), (3, 7), (3, 8), (3, 9), (3, 10), (0, 0), (0, 0), (0, 0), (3, 11), (3, 12), (3, 13), (3, 14), (3, 15), (3, 16), (3, 17), (3, 18), (3, 19), (3, 20), (3, 21), (0, 0), (3, 22), (0, 0), (3, 23), (0, 0), (3, 24), (0, 0), (3, 25), (3, 26), (3, 27), (0, 0), (3, 28), (0, 0), (3, 29), (3, 30), (0, 0), (3, 31), (3, 32), (3, 33), (0, 0)]
  | _ => []
def YC : hq_Y := [(11, 0), (6, 0), (13, 200), (6, 0), (13, 6), (6, 0), (13, 8), (4, 0), (7, 0), (3, 0), (17, 7), (2, 0), (6, 0), (13, 6), (6, 0), (13, 6), (2, 0), (6, 0), (13, 6), (6, 0), (13, 6), (2, 0), (6, 0), (13, 6), (6, 0), (13, 6), (2, 0), (6, 0), (13, 6), (6, 0), (13, 6), (2, 0), (6, 0), (13, 6), (6, 0), (13, 6), (2, 0), (6, 0), (13, 6), (6, 0), (13, 6), (2, 0), (6, 0), (13, 6), (6, 0), (13, 6), (3, 0), (17, 8), (2, 0), (6, 0), (13, 6), (6, 0), (13, 6), (2, 0), (6, 0), (13, 6), (6, 0), (13, 6), (2, 0), (6, 0), (13, 6), (6, 0), (13, 6), (2, 0), (6, 0), (13, 6), (6, 0), (13, 6), (2, 0), (6, 0), (13, 6), (6, 0), (13, 6), (2, 0), (6, 0), (13, 6), (6, 0), (13, 6), (2, 0), (6, 0), (13, 6), (6, 0), (13, 6), (2, 0), (6, 0), (13, 6), (6, 0), (13, 6), (7, 0), (3, 0), (17, 7), (2, 0), (6, 0), (13, 6), (6, 0), (13, 6), (2, 0), (6, 0), (13, 6), (6, 0), (13, 6), (2, 0), (6, 0), (13, 6), (6, 0), (13, 6), (2, 0), (6, 0), (13, 6), (6, 0), (13, 6), (2, 0), (6, 0), (13, 6), (6, 0), (13, 6), (2, 0), (6, 0), (13, 6), (6, 0), (13, 6), (2, 0), (6, 0), (13, 6), (6, 0), (13, 6), (3, 0), (17, 8), (2, 0), (6, 0), (13, 6), (6, 0), (13, 6), (2, 0), (6, 0), (13, 6), (6, 0), (13, 6), (2, 0), (6, 0), (13, 6), (6, 0), (13, 6), (2, 0), (6, 0), (13, 6), (6, 0), (13, 6), (2, 0), (6, 0), (13, 6), (6, 0), (13, 6), (2, 0), (6, 0), (13, 6), (6, 0), (13, 6), (2, 0), (6, 0), (13, 6), (6, 0), (13, 6), (2, 0), (6, 0), (13, 6), (6, 0), (13, 6), (1, 0), (16, 40), (0, 0), (6, 0), (13, 6), (6, 0), (13, 96), (0, 0), (6, 0), (13, 6), (6, 0), (13, 96), (0, 0), (6, 0), (13, 6), (6, 0), (13, 96), (0, 0), (6, 0), (13, 6), (6, 0), (13, 96), (0, 0), (6, 0), (13, 6), (6, 0), (13, 96), (0, 0), (6, 0), (13, 6), (6, 0), (13, 96), (0, 0), (6, 0), (13, 6), (6, 0), (13, 96), (0, 0), (6, 0), (13, 6), (6, 0), (13, 96), (0, 0), (6, 0), (13, 6), (6, 0), (13, 96), (0, 0), (6, 0), (13, 6), (6, 0), (13, 96), (0, 0), (6, 0), (13, 6), (6, 0), (13, 96), (0, 0), (6, 0), (13, 6), (6, 0), (13, 96), (0, 0), (6, 0), (13, 6), (6, 0), (13, 96), (0, 0), (6, 0), (13, 6), (6, 0), (13, 96), (0, 0), (6, 0), (13, 6), (6, 0), (13, 96), (0, 0), (6, 0), (13, 6), (6, 0), (13, 96), (0, 0), (6, 0), (13, 6), (6, 0), (13, 96), (0, 0), (6, 0), (13, 6), (6, 0), (13, 96), (0, 0), (6, 0), (13, 6), (6, 0), (13, 96), (0, 0), (6, 0), (13, 6), (6, 0), (13, 96), (0, 0), (6, 0), (13, 6), (6, 0), (13, 96), (0, 0), (6, 0), (13, 6), (6, 0), (13, 96), (0, 0), (6, 0), (13, 6), (6, 0), (13, 96), (0, 0), (6, 0), (13, 6), (6, 0), (13, 96), (0, 0), (6, 0), (13, 6), (6, 0), (13, 96), (0, 0), (6, 0), (13, 6), (6, 0), (13, 96), (0, 0), (6, 0), (13, 6), (6, 0), (13, 96), (0, 0), (6, 0), (13, 6), (6, 0), (13, 96), (0, 0), (6, 0), (13, 6), (6, 0), (13, 96), (0, 0), (6, 0), (13, 6), (6, 0), (13, 96), (0, 0), (6, 0), (13, 6), (6, 0), (13, 96), (0, 0), (6, 0), (13, 6), (6, 0), (13, 96), (0, 0), (6, 0), (13, 6), (6, 0), (13, 96), (0, 0), (6, 0), (13, 6), (6, 0), (13, 96), (0, 0), (6, 0), (13, 6), (6, 0), (13, 96), (0, 0), (6, 0), (13, 6), (6, 0), (13, 96), (0, 0), (6, 0), (13, 6), (6, 0), (13, 96), (0, 0), (6, 0), (13, 6), (6, 0), (13, 96), (0, 0), (6, 0), (13, 6), (6, 0), (13, 96), (0, 0), (6, 0), (13, 6), (6, 0), (13, 96), (10, 0), (9, 0), (13, 64), (13, 64), (14, 64), (8, 0), (6, 0), (13, 200), (13, 256), (13, 256), (6, 0), (13, 32), (6, 0), (13, 96), (5, 0), (9, 0), (13, 64), (13, 64), (14, 64), (6, 0), (13, 160), (10, 0), (9, 0), (13, 64), (13, 64), (14, 64), (8, 0), (6, 0), (13, 200), (13, 256), (13, 256), (6, 0), (13, 32), (6, 0), (13, 96), (0, 0), (6, 0), (13, 6), (6, 0), (13, 96)]
def YM : hq_Y := [(12, 0), (13, 32), (13, 32), (13, 192), (13, 192), (13, 200), (13, 2), (13, 2), (13, 2), (13, 2), (13, 128), (13, 40), (13, 40), (13, 40), (13, 40), (13, 40), (15, 40), (13, 40), (13, 240), (13, 240), (13, 4480), (13, 6), (13, 6), (13, 112), (13, 224), (13, 224), (13, 224), (13, 224), (13, 32), (13, 64), (13, 192), (13, 192), (13, 192), (13, 192)]
theorem YC_len : YC.length = 410 := by decide +kernel
theorem hq_ltC {o : Nat} {q : Nat × Nat} (h : YC[o]? = some q) : o < 410 := by
  have := (List.getElem?_eq_some_iff.mp h).1
  rw [YC_len] at this
  exact this
theorem hq_lenC (x : Nat) : hq_len YC x ≤ 256 := by
  have key : ∀ o, o < 410 → hq_len YC o ≤ 256 := by decide +kernel
  by_cases h : x < 410
  · exact key x h
  · unfold hq_len
    rw [List.getD_eq_getElem?_getD, List.getElem?_eq_none (by rw [YC_len]; omega)]
    decide
theorem hq_lenrg (x : Nat) : rg (hq_len YC x : Int) := by
  have := hq_lenC x
  constructor <;> omega
theorem hq_rdiv {x y : Int} (hx : rg x) (hy : rg y) (h : 0 ≤ x ∧ 0 < y) : rg (x / y) := by
  have h1 := Int.ediv_nonneg h.1 (Int.le_of_lt h.2)
  have h2 := Int.ediv_le_self y h.1
  have := hx.2
  exact ⟨by omega, by omega⟩
theorem hq_rrem {x y : Int} (hx : rg x) (hy : rg y) (h : 0 ≤ x ∧ 0 < y) : rg (x % y) := by
  have h1 := Int.emod_nonneg x (show y ≠ 0 by omega)
  have h2 := Int.emod_lt_of_pos x h.2
  have := hy.2
  exact ⟨by omega, by omega⟩
theorem hq_rmask {x n : Int} (h0 : 0 < n) (h1 : n ≤ 2147483647) : rg (x % n) := by
  have h1 := Int.emod_nonneg x (show n ≠ 0 by omega)
  have h2 := Int.emod_lt_of_pos x h0
  exact ⟨by omega, by omega⟩
theorem hq_rmax {x y : Int} (hx : rg x) (hy : rg y) : rg (max x y) := by
  rw [Int.max_def]; split <;> assumption
theorem hq_rmin {x y : Int} (hx : rg x) (hy : rg y) : rg (min x y) := by
  rw [Int.min_def]; split <;> assumption
theorem tkC_0 : YC[0]? = some (11, 0) := by decide +kernel
theorem tkC_1 : YC[1]? = some (6, 0) := by decide +kernel
theorem tkC_2 : YC[2]? = some (13, 200) := by decide +kernel
theorem tkC_3 : YC[3]? = some (6, 0) := by decide +kernel
theorem tkC_4 : YC[4]? = some (13, 6) := by decide +kernel
theorem tkC_5 : YC[5]? = some (6, 0) := by decide +kernel
theorem tkC_6 : YC[6]? = some (13, 8) := by decide +kernel
theorem tkC_7 : YC[7]? = some (4, 0) := by decide +kernel
theorem tkC_8 : YC[8]? = some (7, 0) := by decide +kernel
theorem tkC_88 : YC[88]? = some (7, 0) := by decide +kernel
theorem tkC_168 : YC[168]? = some (1, 0) := by decide +kernel
theorem tkC_169 : YC[169]? = some (16, 40) := by decide +kernel
theorem tkC_370 : YC[370]? = some (10, 0) := by decide +kernel
theorem tkC_371 : YC[371]? = some (9, 0) := by decide +kernel
theorem tkC_372 : YC[372]? = some (13, 64) := by decide +kernel
theorem tkC_373 : YC[373]? = some (13, 64) := by decide +kernel
theorem tkC_374 : YC[374]? = some (14, 64) := by decide +kernel
theorem tkC_375 : YC[375]? = some (8, 0) := by decide +kernel
theorem tkC_376 : YC[376]? = some (6, 0) := by decide +kernel
theorem tkC_377 : YC[377]? = some (13, 200) := by decide +kernel
theorem tkC_378 : YC[378]? = some (13, 256) := by decide +kernel
theorem tkC_379 : YC[379]? = some (13, 256) := by decide +kernel
theorem tkC_380 : YC[380]? = some (6, 0) := by decide +kernel
theorem tkC_381 : YC[381]? = some (13, 32) := by decide +kernel
theorem tkC_382 : YC[382]? = some (6, 0) := by decide +kernel
theorem tkC_383 : YC[383]? = some (13, 96) := by decide +kernel
theorem tkC_384 : YC[384]? = some (5, 0) := by decide +kernel
theorem tkC_385 : YC[385]? = some (9, 0) := by decide +kernel
theorem tkC_386 : YC[386]? = some (13, 64) := by decide +kernel
theorem tkC_387 : YC[387]? = some (13, 64) := by decide +kernel
theorem tkC_388 : YC[388]? = some (14, 64) := by decide +kernel
theorem tkC_389 : YC[389]? = some (6, 0) := by decide +kernel
theorem tkC_390 : YC[390]? = some (13, 160) := by decide +kernel
theorem tkC_391 : YC[391]? = some (10, 0) := by decide +kernel
theorem tkC_392 : YC[392]? = some (9, 0) := by decide +kernel
theorem tkC_393 : YC[393]? = some (13, 64) := by decide +kernel
theorem tkC_394 : YC[394]? = some (13, 64) := by decide +kernel
theorem tkC_395 : YC[395]? = some (14, 64) := by decide +kernel
theorem tkC_396 : YC[396]? = some (8, 0) := by decide +kernel
theorem tkC_397 : YC[397]? = some (6, 0) := by decide +kernel
theorem tkC_398 : YC[398]? = some (13, 200) := by decide +kernel
theorem tkC_399 : YC[399]? = some (13, 256) := by decide +kernel
theorem tkC_400 : YC[400]? = some (13, 256) := by decide +kernel
theorem tkC_401 : YC[401]? = some (6, 0) := by decide +kernel
theorem tkC_402 : YC[402]? = some (13, 32) := by decide +kernel
theorem tkC_403 : YC[403]? = some (6, 0) := by decide +kernel
theorem tkC_404 : YC[404]? = some (13, 96) := by decide +kernel
theorem tkC_405 : YC[405]? = some (0, 0) := by decide +kernel
theorem tkC_406 : YC[406]? = some (6, 0) := by decide +kernel
theorem tkC_407 : YC[407]? = some (13, 6) := by decide +kernel
theorem tkC_408 : YC[408]? = some (6, 0) := by decide +kernel
theorem tkC_409 : YC[409]? = some (13, 96) := by decide +kernel
theorem tkM_0 : YM[0]? = some (12, 0) := by decide +kernel
theorem tkM_1 : YM[1]? = some (13, 32) := by decide +kernel
theorem tkM_2 : YM[2]? = some (13, 32) := by decide +kernel
theorem tkM_3 : YM[3]? = some (13, 192) := by decide +kernel
theorem tkM_4 : YM[4]? = some (13, 192) := by decide +kernel
theorem tkM_5 : YM[5]? = some (13, 200) := by decide +kernel
theorem tkM_6 : YM[6]? = some (13, 2) := by decide +kernel
theorem tkM_7 : YM[7]? = some (13, 2) := by decide +kernel
theorem tkM_8 : YM[8]? = some (13, 2) := by decide +kernel
theorem tkM_9 : YM[9]? = some (13, 2) := by decide +kernel
theorem tkM_10 : YM[10]? = some (13, 128) := by decide +kernel
theorem tkM_11 : YM[11]? = some (13, 40) := by decide +kernel
theorem tkM_12 : YM[12]? = some (13, 40) := by decide +kernel
theorem tkM_13 : YM[13]? = some (13, 40) := by decide +kernel
theorem tkM_14 : YM[14]? = some (13, 40) := by decide +kernel
theorem tkM_15 : YM[15]? = some (13, 40) := by decide +kernel
theorem tkM_16 : YM[16]? = some (15, 40) := by decide +kernel
theorem tkM_17 : YM[17]? = some (13, 40) := by decide +kernel
theorem tkM_18 : YM[18]? = some (13, 240) := by decide +kernel
theorem tkM_19 : YM[19]? = some (13, 240) := by decide +kernel
theorem tkM_20 : YM[20]? = some (13, 4480) := by decide +kernel
theorem tkM_21 : YM[21]? = some (13, 6) := by decide +kernel
theorem tkM_22 : YM[22]? = some (13, 6) := by decide +kernel
theorem tkM_23 : YM[23]? = some (13, 112) := by decide +kernel
theorem tkM_24 : YM[24]? = some (13, 224) := by decide +kernel
theorem tkM_25 : YM[25]? = some (13, 224) := by decide +kernel
theorem tkM_26 : YM[26]? = some (13, 224) := by decide +kernel
theorem tkM_27 : YM[27]? = some (13, 224) := by decide +kernel
theorem tkM_28 : YM[28]? = some (13, 32) := by decide +kernel
theorem tkM_29 : YM[29]? = some (13, 64) := by decide +kernel
theorem tkM_30 : YM[30]? = some (13, 192) := by decide +kernel
theorem tkM_31 : YM[31]? = some (13, 192) := by decide +kernel
theorem tkM_32 : YM[32]? = some (13, 192) := by decide +kernel
theorem tkM_33 : YM[33]? = some (13, 192) := by decide +kernel
theorem tc_0_1 {o : Nat} (h : YC[o]? = some (0, 0)) : YC[o + 1]? = some (6, 0) := by
  have key : ∀ o, o < 410 → YC[o]? = some (0, 0) → YC[o + 1]? = some (6, 0) := by decide +kernel
  exact key o (hq_ltC h) h
theorem tc_0_2 {o : Nat} (h : YC[o]? = some (0, 0)) : YC[o + 3]? = some (6, 0) := by
  have key : ∀ o, o < 410 → YC[o]? = some (0, 0) → YC[o + 3]? = some (6, 0) := by decide +kernel
  exact key o (hq_ltC h) h
theorem tc_1_0 {o : Nat} (h : YC[o]? = some (1, 0)) : YC[o + 1]? = some (16, hq_len YC (o + 1)) := by
  have key : ∀ o, o < 410 → YC[o]? = some (1, 0) → YC[o + 1]? = some (16, hq_len YC (o + 1)) := by decide +kernel
  exact key o (hq_ltC h) h
theorem tc_2_0 {o : Nat} (h : YC[o]? = some (2, 0)) : YC[o + 1]? = some (6, 0) := by
  have key : ∀ o, o < 410 → YC[o]? = some (2, 0) → YC[o + 1]? = some (6, 0) := by decide +kernel
  exact key o (hq_ltC h) h
theorem tc_2_1 {o : Nat} (h : YC[o]? = some (2, 0)) : YC[o + 3]? = some (6, 0) := by
  have key : ∀ o, o < 410 → YC[o]? = some (2, 0) → YC[o + 3]? = some (6, 0) := by decide +kernel
  exact key o (hq_ltC h) h
theorem tc_3_0 {o : Nat} (h : YC[o]? = some (3, 0)) : YC[o + 1]? = some (17, hq_len YC (o + 1)) := by
  have key : ∀ o, o < 410 → YC[o]? = some (3, 0) → YC[o + 1]? = some (17, hq_len YC (o + 1)) := by decide +kernel
  exact key o (hq_ltC h) h
theorem tc_5_0 {o : Nat} (h : YC[o]? = some (5, 0)) : YC[o + 1]? = some (9, 0) := by
  have key : ∀ o, o < 410 → YC[o]? = some (5, 0) → YC[o + 1]? = some (9, 0) := by decide +kernel
  exact key o (hq_ltC h) h
theorem tc_5_1 {o : Nat} (h : YC[o]? = some (5, 0)) : YC[o + 5]? = some (6, 0) := by
  have key : ∀ o, o < 410 → YC[o]? = some (5, 0) → YC[o + 5]? = some (6, 0) := by decide +kernel
  exact key o (hq_ltC h) h
theorem tc_6_0 {o : Nat} (h : YC[o]? = some (6, 0)) : YC[o + 1]? = some (13, hq_len YC (o + 1)) := by
  have key : ∀ o, o < 410 → YC[o]? = some (6, 0) → YC[o + 1]? = some (13, hq_len YC (o + 1)) := by decide +kernel
  exact key o (hq_ltC h) h
theorem tc_7_0 {o : Nat} (h : YC[o]? = some (7, 0)) : YC[o + 1]? = some (3, 0) := by
  have key : ∀ o, o < 410 → YC[o]? = some (7, 0) → YC[o + 1]? = some (3, 0) := by decide +kernel
  exact key o (hq_ltC h) h
theorem tc_7_1 {o : Nat} (h : YC[o]? = some (7, 0)) : YC[o + 38]? = some (3, 0) := by
  have key : ∀ o, o < 410 → YC[o]? = some (7, 0) → YC[o + 38]? = some (3, 0) := by decide +kernel
  exact key o (hq_ltC h) h
theorem tc_8_0 {o : Nat} (h : YC[o]? = some (8, 0)) : YC[o + 1]? = some (6, 0) := by
  have key : ∀ o, o < 410 → YC[o]? = some (8, 0) → YC[o + 1]? = some (6, 0) := by decide +kernel
  exact key o (hq_ltC h) h
theorem tc_8_1 {o : Nat} (h : YC[o]? = some (8, 0)) : YC[o + 3]? = some (13, hq_len YC (o + 3)) := by
  have key : ∀ o, o < 410 → YC[o]? = some (8, 0) → YC[o + 3]? = some (13, hq_len YC (o + 3)) := by decide +kernel
  exact key o (hq_ltC h) h
theorem tc_8_2 {o : Nat} (h : YC[o]? = some (8, 0)) : YC[o + 4]? = some (13, hq_len YC (o + 4)) := by
  have key : ∀ o, o < 410 → YC[o]? = some (8, 0) → YC[o + 4]? = some (13, hq_len YC (o + 4)) := by decide +kernel
  exact key o (hq_ltC h) h
theorem tc_9_0 {o : Nat} (h : YC[o]? = some (9, 0)) : YC[o + 1]? = some (13, hq_len YC (o + 1)) := by
  have key : ∀ o, o < 410 → YC[o]? = some (9, 0) → YC[o + 1]? = some (13, hq_len YC (o + 1)) := by decide +kernel
  exact key o (hq_ltC h) h
theorem tc_9_1 {o : Nat} (h : YC[o]? = some (9, 0)) : YC[o + 2]? = some (13, hq_len YC (o + 2)) := by
  have key : ∀ o, o < 410 → YC[o]? = some (9, 0) → YC[o + 2]? = some (13, hq_len YC (o + 2)) := by decide +kernel
  exact key o (hq_ltC h) h
theorem tc_9_2 {o : Nat} (h : YC[o]? = some (9, 0)) : YC[o + 3]? = some (14, hq_len YC (o + 3)) := by
  have key : ∀ o, o < 410 → YC[o]? = some (9, 0) → YC[o + 3]? = some (14, hq_len YC (o + 3)) := by decide +kernel
  exact key o (hq_ltC h) h
theorem tc_10_0 {o : Nat} (h : YC[o]? = some (10, 0)) : YC[o + 1]? = some (9, 0) := by
  have key : ∀ o, o < 410 → YC[o]? = some (10, 0) → YC[o + 1]? = some (9, 0) := by decide +kernel
  exact key o (hq_ltC h) h
theorem tc_10_1 {o : Nat} (h : YC[o]? = some (10, 0)) : YC[o + 5]? = some (8, 0) := by
  have key : ∀ o, o < 410 → YC[o]? = some (10, 0) → YC[o + 5]? = some (8, 0) := by decide +kernel
  exact key o (hq_ltC h) h
theorem tc_10_2 {o : Nat} (h : YC[o]? = some (10, 0)) : YC[o + 10]? = some (6, 0) := by
  have key : ∀ o, o < 410 → YC[o]? = some (10, 0) → YC[o + 10]? = some (6, 0) := by decide +kernel
  exact key o (hq_ltC h) h
theorem tc_10_3 {o : Nat} (h : YC[o]? = some (10, 0)) : YC[o + 12]? = some (6, 0) := by
  have key : ∀ o, o < 410 → YC[o]? = some (10, 0) → YC[o + 12]? = some (6, 0) := by decide +kernel
  exact key o (hq_ltC h) h
theorem tel_16 {o n i : Nat} (h : YC[o]? = some (16, n)) (hi : i < n) : YC[o + 1 + 5 * i]? = some (0, 0) := by
  have key : ∀ o, o < 410 → (YC[o]?).map Prod.fst = some 16 → ∀ i, i < hq_len YC o → YC[o + 1 + 5 * i]? = some (0, 0) := by decide +kernel
  have hn : hq_len YC o = n := by unfold hq_len; rw [List.getD_eq_getElem?_getD, h]; rfl
  exact key o (hq_ltC h) (by rw [h]; rfl) i (by rw [hn]; exact hi)
theorem tel_17 {o n i : Nat} (h : YC[o]? = some (17, n)) (hi : i < n) : YC[o + 1 + 5 * i]? = some (2, 0) := by
  have key : ∀ o, o < 410 → (YC[o]?).map Prod.fst = some 17 → ∀ i, i < hq_len YC o → YC[o + 1 + 5 * i]? = some (2, 0) := by decide +kernel
  have hn : hq_len YC o = n := by unfold hq_len; rw [List.getD_eq_getElem?_getD, h]; rfl
  exact key o (hq_ltC h) (by rw [h]; rfl) i (by rw [hn]; exact hi)
