/-! ===== the mathematics, part 38: tells, an item in lockstep ===== -/
def PCs (T : List Int) (o : Nat) (C : hq_M) (mt bd : Int) (nF : Nat) (a v : Nat → List Int) (nS : Nat) (sa sv : Nat → List Int) (it : Int) (b e : Nat) : Prop := Rw C 1 T ∧ (C 7 1 = (if mt = -9 then 0 else 1) ∧ C 7 2 = (if bd = -9 then 0 else 1) ∧ C o 2 = (if mt = -9 then 60 else mt) ∧ C o 3 = (if bd = -9 then 2 else bd)) ∧ Pr C (o + 1) (nF : Int) a v ∧ Pr C (o + 38) (nS : Int) sa sv ∧ C 7 3 = it ∧ C 7 4 = (b : Int) ∧ C 7 5 = (e : Int)
def PMs (T : List Int) (M : hq_M) (mt bd : Int) (nF : Nat) (a v : Nat → List Int) (nS : Nat) (sa sv : Nat → List Int) (it : Int) (b e : Nat) : Prop := TxM T M ∧ TkM T M b e ∧ (M 0 16 = mt ∧ M 0 17 = bd ∧ M 0 14 = (nF : Int) ∧ M 0 15 = (nS : Int) ∧ M 0 13 = it) ∧ (∀ i, i < nF → nm M (16 + i) = a i ∧ vl M (16 + i) = v i) ∧ (∀ i, i < nS → nm M (24 + i) = sa i ∧ vl M (24 + i) = sv i) ∧ Lo6 M
def OKs (T : List Int) (mt bd : Int) (nF nS b e : Nat) : Prop := (mt = -9 ∨ (0 ≤ mt ∧ mt ≤ 200)) ∧ (bd = -9 ∨ (0 ≤ bd ∧ bd ≤ 9)) ∧ nF ≤ 7 ∧ nS ≤ 8 ∧ b ≤ e ∧ e ≤ T.length ∧ Run aln T b e ∧ T.length ≤ 200
def FCp (o : Nat) (C C' : hq_M) : Prop := ∀ q j, ¬ (q = 7 ∨ (o ≤ q ∧ q < o + 80)) → C' q j = C q j
def FMp (M M' : hq_M) : Prop := ∀ q j, ¬ ((q = 0 ∧ 10 ≤ j ∧ j ≤ 17) ∨ ((q = 1 ∨ q = 2) ∧ 16 ≤ j ∧ j < 32) ∨ ((q = 3 ∨ q = 4) ∧ 96 ≤ j ∧ j < 192)) → M' q j = M q j
def mIt (k1 kf : hq_M → Prop) (M : hq_M) : Prop := w_X12_readsItem M (fun x3 M2 => (x3 = 0 → kf M2) ∧ (¬ x3 = 0 → w_X12_readsSign 59 M2 (fun x5 M4 => (¬ x5 = 0 → k1 M4) ∧ (x5 = 0 → kf M4))))
theorem str_ne {i j : Nat} (hi : i < 4) (hj : j < 4) (h : str i = str j) : i = j := by
  have key : ∀ i, i < 4 → ∀ j, j < 4 → str i = str j → i = j := by decide
  exact key i hi j hj h
theorem m_item {M : hq_M} {T : List Int} {b e : Nat} {k : Int → hq_M → Prop} (hT : TxM T M) (hk0 : TkM T M b e) (hb : b ≤ e) (he : e ≤ T.length) (hN : Run aln T b e) (c0 : wd T b e = str 0 → w_X12_readsMost M (fun x M' => b_X12_readsItem_40 x k M')) (c1 : wd T b e = str 1 → w_X12_readsBound M (fun x M' => b_X12_readsItem_40 x k M')) (c2 : wd T b e = str 2 → w_X12_readsStill M (fun x M' => k x M')) (c3 : wd T b e = str 3 → w_X12_readsField M (fun x M' => (x = 0 → k 0 M') ∧ (¬ x = 0 → k 1 M'))) (c4 : (∀ i, i < 4 → wd T b e ≠ str i) → k 0 M) : w_X12_readsItem M k := by
  have w0 := word_is hb hN (v := 0) (by decide)
  have w1 := word_is hb hN (v := 1) (by decide)
  have w2 := word_is hb hN (v := 2) (by decide)
  have w3 := word_is hb hN (v := 3) (by decide)
  rw [show ac (str 0) = 499850046565 by decide] at w0
  rw [show ac (str 1) = 27703773382796644 by decide] at w1
  rw [show ac (str 2) = 495874305132 by decide] at w2
  rw [show ac (str 3) = 439854918756 by decide] at w3
  unfold w_X12_readsItem
  refine m_word hT hk0 hb he ?_
  unfold b_X12_readsItem_21
  refine ⟨fun q => ⟨fun q2 => absurd q q2, fun _ => c0 (w0.mp q)⟩, fun q0 => ⟨fun q1 => ⟨fun q2 => ⟨fun q3 => c4 (fun i hi h => ?_), fun q3 => c3 (w3.mp q3)⟩, fun q2 => c2 (w2.mp q2)⟩, fun q1 => ⟨fun _ => c1 (w1.mp q1), fun q2 => absurd q2 q0⟩⟩⟩
  have : i = 0 ∨ i = 1 ∨ i = 2 ∨ i = 3 := by omega
  rcases this with rfl | rfl | rfl | rfl
  · exact q0 (w0.mpr h)
  · exact q1 (w1.mpr h)
  · exact q2 (w2.mpr h)
  · exact q3 (w3.mpr h)
theorem Lo6.hi {M M' : hq_M} (h : Lo6 M) (hM : ∀ q j, q = 1 ∨ q = 2 → M' q j = M q j) : Lo6 M' := fun g hg => by rw [hM 1 g (.inl rfl), hM 2 g (.inr rfl)]; exact h g hg
/-- the number of an item, in the reference -/
theorem m_most {M : hq_M} {T : List Int} {b e b1 e1 : Nat} {vn : Int} {k : Int → hq_M → Prop} (hT : TxM T M) (hk0 : TkM T M b e) (hbe : b < e) (he : e ≤ T.length) (h16 : M 0 16 = -9) (hN1 : Nx T e b1 e1) (hv : NV (wd T b1 e1) vn) (hk : ∀ M', TkM T M' b1 e1 → M' 0 16 = vn → (∀ o j, ¬ (o = 0 ∧ ((10 ≤ j ∧ j ≤ 12) ∨ j = 16)) → M' o j = M o j) → k (if 0 ≤ vn ∧ vn ≤ 200 then 1 else 0) M') : w_X12_readsMost M k := by
  have hb1 := hN1.bd
  unfold w_X12_readsMost b_X12_readsMost_14
  refine ⟨fun q => absurd h16 q, fun _ => ⟨fun e => absurd e (by decide), fun _ => m_take hT (by rw [hk0.2.1, hre_pc hbe he]) hN1 (fun M1 t1 g1 => ?_)⟩⟩
  have T1 : TxM T M1 := hT.cg (fun q j hq => g1 _ _ (by omega))
  refine m_told T1 t1 hb1.2.1 hb1.2.2 (fun w hw => ?_)
  have := hw.un hv
  subst this
  refine m_in (m_told T1 t1 hb1.2.1 hb1.2.2 (fun w2 hw2 => ?_))
  have := hw2.un hv
  subst this
  intro M5 e5
  exact hk M5 (t1.cg (fun q j hq => by rw [e5, hq_up_n _ _ (by omega)])) (by rw [e5, up_self]) (fun o j ho => by rw [e5, hq_up_n _ _ (by omega)]; exact g1 o j (by omega))
theorem m_bound {M : hq_M} {T : List Int} {b e b1 e1 : Nat} {vn : Int} {k : Int → hq_M → Prop} (hT : TxM T M) (hk0 : TkM T M b e) (hbe : b < e) (he : e ≤ T.length) (h16 : M 0 17 = -9) (hN1 : Nx T e b1 e1) (hv : NV (wd T b1 e1) vn) (hk : ∀ M', TkM T M' b1 e1 → M' 0 17 = vn → (∀ o j, ¬ (o = 0 ∧ ((10 ≤ j ∧ j ≤ 12) ∨ j = 17)) → M' o j = M o j) → k (if 0 ≤ vn ∧ vn ≤ 9 then 1 else 0) M') : w_X12_readsBound M k := by
  have hb1 := hN1.bd
  unfold w_X12_readsBound b_X12_readsBound_14
  refine ⟨fun q => absurd h16 q, fun _ => ⟨fun e => absurd e (by decide), fun _ => m_take hT (by rw [hk0.2.1, hre_pc hbe he]) hN1 (fun M1 t1 g1 => ?_)⟩⟩
  have T1 : TxM T M1 := hT.cg (fun q j hq => g1 _ _ (by omega))
  refine m_told T1 t1 hb1.2.1 hb1.2.2 (fun w hw => ?_)
  have := hw.un hv
  subst this
  refine m_in (m_told T1 t1 hb1.2.1 hb1.2.2 (fun w2 hw2 => ?_))
  have := hw2.un hv
  subst this
  intro M5 e5
  exact hk M5 (t1.cg (fun q j hq => by rw [e5, hq_up_n _ _ (by omega)])) (by rw [e5, up_self]) (fun o j ho => by rw [e5, hq_up_n _ _ (by omega)]; exact g1 o j (by omega))
theorem str_pos {T : List Int} {b e i : Nat} (h : wd T b e = str i) (hi : i < 4) : b < e := by
  have h1 := wd_len T b e
  rw [h] at h1
  have h2 : ∀ i, i < 4 → 1 ≤ (str i).length := by decide
  have := h2 i hi
  omega
theorem nv_pos {T : List Int} {b e : Nat} {v : Int} (h : NV (wd T b e) v) (hv : 0 ≤ v) : b < e := by
  rcases h with ⟨h, -⟩ | ⟨-, h⟩
  · have := h.1
    have := wd_len T b e
    omega
  · omega
/-- what follows the number of an item, in the reference -/
theorem m_item40 {M : hq_M} {T : List Int} {b1 e1 : Nat} {x : Int} {k1 kf : hq_M → Prop} (hT : TxM T M) (hk0 : TkM T M b1 e1) (hb : b1 ≤ e1) (he : e1 ≤ T.length) (c0 : x = 0 → kf M) (c1 : x ≠ 0 → b1 < e1 ∧ ∃ b2 e2, Nx T e1 b2 e2 ∧ (¬ Sg T b2 e2 59 → ∀ M', TkM T M' b2 e2 → (∀ o j, ¬ (o = 0 ∧ 10 ≤ j ∧ j ≤ 12) → M' o j = M o j) → kf M') ∧ (Sg T b2 e2 59 → ∃ b3 e3, Nx T (b2 + 1) b3 e3 ∧ ∀ M', TkM T M' b3 e3 → (∀ o j, ¬ (o = 0 ∧ 10 ≤ j ∧ j ≤ 12) → M' o j = M o j) → k1 M')) : b_X12_readsItem_40 x (fun x3 M2 => (x3 = 0 → kf M2) ∧ (¬ x3 = 0 → w_X12_readsSign 59 M2 (fun x5 M4 => (¬ x5 = 0 → k1 M4) ∧ (x5 = 0 → kf M4)))) M := by
  unfold b_X12_readsItem_40
  refine ⟨fun q => ⟨fun _ => c0 q, fun e => absurd q e⟩, fun q => ?_⟩
  obtain ⟨hbe, b2, e2, hN2, c3, c4⟩ := c1 q
  have hb2 := hN2.bd
  refine m_take hT (by rw [hk0.2.1, hre_pc hbe he]) hN2 (fun M6 t6 g6 => ⟨fun e => absurd e q, fun _ => ?_⟩)
  have T6 : TxM T M6 := hT.cg (fun q j hq => g6 _ _ (by omega))
  by_cases hs : Sg T b2 e2 59
  · obtain ⟨b3, e3, hN3, c5⟩ := c4 hs
    exact m_sign_yes T6 (.inl rfl) t6 hb2.2.1 hb2.2.2 hs hN3 (fun M7 t7 g7 => ⟨fun _ => c5 M7 t7 (fun o j ho => by rw [g7 _ _ ho, g6 _ _ ho]), fun e => absurd e (by decide)⟩)
  · exact m_sign_no (.inl rfl) t6 hb2.2.1 hb2.2.2 hs ⟨fun e => absurd rfl e, fun _ => c3 hs M6 t6 g6⟩
