/-! ===== constructors: HeadTablesModel's contract ===== -/
theorem k_vd {Y : hq_Y} {M : hq_M} (h0 : ∀ o j, 0 ≤ M o j ∧ M o j ≤ 1000) (h1 : ∀ o q, Y[o]? = some q → ∀ (k : Nat) (t : Nat × Nat), q.1 < 13 → (SLx q.1)[k]? = some t → (t.1 = 1 → M o k = 0) ∧ (t.1 = 4 → Y[(M o k).toNat]? = some (7, 0))) (h2 : ∀ o n, Y[o]? = some (15, n) → ∀ j, M o j = 0) : hq_vd SLx Y M := by
  have hg : ∀ o j, rg (M o j) := fun o j => ⟨by have := (h0 o j).1; omega, by have := (h0 o j).2; omega⟩
  intro o q hq
  refine ⟨fun k t hk ht => ⟨fun _ => hg o k, fun e => Or.inl ((h1 o q hq k t hk ht).1 e), fun e => (h1 o q hq k t hk ht).2 e⟩, fun _ j => hg o j, fun _ j => rg_rl (hg o j), fun e j => ?_⟩
  obtain ⟨a, b⟩ := q
  simp only at e
  subst e
  exact Or.inl (h2 o b hq j)
def Q12 (M M' : hq_M) : Prop := (∀ q j, 6 ≤ q → q ≤ 9 → j < 2 → M' q j = 0) ∧ (∀ j, j = 23 ∨ j = 24 ∨ j = 25 ∨ j = 37 ∨ j = 39 ∨ j = 43 ∨ j = 47 ∨ j = 52 ∨ j = 56 → M' 0 j = 0) ∧ ∀ o j, ¬ ((6 ≤ o ∧ o ≤ 9 ∧ j < 2) ∨ (o = 0 ∧ (j = 23 ∨ j = 24 ∨ j = 25 ∨ j = 37 ∨ j = 39 ∨ j = 43 ∨ j = 47 ∨ j = 52 ∨ j = 56))) → M' o j = M o j
def k_Q12 (D : va_G) (cA : Nat → ClassId) (B : Nat) (M : hq_M) : Array Value → State → Outcome → State → Prop := fun _ st oc t => (oc = .returned none ∧ ∃ M', Q12 M M' ∧ va_P D vwCl (hq_ws SLx cA YM B M') t.heap ∧ hq_vd SLx YM M') ∧ va_F (fun q => B ≤ q) st t
theorem k_vdM {M : hq_M} (m2 : M 0 2 = 60) (m3 : M 0 3 = 2) (hM : ∀ q j, ¬ (q = 0 ∧ (j = 2 ∨ j = 3)) → M q j = 0) : hq_vd SLx YM M := by
  have hz : ∀ q j, M q j = 0 ∨ (q = 0 ∧ j = 2 ∧ M q j = 60) ∨ (q = 0 ∧ j = 3 ∧ M q j = 2) := fun q j => by
    by_cases h : q = 0 ∧ (j = 2 ∨ j = 3)
    · obtain ⟨rfl, rfl | rfl⟩ := h
      · exact Or.inr (Or.inl ⟨rfl, rfl, m2⟩)
      · exact Or.inr (Or.inr ⟨rfl, rfl, m3⟩)
    · exact Or.inl (hM q j h)
  have key : ∀ o, o < 34 → ∀ k, k < 57 → ∀ t, (SLx (YM.getD o (0, 0)).1)[k]? = some t → (YM.getD o (0, 0)).1 < 13 → t.1 = 0 ∨ t.1 = 3 := by decide +kernel
  refine k_vd (fun o j => by rcases hz o j with h | ⟨-, -, h⟩ | ⟨-, -, h⟩ <;> omega) (fun o q hq k t hk ht => ?_) (fun o n hq j => hM o j (fun e => ?_))
  · have ho : o < 34 := by
      have := (List.getElem?_eq_some_iff.mp hq).1
      rw [show YM.length = 34 by decide +kernel] at this
      exact this
    have e : YM.getD o (0, 0) = q := by rw [List.getD_eq_getElem?_getD, hq]; rfl
    have hk57 : k < 57 := by
      have h1 := (List.getElem?_eq_some_iff.mp ht).1
      have h2 : ∀ c, c < 13 → (SLx c).length ≤ 57 := by decide +kernel
      have := h2 q.1 hk
      omega
    have := key o ho k hk57 t (by rw [e]; exact ht) (by rw [e]; exact hk)
    exact ⟨fun h => by omega, fun h => by omega⟩
  · obtain ⟨rfl, -⟩ := e
    rw [show YM[0]? = some (12, 0) by decide +kernel] at hq
    cases hq
theorem m_beginsQ {M : hq_M} : w_X12_begins M (Q12 M) := m_begins (fun M' h1 h2 h3 => ⟨h1, h2, h3⟩)
set_option maxHeartbeats 4000000 in
set_option maxRecDepth 100000 in
theorem k_X12 (l : Launch) {D : va_G} {cA : Nat → ClassId} {B : Nat} (M : hq_M) (m2 : M 0 2 = 60) (m3 : M 0 3 = 2) (hM : ∀ q j, ¬ (q = 0 ∧ (j = 2 ∨ j = 3)) → M q j = 0) : Met l yX12_init wsX12_init ({ frames := 1, cells := 33, slots := 7908, locals := 40 } : Room) (k_Pc D cA B 0 12 [.int (w3 0), .int (w3 0), .int (w3 0), .int (w3 0), .null, .null, .null, .null, .null, .int (w3 0), .int (w3 0), .int (w3 0), .int (w3 0), .int (w3 0), .int (w3 0), .int (w3 0), .int (w3 0), .int (w3 0), .null, .null, .null, .null, .null, .int (w3 0), .int (w3 0), .int (w3 0), .null, .null, .null, .null, .null, .null, .null, .null, .null, .null, .null, .int (w3 0), .null, .int (w3 0), .null, .int (w3 0), .null, .int (w3 0), .null, .null, .null, .int (w3 0), .null, .int (w3 0), .null, .null, .int (w3 0), .null, .null, .null, .int (w3 0)] [.ref (B + 0)]) (k_Q12 D cA B M) 33 7908 (fun q => B ≤ q) := by
  refine Met.ofW (cc := cX12_init) (maxL := 1) (ret := none) (by decide +kernel) rfl ?_
  intro p e s m args below meth c s₁ Bd hml hv
  obtain ⟨rfl, hP, hz, hK, hZs⟩ := hv
  have hts := atoms_spec (ws := wsX12_init) Bd.pre
  have hown : s.vm.findClass RX12 = some m.cls := findClass_of_methodNamed Bd.named
  have hin : meth.name = "<init>" := (name_of_methodNamed Bd.named Bd.method).1
  have C : hq_C vwCl p m c cX12_init 1 s [Value.ref (B + 0)].toArray wsX12_init RX12 meth none D cA (fun _ => False) k_Z := ⟨⟨Bd.exec, Bd.bytes, hml, hown, hts⟩, Bd.returns, Bd.notSynchronized, hK, k_Zo _, hZs⟩
  have hl := lv_entry ([.ref (B + 0)] : List Value) (n := 1) (Nat.le_of_ble_eq_true rfl)
  rw [lg_entry_eq]
  generalize (lg_sl ([.ref (B + 0)] : List Value) ++ List.replicate (1 - (lg_sl ([.ref (B + 0)] : List Value)).length) Slot.unset).toArray = ls at hl ⊢
  have hl : lv_has ls 1 [(0, .ref (B + 0))] := hl
  have h : k_S D cA B M [(B + 0, .inr (12, [.int (w3 0), .int (w3 0), .int (w3 0), .int (w3 0), .null, .null, .null, .null, .null, .int (w3 0), .int (w3 0), .int (w3 0), .int (w3 0), .int (w3 0), .int (w3 0), .int (w3 0), .int (w3 0), .int (w3 0), .null, .null, .null, .null, .null, .int (w3 0), .int (w3 0), .int (w3 0), .null, .null, .null, .null, .null, .null, .null, .null, .null, .null, .null, .int (w3 0), .null, .int (w3 0), .null, .int (w3 0), .null, .int (w3 0), .null, .null, .null, .int (w3 0), .null, .int (w3 0), .null, .null, .int (w3 0), .null, .null, .null, .int (w3 0)]))] 0 (0 + 1) [] s.heap s.heap [] := by
    refine ⟨by simpa [k_sg] using hP, hz, ⟨fun i j p q hp hq _ => ?_, fun k q hk => ?_⟩, va_S.rf, by omega⟩
    · have h1 : i < 1 := (List.getElem?_eq_some_iff.mp hp).1
      have h2 : j < 1 := (List.getElem?_eq_some_iff.mp hq).1
      omega
    · have h1 : k < 1 := (List.getElem?_eq_some_iff.mp hk).1
      obtain rfl : k = 0 := by omega
      cases hk
      exact ⟨Nat.le_refl _, by show B + 0 < B + (0 + 1); omega⟩
  refine k_X12w M ⟨rfl, rfl, rfl, rfl⟩ hM C hin h hl (fun H locs h => ?_)
  have hvd := k_vdM m2 m3 hM
  have hws : va_P D vwCl (hq_ws SLx cA YM B M) H := by
    rw [k_sg_ws, ← yX12_eq]
    show va_P D vwCl ((B + 0, hq_cel SLx cA B M 0 (12, 0)) :: _) H
    rw [k_X12c m2 m3 hM]
    exact h.1
  have hlen : YM.length = 34 := by decide +kernel
  have hat : (hq_ws SLx cA YM B M)[0]? = some (B + 0, .inr (12, (SLx 12).zipIdx.map (fun t => hq_val B M 0 t.2 t.1))) := by rw [hq_ws_at SLx cA B M (show YM[0]? = some (12, 0) by decide +kernel), hq_cel_o (by decide)]
  refine g_go (va_runV (As := []) (rest := []) C.1 (c_X12_begins l (Z := k_Z) (D := D) (cA := cA) (B := B) (k_Zo _) M (Q12 M) m_beginsQ) (cwV 0 C.1.2.2.2.2 gX12_init_X12_begins rfl rfl rfl ⟨rfl, by decide, by decide, by decide +kernel⟩ ⟨Nat.le_of_ble_eq_true rfl, Nat.le_of_ble_eq_true rfl⟩) ⟨hq_blind (k_Zo (fun _ => False)), va_recv C.2.2.2.1 hws rfl hat, fun U hU hW => ⟨rfl, by rw [hU]; exact hws, va_K.moved hW.alike C.2.2.2.1, hvd, k_Zw hW C.2.2.2.2.2⟩⟩ rfl rfl hl.1 rfl (lv_room (Nat.le_of_ble_eq_true rfl)) dX12_init_291 ⟨Nat.le_of_ble_eq_true rfl, Nat.le_of_ble_eq_true rfl⟩) (fun v st₀ t L h0 hq hL => ?_)
  obtain ⟨⟨v', M1, hv, ⟨hv2, hq12⟩, hP1, hV1⟩, hz1, hk1⟩ := hq
  cases hv
  subst hv2
  rw [h0] at hz1 hk1
  obtain ⟨-, hzH, -, hS, -⟩ := h
  refine W.vret C.1.1 C.1.2.1 C.2.1 (fun t' ht hW => ⟨⟨rfl, M1, hq12, by rw [ht]; exact hP1, hV1⟩, by rw [ht]; exact Nat.le_trans hS.1 hz1, fun q h1 h2 => ?_⟩) (fun q hq => ?_) dX12_init_294
  · rcases List.mem_append.mp hq with h4 | h4
    · exact hS.2.2 q h4
    · exact (hL q h4).1
  · have h3 : q < B := Nat.lt_of_not_le h2
    rw [ht, hk1 q (Nat.lt_of_lt_of_le h1 hS.1) (fun e => by have := e.1; omega)]
    exact hS.2.1 q h1 (fun e => by have : B + 0 ≤ q := e; omega)
