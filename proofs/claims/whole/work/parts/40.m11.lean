/-! ===== the mathematics, part 11: tables that change ===== -/
def es (M : hq_M) (t i : Nat) : Int := sz M (M 10 (64 * t + i % 64)).toNat
theorem IsEv.cg {f g : Nat → Int} {lo n e : Nat} {lim : Int} (h : IsEv f lo n lim e) (hfg : ∀ i, lo ≤ i → i < lo + n → f i = g i) : IsEv g lo n lim e := by
  obtain ⟨h1, h2, h3⟩ := h
  refine ⟨h1, ?_, fun d hd => ?_⟩
  · rw [← sm_cg (f := f) (fun i a b => hfg i (by omega) (by omega))]; exact h2
  · rw [← sm_cg (f := f) (fun i a b => hfg i (by omega) (by omega))]; exact h3 d hd
theorem sm_nn {f : Nat → Int} {lo n : Nat} (h : ∀ i, lo ≤ i → i < lo + n → 0 ≤ f i) : 0 ≤ sm f lo n := by
  induction n generalizing lo with
  | zero => exact Int.le_refl 0
  | succ n ih =>
    rw [sm]
    have := h lo (by omega) (by omega)
    have := ih (lo := lo + 1) (fun i a b => h i (by omega) (by omega))
    omega
theorem x9_shrink {A lo n : Nat} {lim : Int} {C : hq_M} {kk : hq_M → Prop} (h : TC C A lo n) (hs : C A 5 = sm (fun i => C (A + 2) (i % 64)) lo n) (hb : ∀ i, lo ≤ i → i < lo + n → 0 ≤ C (A + 2) (i % 64)) (hs2 : C A 5 ≤ 1000) (hl0 : 0 ≤ lim) (hk : ∀ (e : Nat) (C' : hq_M), IsEv (fun i => C (A + 2) (i % 64)) lo n lim e → C' A 5 = sm (fun i => C (A + 2) (i % 64)) (lo + e) (n - e) → C' A 4 = ((lo + e : Nat) : Int) → (∀ o j, ¬ (o = A ∧ (j = 4 ∨ j = 5)) → C' o j = C o j) → kk C') : w_X9_shrink A lim C kk := by
  obtain ⟨h1, h2, h3, h4, h5, h6⟩ := h
  unfold w_X9_shrink
  refine ⟨n + 1, ?_⟩
  have key : ∀ (d e : Nat) (N : hq_M), e + d = n → N A 5 = sm (fun i => C (A + 2) (i % 64)) (lo + e) d → N A 5 ≤ 1000 → N A 4 = ((lo + e : Nat) : Int) → (∀ d', d' < e → lim < sm (fun i => C (A + 2) (i % 64)) (lo + d') (n - d')) → (∀ o j, ¬ (o = A ∧ (j = 4 ∨ j = 5)) → N o j = C o j) → l_X9_shrink_0 A lim kk (d + 1) N := by
    intro d
    induction d with
    | zero =>
      intro e N he h5' hb5 h4' hlt hF
      rw [l_X9_shrink_0, hF A 3 (by omega), h2, h4']
      refine ⟨fun _ => hk e N ⟨by omega, by rw [show n - e = 0 by omega]; exact hl0, hlt⟩ (by rw [show n - e = 0 by omega]; exact h5') h4' hF, fun q => by omega⟩
    | succ d ih =>
      intro e N he h5' hb5 h4' hlt hF
      rw [l_X9_shrink_0, hF A 3 (by omega), h2, h4']
      refine ⟨fun q => by omega, fun _ => ⟨fun q => ?_, fun q => ?_⟩⟩
      · exact hk e N ⟨by omega, by rw [show n - e = d + 1 by omega, ← h5']; exact q, hlt⟩ (by rw [show n - e = d + 1 by omega]; exact h5') h4' hF
      · have hz := hb (lo + e) (by omega) (by omega)
        have hsm := h5'
        rw [sm] at hsm
        have hnn := sm_nn (f := fun i => C (A + 2) (i % 64)) (lo := lo + e + 1) (n := d) (fun i a b => hb i (by omega) (by omega))
        rw [h5, show (((lo + e : Nat) : Int) % 64).toNat = (lo + e) % 64 by omega, hF (A + 2) _ (by omega)]
        refine ⟨⟨by omega, by omega⟩, ⟨by omega, by omega⟩, fun M9 e9 => ?_⟩
        have g4 : M9 A 4 = ((lo + e : Nat) : Int) := by rw [e9]; simp only [hq_up]; rw [if_neg (by omega)]; exact h4'
        rw [g4]
        refine ⟨⟨by omega, by omega⟩, fun M12 e12 => ih (e + 1) M12 (by omega) ?_ ?_ ?_ (fun d' hd' => ?_) (fun o j ho => ?_)⟩
        · rw [e12]; simp only [hq_up]; rw [if_neg (by omega), e9, up_self, ← Nat.add_assoc]; omega
        · rw [e12]; simp only [hq_up]; rw [if_neg (by omega), e9, up_self]; omega
        · rw [e12, up_self]; omega
        · by_cases q2 : d' = e
          · rw [q2, show n - e = d + 1 by omega, ← h5']; omega
          · exact hlt d' (by omega)
        · rw [e12]; simp only [hq_up]; rw [if_neg (by omega), e9]; simp only [hq_up]; rw [if_neg (by omega)]; exact hF o j ho
  exact key n 0 C (by omega) hs hs2 h1 (fun d hd => absurd hd (by omega)) (fun _ _ _ => rfl)
theorem m_makesRoom {v add : Int} {t lo n : Nat} {M : hq_M} {kk : Int → hq_M → Prop} (hv : v = (t : Int)) (ht : t < 2) (hL : Lo6 M) (m7 : M 7 t = (lo : Int)) (m6 : M 6 t = ((lo + n : Nat) : Int)) (hln : lo + n ≤ 1000000) (m9 : M 9 t = sm (es M t) lo n) (hb9 : M 9 t ≤ 1000) (hf : ∀ i, lo ≤ i → i < lo + n → 0 ≤ M 10 (64 * t + i % 64) ∧ M 10 (64 * t + i % 64) < 32) (hc : 0 ≤ add ∧ add ≤ M 8 t ∧ M 8 t ≤ 200) (hk : ∀ (e : Nat) (M' : hq_M), IsEv (es M t) lo n (M 8 t - add) e → M' 9 t = sm (es M t) (lo + e) (n - e) → M' 7 t = ((lo + e : Nat) : Int) → (∀ o j, ¬ ((o = 7 ∨ o = 9) ∧ j = t) → M' o j = M o j) → kk (e : Int) M') : w_X12_makesRoom v add M kk := by
  have esn : ∀ i, lo ≤ i → i < lo + n → 0 ≤ es M t i ∧ es M t i ≤ 16 := by
    intro i a b
    have := hf i a b
    have := hL (M 10 (64 * t + i % 64)).toNat (by omega)
    unfold es sz
    omega
  unfold w_X12_makesRoom
  refine ⟨n + 1, ?_⟩
  have key : ∀ (d e : Nat) (z : Int) (N : hq_M), z = (e : Int) → e + d = n → N 9 t = sm (es M t) (lo + e) d → N 9 t ≤ 1000 → N 7 t = ((lo + e : Nat) : Int) → (∀ d', d' < e → M 8 t - add < sm (es M t) (lo + d') (n - d')) → (∀ o j, ¬ ((o = 7 ∨ o = 9) ∧ j = t) → N o j = M o j) → l_X12_makesRoom_2 v add kk (d + 1) z N := by
    intro d
    induction d with
    | zero =>
      intro e z N hz he h9 hb h7 hlt hF
      rw [l_X12_makesRoom_2, show v.toNat = t by omega, hF 8 t (by omega), h9]
      refine ⟨⟨by omega, by omega⟩, ⟨by rw [sm]; omega, by rw [sm]; omega⟩, ⟨by omega, by omega⟩, fun _ => ?_, fun q => ?_⟩
      · rw [hz]
        exact hk e N ⟨by omega, by rw [show n - e = 0 by omega, sm]; omega, hlt⟩ (by rw [show n - e = 0 by omega]; exact h9) h7 hF
      · exfalso; apply q; rw [sm]; omega
    | succ d ih =>
      intro e z N hz he h9 hb h7 hlt hF
      have hsm := h9
      rw [sm] at hsm
      have hz2 := esn (lo + e) (by omega) (by omega)
      have hnn := sm_nn (f := es M t) (lo := lo + e + 1) (n := d) (fun i a b => (esn i (by omega) (by omega)).1)
      rw [l_X12_makesRoom_2, show v.toNat = t by omega, hF 8 t (by omega)]
      refine ⟨⟨by omega, by omega⟩, ⟨by omega, by omega⟩, ⟨by omega, by omega⟩, fun q => ?_, fun q => ?_⟩
      · rw [hz]
        exact hk e N ⟨by omega, by rw [show n - e = d + 1 by omega, ← h9]; omega, hlt⟩ (by rw [show n - e = d + 1 by omega]; exact h9) h7 hF
      · have hfi := hf (lo + e) (by omega) (by omega)
        have hLN : Lo6 N := fun f hf' => by rw [hF 1 f (by omega), hF 2 f (by omega)]; exact hL f hf'
        unfold w_X12_goes
        rw [show v.toNat = t by omega, h7]
        refine ⟨⟨by omega, by omega⟩, ⟨by omega, by omega⟩, m_fieldAt (t := t) (i := lo + e) hv ht rfl ?_⟩
        rw [hF 10 _ (by omega)]
        refine m_sizeOf (f := (M 10 (64 * t + (lo + e) % 64)).toNat) (by omega) (by omega) hLN ?_
        have esz : sz N (M 10 (64 * t + (lo + e) % 64)).toNat = es M t (lo + e) := by
          unfold es sz
          rw [hF 1 _ (by omega), hF 2 _ (by omega)]
        rw [esz]
        refine ⟨⟨by omega, by omega⟩, ⟨by omega, by omega⟩, fun M9 e9 => ⟨⟨by omega, by omega⟩, ?_⟩⟩
        have g7 : M9 7 t = ((lo + e : Nat) : Int) := by rw [e9]; simp only [hq_up]; rw [if_neg (by omega)]; exact h7
        rw [g7]
        refine ⟨⟨by omega, by omega⟩, ⟨by omega, by omega⟩, fun M14 e14 => ⟨⟨by omega, by omega⟩, fun x7 e7 => ih (e + 1) x7 M14 (by omega) (by omega) ?_ ?_ ?_ (fun d' hd' => ?_) (fun o j ho => ?_)⟩⟩
        · rw [e14]; simp only [hq_up]; rw [if_neg (by omega), e9, up_self, ← Nat.add_assoc]; omega
        · rw [e14]; simp only [hq_up]; rw [if_neg (by omega), e9, up_self]; omega
        · rw [e14, up_self]; omega
        · by_cases q2 : d' = e
          · rw [q2, show n - e = d + 1 by omega, ← h9]; omega
          · exact hlt d' (by omega)
        · rw [e14]; simp only [hq_up]; rw [if_neg (by omega), e9]; simp only [hq_up]; rw [if_neg (by omega)]; exact hF o j ho
  exact key n 0 0 M rfl (by omega) m9 hb9 m7 (fun d hd => absurd hd (by omega)) (fun _ _ _ => rfl)
/-- what the reference knows of its sections -/
def SM (M : hq_M) : Prop := (0 ≤ M 0 25 ∧ M 0 25 ≤ 40) ∧ (∀ c, c < (M 0 25).toNat → (0 ≤ M 17 c ∧ M 17 c ≤ 6) ∧ ∀ j, j < (M 17 c).toNat → M 19 (6 * c + j) < M 6 0) ∧ (0 ≤ M 0 39 ∧ M 0 39 ≤ 6) ∧ ∀ j, j < (M 0 39).toNat → M 22 j < M 6 0
theorem m_canHave_no {v w : Int} {lo n : Nat} {M : hq_M} {kk : Int → Prop} (hL : Lo6 M) (hS : SM M) (m7 : M 7 0 = (lo : Int)) (m6 : M 6 0 = ((lo + n : Nat) : Int)) (hln : lo + n ≤ 1000000) (m9 : M 9 0 = sm (es M 0) lo n) (hb9 : M 9 0 ≤ 1000) (hf : ∀ i, lo ≤ i → i < lo + n → 0 ≤ M 10 (i % 64) ∧ M 10 (i % 64) < 32) (hv : 0 ≤ v ∧ v ≤ 1000) (hw : 0 ≤ w ∧ w < v) (hk : kk 0) : w_X12_canHave v w M kk := by
  have esn : ∀ i, lo ≤ i → i < lo + n → 0 ≤ es M 0 i ∧ es M 0 i ≤ 16 := by
    intro i a b
    have := hf i a b
    have := hL (M 10 (i % 64)).toNat (by omega)
    unfold es sz
    rw [Nat.mul_zero, Nat.zero_add]
    omega
  unfold w_X12_canHave
  have h0 := sm_nn (f := es M 0) (lo := lo) (n := n) (fun i a b => (esn i a b).1)
  refine ⟨by decide, ⟨by omega, by omega⟩, fun x4 e4 => ⟨by decide, fun x7 e7 => ⟨n + 1, ?_⟩⟩⟩
  have key : ∀ (d i : Nat) (y z : Int), z = ((lo + i : Nat) : Int) → i + d = n → y = sm (es M 0) (lo + i) d + v → y ≤ 5000 → l_X12_canHave_17 w (fun x8 => (w < x8 → kk 0) ∧ (¬ w < x8 → kk 1)) kk M (d + 1) y z := by
    intro d
    induction d with
    | zero =>
      intro i y z hz hi hy hy2
      rw [sm] at hy
      rw [l_X12_canHave_17, m6]
      exact ⟨fun q => by omega, fun _ => ⟨by decide, fun _ => ⟨fun _ => hk, fun q => by omega⟩, fun q => by omega⟩⟩
    | succ d ih =>
      intro i y z hz hi hy hy2
      have hfi := hf (lo + i) (by omega) (by omega)
      have hz2 := esn (lo + i) (by omega) (by omega)
      rw [sm] at hy
      have hnn := sm_nn (f := es M 0) (lo := lo + i + 1) (n := d) (fun i a b => (esn i (by omega) (by omega)).1)
      rw [l_X12_canHave_17, m6]
      refine ⟨fun q => by omega, fun _ => ⟨by decide, fun q => by omega, fun _ => m_isFree (i := lo + i) hz hS.1 (fun c hc => (hS.2.1 c hc).1) hS.2.2.1 ⟨fun _ => ⟨fun _ => hk, fun q => by omega⟩, fun _ => ?_⟩⟩⟩
      refine m_fieldAt (t := 0) (i := lo + i) rfl (by decide) hz ?_
      rw [Nat.mul_zero, Nat.zero_add]
      refine m_sizeOf (f := (M 10 ((lo + i) % 64)).toNat) (by omega) (by omega) hL ?_
      have esz : sz M (M 10 ((lo + i) % 64)).toNat = es M 0 (lo + i) := by unfold es; rw [Nat.mul_zero, Nat.zero_add]
      rw [esz]
      exact ⟨⟨by omega, by omega⟩, fun x7 e7 => ⟨⟨by omega, by omega⟩, fun x8 e8 => ih (i + 1) x7 x8 (by omega) (by omega) (by rw [e7, ← Nat.add_assoc]; omega) (by omega)⟩⟩
  exact key n 0 x4 x7 (by rw [e7, m7]; rfl) (by omega) (by rw [e4, m9]; rfl) (by omega)
theorem m_canHave {v w : Int} {lo n e t : Nat} {M : hq_M} {kk : Int → Prop} (hL : Lo6 M) (hS : SM M) (m7 : M 7 0 = (lo : Int)) (m6 : M 6 0 = ((lo + n : Nat) : Int)) (hln : lo + n ≤ 1000000) (m9 : M 9 0 = sm (es M 0) lo n) (hb9 : M 9 0 ≤ 1000) (hf : ∀ i, lo ≤ i → i < lo + n → 0 ≤ M 10 (i % 64) ∧ M 10 (i % 64) < 32) (hv : 0 ≤ v ∧ v ≤ 1000) (hw : v ≤ w) (hkn : 0 ≤ M 0 23) (he : IsEv (es M 0) lo n (w - v) e) (ht : IsFr (fun i => held M i = false) lo (min (lo + n) (M 0 23).toNat) t) (hk : kk (if e ≤ t then 1 else 0)) : w_X12_canHave v w M kk := by
  have esn : ∀ i, lo ≤ i → i < lo + n → 0 ≤ es M 0 i ∧ es M 0 i ≤ 16 := by
    intro i a b
    have := hf i a b
    have := hL (M 10 (i % 64)).toNat (by omega)
    unfold es sz
    rw [Nat.mul_zero, Nat.zero_add]
    omega
  unfold w_X12_canHave
  have h0 := sm_nn (f := es M 0) (lo := lo) (n := n) (fun i a b => (esn i a b).1)
  refine ⟨by decide, ⟨by omega, by omega⟩, fun x4 e4 => ⟨by decide, fun x7 e7 => ⟨n + 1, ?_⟩⟩⟩
  obtain ⟨he1, he2, he3⟩ := he
  have key : ∀ (d i : Nat) (y z : Int), z = ((lo + i : Nat) : Int) → i + d = n → y = sm (es M 0) (lo + i) d + v → y ≤ 5000 → i ≤ e → i ≤ t → l_X12_canHave_17 w (fun x8 => (w < x8 → kk 0) ∧ (¬ w < x8 → kk 1)) kk M (d + 1) y z := by
    intro d
    induction d with
    | zero =>
      intro i y z hz hi hy hy2 hie hit
      rw [sm] at hy
      rw [l_X12_canHave_17, m6]
      refine ⟨fun q => ⟨fun q2 => by omega, fun _ => ?_⟩, fun q => by omega⟩
      rw [if_pos (by omega)] at hk
      exact hk
    | succ d ih =>
      intro i y z hz hi hy hy2 hie hit
      have hfi := hf (lo + i) (by omega) (by omega)
      have hz2 := esn (lo + i) (by omega) (by omega)
      have hy0 := hy
      rw [sm] at hy
      have hnn := sm_nn (f := es M 0) (lo := lo + i + 1) (n := d) (fun i a b => (esn i (by omega) (by omega)).1)
      rw [l_X12_canHave_17, m6]
      refine ⟨fun q => ⟨fun q2 => by omega, fun _ => ?_⟩, fun q => ⟨by decide, fun q => by omega, fun _ => ?_⟩⟩
      · have hei : e = i := by
          by_cases q3 : i < e
          · have := he3 i q3
            rw [show n - i = d + 1 by omega] at this
            omega
          · omega
        rw [if_pos (by omega)] at hk
        exact hk
      · have hie2 : i < e := by
          by_cases q3 : i = e
          · rw [← q3, show n - i = d + 1 by omega] at he2
            omega
          · omega
        refine m_isFree (i := lo + i) hz hS.1 (fun c hc => (hS.2.1 c hc).1) hS.2.2.1 ?_
        by_cases q4 : z < M 0 23 ∧ held M (lo + i) = false
        · rw [if_pos q4]
          have hit2 : i < t := by
            by_cases q5 : i = t
            · rcases ht.2.2 with h | h
              · omega
              · exact absurd (by rw [← q5]; exact q4.2) h
            · omega
          refine ⟨fun q => absurd q (by decide), fun _ => m_fieldAt (t := 0) (i := lo + i) rfl (by decide) hz ?_⟩
          rw [Nat.mul_zero, Nat.zero_add]
          refine m_sizeOf (f := (M 10 ((lo + i) % 64)).toNat) (by omega) (by omega) hL ?_
          have esz : sz M (M 10 ((lo + i) % 64)).toNat = es M 0 (lo + i) := by unfold es; rw [Nat.mul_zero, Nat.zero_add]
          rw [esz]
          exact ⟨⟨by omega, by omega⟩, fun x7 e7 => ⟨⟨by omega, by omega⟩, fun x8 e8 => ih (i + 1) x7 x8 (by omega) (by omega) (by rw [e7, ← Nat.add_assoc]; omega) (by omega) (by omega) (by omega)⟩⟩
        · rw [if_neg q4]
          refine ⟨fun _ => ⟨fun _ => ?_, fun q => by omega⟩, fun q => absurd rfl q⟩
          have hti : t = i := by
            by_cases q5 : i < t
            · exfalso
              apply q4
              refine ⟨?_, ht.2.1 i q5⟩
              have := ht.1
              omega
            · omega
          rw [if_neg (by omega)] at hk
          exact hk
  exact key n 0 x4 x7 (by rw [e7, m7]; rfl) (by omega) (by rw [e4, m9]; rfl) (by omega) (by omega) (by omega)
/-! an order is written -/
theorem x8_write {s q D m kz : Nat} {d : Int} {C : hq_M} {ws xs : List Int} {kk : hq_M → Prop} (hw : Rw C (s + 1) ws) (hx : Rw C q xs) (hq : s + 5 ≤ q) (hcap : hq_len YC (s + 1 + 1) = 200) (hc3 : hq_len YC (s + 3) = 256) (hc4 : hq_len YC (s + 4) = 256) (hl : ws.length + xs.length ≤ 200) (hxl : xs.length ≤ hq_len YC (q + 1)) (h3 : C s 3 + (kz : Int) = ((D + m : Nat) : Int)) (hkz : kz = 0 ∨ kz = 256) (hDm : D + m ≤ 1001000) (hk : ∀ C' : hq_M, Rw C' (s + 1) (ws ++ xs) → C' s 3 = C s 3 + 1 → C' (s + 3) ((D + m) % 256) = d → C' (s + 4) ((D + m) % 256) = (xs.length : Int) → (∀ o j, ¬ (o = s + 1 ∨ o = s + 2 ∨ (o = s ∧ j = 3) ∨ ((o = s + 3 ∨ o = s + 4) ∧ j = (D + m) % 256)) → C' o j = C o j) → kk C') : w_X8_write s q d C kk := by
  unfold w_X8_write
  refine x6_addAll hw hx (by omega) (by omega) hxl (fun M1 r1 f1 => ?_)
  have hix : (C s 3 % 256).toNat = (D + m) % 256 := by omega
  rw [f1 s 3 (by omega) (by omega), hc3, hix]
  refine ⟨⟨by omega, by omega⟩, fun M4 e4 => ?_⟩
  have f4 : ∀ o j, ¬ (o = s + 3 ∧ j = (D + m) % 256) → M4 o j = M1 o j := fun o j ho => by rw [e4]; simp only [hq_up]; rw [if_neg ho]
  rw [f4 s 3 (by omega), f1 s 3 (by omega) (by omega), hc4, hix, f4 q 1 (by omega), f1 q 1 (by omega) (by omega), hx.1]
  refine ⟨⟨by omega, by omega⟩, fun M8 e8 => ?_⟩
  have f8 : ∀ o j, ¬ (o = s + 4 ∧ j = (D + m) % 256) → M8 o j = M4 o j := fun o j ho => by rw [e8]; simp only [hq_up]; rw [if_neg ho]
  rw [f8 s 3 (by omega), f4 s 3 (by omega), f1 s 3 (by omega) (by omega)]
  refine ⟨⟨by omega, by omega⟩, fun M11 e11 => ?_⟩
  have f11 : ∀ o j, ¬ (o = s ∧ j = 3) → M11 o j = M8 o j := fun o j ho => by rw [e11]; simp only [hq_up]; rw [if_neg ho]
  refine hk M11 (r1.cg (by rw [f11 _ _ (by omega), f8 _ _ (by omega), f4 _ _ (by omega)]) (fun i => by rw [f11 _ _ (by omega), f8 _ _ (by omega), f4 _ _ (by omega)])) ?_ ?_ ?_ (fun o j ho => ?_)
  · rw [e11, up_self]
  · rw [f11 _ _ (by omega), f8 _ _ (by omega), e4, up_self]
  · rw [f11 _ _ (by omega), e8, up_self]
  · rw [f11 _ _ (by omega), f8 _ _ (by omega), f4 _ _ (by omega), f1 _ _ (by omega) (by omega)]
theorem m_sendsOrder {a b : Int} {m w : Nat} {M : hq_M} {xs : List Int} {kk : hq_M → Prop} (hi : In M xs) (hx32 : xs.length ≤ 32) (h43 : M 0 43 = (w : Int)) (h47 : M 0 47 = (m : Int)) (hw : w + xs.length ≤ 200) (hm : m ≤ 200) (hk : ∀ M' : hq_M, M' 0 43 = ((w + xs.length : Nat) : Int) → (∀ i, i < xs.length → M' 24 (w + i) = gd xs i) → (∀ i, i < w → M' 24 i = M 24 i) → M' 25 m = a → M' 27 m = b → M' 26 m = (xs.length : Int) → M' 0 47 = ((m + 1 : Nat) : Int) → (∀ o j, ¬ ((o = 0 ∧ (j = 43 ∨ j = 47)) ∨ o = 24 ∨ ((o = 25 ∨ o = 26 ∨ o = 27) ∧ j = m)) → M' o j = M o j) → kk M') : w_X12_sendsOrder a b M kk := by
  unfold w_X12_sendsOrder
  refine ⟨xs.length + 1, ?_⟩
  have key : ∀ (d i : Nat) (z : Int) (N : hq_M), z = (i : Int) → i + d = xs.length → (∀ j, j < i → N 24 (w + j) = gd xs j) → (∀ j, j < w → N 24 j = M 24 j) → (∀ o j, o ≠ 24 → N o j = M o j) → l_X12_sendsOrder_2 (fun M1 => rg ((M1 0 43) + (M1 0 49)) ∧ ∀ M5 : hq_M, M5 = hq_up M1 0 43 ((M1 0 43) + (M1 0 49)) → (0 ≤ (M5 0 47) ∧ (M5 0 47) < 224) ∧ ∀ M8 : hq_M, M8 = hq_up M5 25 ((M5 0 47).toNat) a → (0 ≤ (M8 0 47) ∧ (M8 0 47) < 224) ∧ ∀ M11 : hq_M, M11 = hq_up M8 27 ((M8 0 47).toNat) b → (0 ≤ (M11 0 47) ∧ (M11 0 47) < 224) ∧ ∀ M15 : hq_M, M15 = hq_up M11 26 ((M11 0 47).toNat) (M11 0 49) → rg ((M15 0 47) + 1) ∧ ∀ M18 : hq_M, M18 = hq_up M15 0 47 ((M15 0 47) + 1) → kk M18) kk (d + 1) z N := by
    intro d
    induction d with
    | zero =>
      intro i z N hz hi2 hlo hold hF
      rw [l_X12_sendsOrder_2, hF 0 49 (by decide), hi.1]
      refine ⟨fun _ => ?_, fun q => by omega⟩
      rw [hF 0 43 (by decide), h43]
      refine ⟨⟨by omega, by omega⟩, fun M5 e5 => ?_⟩
      have f5 : ∀ o j, ¬ (o = 0 ∧ j = 43) → M5 o j = N o j := fun o j ho => by rw [e5]; simp only [hq_up]; rw [if_neg ho]
      have g5 : M5 0 47 = (m : Int) := by rw [f5 _ _ (by omega), hF _ _ (by decide)]; exact h47
      rw [g5, show ((m : Nat) : Int).toNat = m by omega]
      refine ⟨⟨by omega, by omega⟩, fun M8 e8 => ?_⟩
      have f8 : ∀ o j, ¬ (o = 25 ∧ j = m) → M8 o j = M5 o j := fun o j ho => by rw [e8]; simp only [hq_up]; rw [if_neg ho]
      rw [f8 0 47 (by omega), g5, show ((m : Nat) : Int).toNat = m by omega]
      refine ⟨⟨by omega, by omega⟩, fun M11 e11 => ?_⟩
      have f11 : ∀ o j, ¬ (o = 27 ∧ j = m) → M11 o j = M8 o j := fun o j ho => by rw [e11]; simp only [hq_up]; rw [if_neg ho]
      rw [f11 0 47 (by omega), f8 0 47 (by omega), g5, show ((m : Nat) : Int).toNat = m by omega, f11 0 49 (by omega), f8 0 49 (by omega), f5 0 49 (by omega), hF 0 49 (by decide), hi.1]
      refine ⟨⟨by omega, by omega⟩, fun M15 e15 => ?_⟩
      have f15 : ∀ o j, ¬ (o = 26 ∧ j = m) → M15 o j = M11 o j := fun o j ho => by rw [e15]; simp only [hq_up]; rw [if_neg ho]
      rw [f15 0 47 (by omega), f11 0 47 (by omega), f8 0 47 (by omega), g5]
      refine ⟨⟨by omega, by omega⟩, fun M18 e18 => ?_⟩
      have f18 : ∀ o j, ¬ (o = 0 ∧ j = 47) → M18 o j = M15 o j := fun o j ho => by rw [e18]; simp only [hq_up]; rw [if_neg ho]
      refine hk M18 ?_ (fun j hj => ?_) (fun j hj => ?_) ?_ ?_ ?_ ?_ (fun o j ho => ?_)
      · rw [f18 _ _ (by omega), f15 _ _ (by omega), f11 _ _ (by omega), f8 _ _ (by omega), e5, up_self]; omega
      · rw [f18 _ _ (by omega), f15 _ _ (by omega), f11 _ _ (by omega), f8 _ _ (by omega), f5 _ _ (by omega)]; exact hlo j (by omega)
      · rw [f18 _ _ (by omega), f15 _ _ (by omega), f11 _ _ (by omega), f8 _ _ (by omega), f5 _ _ (by omega)]; exact hold j hj
      · rw [f18 _ _ (by omega), f15 _ _ (by omega), f11 _ _ (by omega), e8, up_self]
      · rw [f18 _ _ (by omega), f15 _ _ (by omega), e11, up_self]
      · rw [f18 _ _ (by omega), e15, up_self]
      · rw [e18, up_self]; omega
      · rw [f18 _ _ (by omega), f15 _ _ (by omega), f11 _ _ (by omega), f8 _ _ (by omega), f5 _ _ (by omega), hF _ _ (by omega)]
    | succ d ih =>
      intro i z N hz hi2 hlo hold hF
      rw [l_X12_sendsOrder_2, hF 0 49 (by decide), hi.1, hF 0 43 (by decide), h43, show ((w : Int) + z).toNat = w + i by omega, show z.toNat = i by omega, hF 28 i (by decide), hi.2 i (by omega)]
      refine ⟨fun q => by omega, fun _ => ⟨⟨by omega, by omega⟩, ⟨by omega, by omega⟩, ⟨by omega, by omega⟩, fun M7 e7 => ⟨⟨by omega, by omega⟩, fun x8 e8 => ih (i + 1) x8 M7 (by omega) (by omega) (fun j hj => ?_) (fun j hj => ?_) (fun o j ho => ?_)⟩⟩⟩
      · by_cases q : j = i
        · rw [q, e7, up_self]
        · rw [e7]; simp only [hq_up]; rw [if_neg (by omega)]; exact hlo j (by omega)
      · rw [e7]; simp only [hq_up]; rw [if_neg (by omega)]; exact hold j hj
      · rw [e7]; simp only [hq_up]; rw [if_neg (by omega)]; exact hF o j ho
  exact key _ 0 0 M rfl (by omega) (fun j hj => absurd hj (by omega)) (fun _ _ => rfl) (fun _ _ _ => rfl)
theorem sm_one {f : Nat → Int} {lo n : Nat} (h : ∀ i, lo ≤ i → i < lo + n → 1 ≤ f i) : (n : Int) ≤ sm f lo n := by
  induction n generalizing lo with
  | zero => simp [sm]
  | succ n ih =>
    rw [sm]
    have := h lo (by omega) (by omega)
    have := ih (lo := lo + 1) (fun i h1 h2 => h i (by omega) (by omega))
    omega
theorem SQ.many {C M : hq_M} {s D m : Nat} (h : SQ C M s D m) : m ≤ 200 := by
  have h1 := sm_one (f := fun i => M 26 i) (lo := 0) (n := m) (fun i _ b => h.2.2.2.1 i (by omega))
  have h2 := h.2.2.1
  have := h.2.1.2.1
  omega
theorem SQ.push {C M C' M' : hq_M} {s D m : Nat} {a b d : Int} {xs : List Int} (h : SQ C M s D m) (hx1 : 1 ≤ xs.length) (hroom : M 0 43 + xs.length ≤ 200) (hDm : D + m + 1 ≤ 1000000) (c1 : Rw C' (s + 1) (sg M 24 0 (M 0 43).toNat ++ xs)) (c2 : C' s 3 = ((D + m + 1 : Nat) : Int)) (c3 : C' (s + 3) ((D + m) % 256) = d) (c4 : C' (s + 4) ((D + m) % 256) = (xs.length : Int)) (c5 : C' s 4 = C s 4) (c6 : ∀ j, j ≠ (D + m) % 256 → C' (s + 3) j = C (s + 3) j ∧ C' (s + 4) j = C (s + 4) j) (m1 : M' 0 43 = M 0 43 + xs.length) (m2 : ∀ i, i < xs.length → M' 24 ((M 0 43).toNat + i) = gd xs i) (m3 : ∀ i, i < (M 0 43).toNat → M' 24 i = M 24 i) (m4 : M' 25 m = a) (m5 : M' 27 m = b) (m6 : M' 26 m = (xs.length : Int)) (m7 : M' 0 47 = ((m + 1 : Nat) : Int)) (m8 : ∀ o j, (o = 25 ∨ o = 26 ∨ o = 27) ∧ j < m → M' o j = M o j) (m9 : M' 0 0 = M 0 0) (hab : (a = 0 ∧ 0 ≤ b ∧ b ≤ 200 ∧ d = -1 - b) ∨ (a = 1 ∧ 0 ≤ b ∧ b < M 0 0 ∧ d = b)) : SQ C' M' s D (m + 1) := by
  have hm := h.many
  obtain ⟨⟨h4, h3, h47, hb⟩, ⟨g1, g2, g3⟩, hsm, hone, hent, hcaps⟩ := h
  unfold SQ
  rw [c5, c2, m7, m1, m9]
  refine ⟨⟨h4, by omega, rfl, by omega⟩, ⟨by omega, by omega, ?_⟩, ?_, fun i hi => ?_, fun i hi => ?_, hcaps⟩
  · have : sg M' 24 0 (M 0 43 + xs.length).toNat = sg M 24 0 (M 0 43).toNat ++ xs := by
      refine sg_iff (by rw [List.length_append, sg_len]; omega) (fun i hi => ?_)
      rw [Nat.zero_add]
      by_cases q : i < (M 0 43).toNat
      · rw [m3 i q, gd_left (by rw [sg_len]; exact q), sg_gd q, Nat.zero_add]
      · obtain ⟨j, rfl⟩ := Nat.exists_eq_add_of_le (Nat.not_lt.mp q)
        rw [m2 j (by omega)]
        have := gd_right (xs := sg M 24 0 (M 0 43).toNat) (ys := xs) (i := j)
        rw [sg_len] at this
        exact this.symm
    rw [this]
    exact c1
  · rw [sm_snoc, Nat.zero_add, m6, hsm, sm_cg (g := fun i => M' 26 i) (fun i _ hi => (m8 26 i (by omega)).symm)]
  · by_cases q : i = m
    · rw [q, m6]; omega
    · rw [m8 26 i (by omega)]; exact hone i (by omega)
  · by_cases q : i = m
    · rw [q, c3, c4, m4, m5, m6]
      exact ⟨rfl, hab⟩
    · obtain ⟨a1, a2⟩ := c6 ((D + i) % 256) (by omega)
      rw [a1, a2, m8 25 i (by omega), m8 26 i (by omega), m8 27 i (by omega)]
      exact hent i (by omega)
theorem DE.push {M M' : hq_M} {m : Nat} {a b : Int} (h : DE M) (h47 : M 0 47 = (m : Int)) (m7 : M' 0 47 = ((m + 1 : Nat) : Int)) (m4 : M' 25 m = a) (m5 : M' 27 m = b) (m8 : ∀ o j, (o = 25 ∨ o = 27) ∧ j < m → M' o j = M o j) (hs : ∀ o j, o = 1 ∨ o = 2 → M' o j = M o j) (h81 : M' 8 1 = M 8 1) (h61 : M' 6 1 = M 6 1) (hab : (a = 0 ∧ M' 8 0 = b ∧ M' 6 0 = M 6 0) ∨ (a = 1 ∧ M' 8 0 = M 8 0 ∧ M' 6 0 = M 6 0 + 1 ∧ sz M b.toNat ≤ M 8 0)) : DE M' := by
  obtain ⟨h1, h2, h3⟩ := h
  rw [h47, show ((m : Nat) : Int).toNat = m by omega] at h1 h2 h3
  have ec : ∀ n, n ≤ m → cpf M' (M 8 1) n = cpf M (M 8 1) n := fun n hn => cpf_cg (fun o j ho => m8 o j (by omega))
  have ez : ∀ f, sz M' f = sz M f := fun f => by unfold sz; rw [hs 1 f (.inl rfl), hs 2 f (.inr rfl)]
  unfold DE
  rw [m7, h81, h61, show ((m + 1 : Nat) : Int).toNat = m + 1 by omega]
  refine ⟨?_, fun i hi h25 => ?_, ?_⟩
  · rw [cpf, m4, m5, ec m (Nat.le_refl _), h1]
    rcases hab with ⟨e1, e2, e3⟩ | ⟨e1, e2, e3, e4⟩
    · rw [if_pos e1, e2]
    · rw [if_neg (by omega), e2]
  · by_cases q : i = m
    · subst q
      rw [m5, ez, ec i (Nat.le_refl _), h1]
      rw [m4] at h25
      rcases hab with ⟨e1, e2, e3⟩ | ⟨e1, e2, e3, e4⟩
      · omega
      · exact e4
    · rw [m8 27 i (by omega), ez, ec i (by omega)]
      rw [m8 25 i (by omega)] at h25
      exact h2 i (by omega) h25
  · rw [cn, m4, cn_cg (Q := fun i => decide (M 25 i = 1)) (fun i hi => by rw [m8 25 i (by omega)])]
    rcases hab with ⟨e1, e2, e3⟩ | ⟨e1, e2, e3, e4⟩
    · rw [e3, if_neg (by simp; omega)]; exact h3
    · rw [e3, if_pos (by simp; exact e1)]; omega
