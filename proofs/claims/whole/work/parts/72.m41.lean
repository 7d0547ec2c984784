/-! ===== the mathematics, part 41: tells, all items, both sides ===== -/
theorem FCp.tr {o : Nat} {C1 C2 C3 : hq_M} (h : FCp o C1 C2) (g : FCp o C2 C3) : FCp o C1 C3 := fun q j hq => (g q j hq).trans (h q j hq)
theorem FMp.rf (M : hq_M) : FMp M M := fun _ _ _ => rfl
theorem reads_loop {T : List Int} {o : Nat} (ho : o = 8 ∨ o = 88) {kc : Int → hq_M → Prop} (d : Nat) : ∀ (i : Nat) (z : Int) (C : hq_M) (mt bd : Int) (nF nS b e : Nat) (a v sa sv : Nat → List Int), z = (i : Int) → T.length ≤ b + d → i ≤ b → PCs T o C mt bd nF a v nS sa sv (i : Int) b e → OKs T mt bd nF nS b e →
    (∀ (bf : Nat) (C' : hq_M), C' 7 4 = (bf : Int) → bf ≤ T.length → FCp o C C' → (∀ M, PMs T M mt bd nF a v nS sa sv (i : Int) b e → ∀ k : Int → hq_M → Prop, (∀ M', M' 0 11 = (bf : Int) → Lo6 M' → FMp M M' → k 0 M') → l_X12_reads_36 k (d + 1) M) → kc 0 C') →
    (∀ mt' bd' nF' a' v' nS' sa' sv' it' b' e' C', OKs T mt' bd' nF' nS' b' e' → PCs T o C' mt' bd' nF' a' v' nS' sa' sv' it' b' e' → FCp o C C' → (∀ M, PMs T M mt bd nF a v nS sa sv (i : Int) b e → ∀ k : Int → hq_M → Prop, (∀ M', PMs T M' mt' bd' nF' a' v' nS' sa' sv' it' b' e' → FMp M M' → k 1 M') → l_X12_reads_36 k (d + 1) M) → kc 1 C') →
    l_X4_reads_30 o (fun M7 => ((M7 7 4) < (M7 1 1) → kc 0 M7) ∧ (¬ (M7 7 4) < (M7 1 1) → kc 1 M7)) kc (d + 1) z C := by
  induction d with
  | zero =>
    intro i z C mt bd nF nS b e a v sa sv hz hd hib hP hO fail succ
    have hb := hO.2.2.2.2.1
    have he := hO.2.2.2.2.2.1
    have hl := hO.2.2.2.2.2.2.2
    have hbn : b = T.length := by omega
    have h1 := hP.1.1
    have h4 := hP.2.2.2.2.2.1
    have k77 : ((C 7 4) < (C 1 1) → kc 0 C) ∧ (¬ (C 7 4) < (C 1 1) → kc 1 C) := by
      refine ⟨fun q => by omega, fun _ => succ mt bd nF a v nS sa sv (i : Int) b e C hO hP (fun _ _ _ => rfl) (fun M hM k hk => ?_)⟩
      rw [l_X12_reads_36, hM.2.1.2.2]
      refine ⟨fun _ => hk M hM (FMp.rf M), fun q => absurd ?_ q⟩
      unfold tkn
      rw [if_pos hbn]
    rw [l_X4_reads_30]
    exact ⟨fun _ => k77, fun _ => ⟨fun _ => k77, fun q => by omega⟩⟩
  | succ d ih =>
    intro i z C mt bd nF nS b e a v sa sv hz hd hib hP hO fail succ
    have hb := hO.2.2.2.2.1
    have he := hO.2.2.2.2.2.1
    have hl := hO.2.2.2.2.2.2.2
    have h1 := hP.1.1
    have h4 := hP.2.2.2.2.2.1
    rw [l_X4_reads_30]
    by_cases hbn : b = T.length
    · have k77 : ((C 7 4) < (C 1 1) → kc 0 C) ∧ (¬ (C 7 4) < (C 1 1) → kc 1 C) := by
        refine ⟨fun q => by omega, fun _ => succ mt bd nF a v nS sa sv (i : Int) b e C hO hP (fun _ _ _ => rfl) (fun M hM k hk => ?_)⟩
        rw [l_X12_reads_36, hM.2.1.2.2]
        refine ⟨fun _ => hk M hM (FMp.rf M), fun q => absurd ?_ q⟩
        unfold tkn
        rw [if_pos hbn]
      exact ⟨fun _ => k77, fun _ => ⟨fun _ => k77, fun q => by omega⟩⟩
    · have open1 : ∀ (M : hq_M) (k : Int → hq_M → Prop), TkM T M b e → mIt (fun M4 => rg ((M4 0 13) + 1) ∧ ∀ M8 : hq_M, M8 = hq_up M4 0 13 ((M4 0 13) + 1) → l_X12_reads_36 k (d + 1) M8) (fun M2 => k 0 M2) M → l_X12_reads_36 k (d + 1 + 1) M := by
        intro M k hk hm
        rw [l_X12_reads_36, hk.2.2]
        refine ⟨fun q => ?_, fun _ => hm⟩
        exfalso
        unfold tkn at q
        rw [if_neg hbn] at q
        split at q
        · omega
        · split at q <;> omega
      refine ⟨fun q => by omega, fun _ => ⟨fun q => by omega, fun _ => ?_⟩⟩
      refine item_sim hP hO ho (fun bf C' h74 hbf fC hre => ⟨fun e => absurd rfl e, fun _ => fail bf C' h74 hbf fC (fun M hM k hk => open1 M k hM.2.1 (hre M hM _ _ (fun M' a1 a2 a3 => hk M' a1 a2 a3)))⟩) (fun mt' bd' nF' a' v' nS' sa' sv' b' e' C' hO' hlt hP' fC hre => ⟨fun _ => ?_, fun e => absurd e (by decide)⟩)
      have hl' := hO'.2.2.2.2.1
      have he' := hO'.2.2.2.2.2.1
      obtain ⟨p1, ⟨p2, p3, p4, p5⟩, p6, p7, p8, p9, p10⟩ := hP'
      rw [p8]
      refine ⟨⟨by omega, by omega⟩, fun C7 e7 => ⟨⟨by omega, by omega⟩, fun x8 e8 => ?_⟩⟩
      have f7 : ∀ q j, ¬ (q = 7 ∧ j = 3) → C7 q j = C' q j := fun q j hq => by rw [e7]; simp only [hq_up]; rw [if_neg hq]
      have s7 : C7 7 3 = ((i + 1 : Nat) : Int) := by rw [e7, up_self]; omega
      have o7 : FCp o C C7 := fun q j hq => by rw [f7 _ _ (by omega)]; exact fC q j hq
      have nxt : ∀ (k : Int → hq_M → Prop) (M4 : hq_M), PMs T M4 mt' bd' nF' a' v' nS' sa' sv' (i : Int) b' e' → (∀ M8, PMs T M8 mt' bd' nF' a' v' nS' sa' sv' ((i + 1 : Nat) : Int) b' e' → FMp M4 M8 → l_X12_reads_36 k (d + 1) M8) → rg ((M4 0 13) + 1) ∧ ∀ M8 : hq_M, M8 = hq_up M4 0 13 ((M4 0 13) + 1) → l_X12_reads_36 k (d + 1) M8 := by
        intro k M4 hM4 hk
        obtain ⟨q1, q2, ⟨q3, q4, q5, q6, q7⟩, q8, q9, q10⟩ := hM4
        rw [q7]
        refine ⟨⟨by omega, by omega⟩, fun M8 e8' => hk M8 ?_ (fun q j hq => by rw [e8', hq_up_n _ _ (by omega)])⟩
        have g8 : ∀ q j, ¬ (q = 0 ∧ j = 13) → M8 q j = M4 q j := fun q j hq => by rw [e8']; simp only [hq_up]; rw [if_neg hq]
        refine ⟨q1.cg (fun q j hq => g8 _ _ (by omega)), q2.cg (fun q j hq => g8 _ _ (by omega)), ⟨by rw [g8 _ _ (by omega)]; exact q3, by rw [g8 _ _ (by omega)]; exact q4, by rw [g8 _ _ (by omega)]; exact q5, by rw [g8 _ _ (by omega)]; exact q6, by rw [e8', up_self]; omega⟩, fun i hi => ?_, fun i hi => ?_, q10.hi (fun q j hq => g8 _ _ (by omega))⟩
        · rw [nm_cg (M := M4) (g8 _ _ (by omega)) (fun j => g8 _ _ (by omega)), vl_cg (M := M4) (g8 _ _ (by omega)) (fun j => g8 _ _ (by omega))]
          exact q8 i hi
        · rw [nm_cg (M := M4) (g8 _ _ (by omega)) (fun j => g8 _ _ (by omega)), vl_cg (M := M4) (g8 _ _ (by omega)) (fun j => g8 _ _ (by omega))]
          exact q9 i hi
      refine ih (i + 1) x8 C7 mt' bd' nF' nS' b' e' a' v' sa' sv' (by omega) (by omega) (by omega) ⟨p1.cg (f7 _ _ (by omega)) (fun j => f7 _ _ (by omega)), ⟨by rw [f7 _ _ (by omega)]; exact p2, by rw [f7 _ _ (by omega)]; exact p3, by rw [f7 _ _ (by omega)]; exact p4, by rw [f7 _ _ (by omega)]; exact p5⟩, p6.stay (by have := hO'.2.2.1; omega) (f7 _ _ (by omega)) (fun q j h1 h2 => f7 _ _ (by omega)), p7.stay (by have := hO'.2.2.2.1; omega) (f7 _ _ (by omega)) (fun q j h1 h2 => f7 _ _ (by omega)), s7, by rw [f7 _ _ (by omega)]; exact p9, by rw [f7 _ _ (by omega)]; exact p10⟩ hO' (fun bf C'' h74 hbf fC' hre' => fail bf C'' h74 hbf (o7.tr fC') (fun M hM k hk => open1 M k hM.2.1 (hre M hM _ _ (fun M4 hM4 fM4 => nxt k M4 hM4 (fun M8 hM8 fM8 => hre' M8 hM8 k (fun M' a1 a2 a3 => hk M' a1 a2 (fM4.tr (fM8.tr a3)))))))) (fun mt2 bd2 nF2 a2 v2 nS2 sa2 sv2 it2 b2 e2 C'' hO2 hP2 fC' hre' => succ mt2 bd2 nF2 a2 v2 nS2 sa2 sv2 it2 b2 e2 C'' hO2 hP2 (o7.tr fC') (fun M hM k hk => open1 M k hM.2.1 (hre M hM _ _ (fun M4 hM4 fM4 => nxt k M4 hM4 (fun M8 hM8 fM8 => hre' M8 hM8 k (fun M' a1 a3 => hk M' a1 (fM4.tr (fM8.tr a3))))))))
theorem reads_sim {T : List Int} {o : Nat} {C : hq_M} {kc : Int → hq_M → Prop} (ho : o = 8 ∨ o = 88) (hT : Rw C 1 T) (hl : T.length ≤ 200)
    (fail : ∀ (bf : Nat) (C' : hq_M), C' 7 4 = (bf : Int) → bf ≤ T.length → FCp o C C' → (∀ M, TxM T M → Lo6 M → ∀ k : Int → hq_M → Prop, (∀ M', M' 0 11 = (bf : Int) → Lo6 M' → FMp M M' → k 0 M') → w_X12_reads M k) → kc 0 C')
    (succ : ∀ mt' bd' nF' a' v' nS' sa' sv' it' b' e' C', OKs T mt' bd' nF' nS' b' e' → PCs T o C' mt' bd' nF' a' v' nS' sa' sv' it' b' e' → FCp o C C' → (∀ M, TxM T M → Lo6 M → ∀ k : Int → hq_M → Prop, (∀ M', PMs T M' mt' bd' nF' a' v' nS' sa' sv' it' b' e' → FMp M M' → k 1 M') → w_X12_reads M k) → kc 1 C') : w_X4_reads o C kc := by
  unfold w_X4_reads w_X7_restart
  intro A1 e1 A2 e2 A3 e3 A4 e4 B2 b2 B3 b3 B4 b4 B5 b5
  have g : ∀ q j, ¬ ((q = o + 1 ∧ j = 1) ∨ (q = o + 38 ∧ j = 1) ∨ (q = o ∧ (j = 2 ∨ j = 3)) ∨ (q = 7 ∧ (j = 1 ∨ j = 2 ∨ j = 3 ∨ j = 5))) → B5 q j = C q j := fun q j hq => by rw [b5, hq_up_n _ _ (by omega), b4, hq_up_n _ _ (by omega), b3, hq_up_n _ _ (by omega), b2, hq_up_n _ _ (by omega), e4, hq_up_n _ _ (by omega), e3, hq_up_n _ _ (by omega), e2, hq_up_n _ _ (by omega), e1, hq_up_n _ _ (by omega)]
  have s5 : B5 7 5 = 0 := by rw [b5, up_self]
  have s3 : B5 7 3 = 0 := by rw [b5, hq_up_n _ _ (by omega), b4, up_self]
  have s2 : B5 7 2 = 0 := by rw [b5, hq_up_n _ _ (by omega), b4, hq_up_n _ _ (by omega), b3, up_self]
  have s1 : B5 7 1 = 0 := by rw [b5, hq_up_n _ _ (by omega), b4, hq_up_n _ _ (by omega), b3, hq_up_n _ _ (by omega), b2, up_self]
  have t3 : B5 o 3 = 2 := by rw [b5, hq_up_n _ _ (by omega), b4, hq_up_n _ _ (by omega), b3, hq_up_n _ _ (by omega), b2, hq_up_n _ _ (by omega), e4, up_self]
  have t2 : B5 o 2 = 60 := by rw [b5, hq_up_n _ _ (by omega), b4, hq_up_n _ _ (by omega), b3, hq_up_n _ _ (by omega), b2, hq_up_n _ _ (by omega), e4, hq_up_n _ _ (by omega), e3, up_self]
  have u38 : B5 (o + 38) 1 = 0 := by rw [b5, hq_up_n _ _ (by omega), b4, hq_up_n _ _ (by omega), b3, hq_up_n _ _ (by omega), b2, hq_up_n _ _ (by omega), e4, hq_up_n _ _ (by omega), e3, hq_up_n _ _ (by omega), e2, up_self]
  have u1 : B5 (o + 1) 1 = 0 := by rw [b5, hq_up_n _ _ (by omega), b4, hq_up_n _ _ (by omega), b3, hq_up_n _ _ (by omega), b2, hq_up_n _ _ (by omega), e4, hq_up_n _ _ (by omega), e3, hq_up_n _ _ (by omega), e2, hq_up_n _ _ (by omega), e1, up_self]
  have hT5 : Rw B5 1 T := hT.cg (g _ _ (by omega)) (fun j => g _ _ (by omega))
  refine x4_advance (p := 0) hT5 hl s5 (by omega) (fun b e C6 hN k4 k5 f6 => ?_)
  have hb := hN.bd
  have oC : FCp o C C6 := fun q j hq => by rw [f6 _ _ (by omega), g _ _ (by omega)]
  have hPC : PCs T o C6 (-9) (-9) 0 (fun _ => []) (fun _ => []) 0 (fun _ => []) (fun _ => []) ((0 : Nat) : Int) b e := ⟨hT5.cg (f6 _ _ (by omega)) (fun j => f6 _ _ (by omega)), ⟨by rw [f6 _ _ (by omega), s1]; rfl, by rw [f6 _ _ (by omega), s2]; rfl, by rw [f6 _ _ (by omega), t2]; rfl, by rw [f6 _ _ (by omega), t3]; rfl⟩, ⟨by rw [f6 _ _ (by omega), u1]; rfl, fun i hi => absurd hi (by omega)⟩, ⟨by rw [f6 _ _ (by omega), u38]; rfl, fun i hi => absurd hi (by omega)⟩, by rw [f6 _ _ (by omega), s3]; rfl, k4, k5⟩
  have hOK : OKs T (-9) (-9) 0 0 b e := ⟨.inl rfl, .inl rfl, by omega, by omega, hb.2.1, hb.2.2, hN.2, hl⟩
  have start : ∀ M, TxM T M → Lo6 M → ∀ k : Int → hq_M → Prop, (∀ M', PMs T M' (-9) (-9) 0 (fun _ => []) (fun _ => []) 0 (fun _ => []) (fun _ => []) ((0 : Nat) : Int) b e → FMp M M' → l_X12_reads_36 k (T.length - b + 1) M') → w_X12_reads M k := by
    intro M hTM hLM k hk
    unfold w_X12_reads
    intro M1 m1 M2 m2 M3 m3 M4 m4 M5 m5 M6 m6
    have h : ∀ q j, ¬ (q = 0 ∧ (j = 10 ∨ (13 ≤ j ∧ j ≤ 17))) → M6 q j = M q j := fun q j hq => by rw [m6, hq_up_n _ _ (by omega), m5, hq_up_n _ _ (by omega), m4, hq_up_n _ _ (by omega), m3, hq_up_n _ _ (by omega), m2, hq_up_n _ _ (by omega), m1, hq_up_n _ _ (by omega)]
    have T6 : TxM T M6 := hTM.cg (fun q j hq => h _ _ (by omega))
    refine m_take (p := 0) T6 (by rw [m6, hq_up_n _ _ (by omega), m5, hq_up_n _ _ (by omega), m4, hq_up_n _ _ (by omega), m3, hq_up_n _ _ (by omega), m2, hq_up_n _ _ (by omega), m1, up_self]; rfl) hN (fun M7 t7 g7 => ⟨T.length - b + 1, hk M7 ⟨T6.cg (fun q j hq => g7 _ _ (by omega)), t7, ⟨?_, ?_, ?_, ?_, ?_⟩, fun i hi => absurd hi (by omega), fun i hi => absurd hi (by omega), hLM.hi (fun q j hq => by rw [g7 _ _ (by omega), h _ _ (by omega)])⟩ (fun q j hq => by rw [g7 _ _ (by omega), h _ _ (by omega)])⟩)
    · rw [g7 _ _ (by omega), m6, hq_up_n _ _ (by omega), m5, up_self]
    · rw [g7 _ _ (by omega), m6, up_self]
    · rw [g7 _ _ (by omega), m6, hq_up_n _ _ (by omega), m5, hq_up_n _ _ (by omega), m4, hq_up_n _ _ (by omega), m3, up_self]; rfl
    · rw [g7 _ _ (by omega), m6, hq_up_n _ _ (by omega), m5, hq_up_n _ _ (by omega), m4, up_self]; rfl
    · rw [g7 _ _ (by omega), m6, hq_up_n _ _ (by omega), m5, hq_up_n _ _ (by omega), m4, hq_up_n _ _ (by omega), m3, hq_up_n _ _ (by omega), m2, up_self]; rfl
  refine ⟨T.length - b + 1, reads_loop ho (T.length - b) 0 0 C6 (-9) (-9) 0 0 b e _ _ _ _ rfl (by omega) (by omega) hPC hOK (fun bf C' h74 hbf fC hre => fail bf C' h74 hbf (oC.tr fC) (fun M hTM hLM k hk => start M hTM hLM k (fun M' hM' fM' => hre M' hM' k (fun M'' a1 a2 a3 => hk M'' a1 a2 (fM'.tr a3))))) (fun mt' bd' nF' a' v' nS' sa' sv' it' b' e' C' hO' hP' fC hre => succ mt' bd' nF' a' v' nS' sa' sv' it' b' e' C' hO' hP' (oC.tr fC) (fun M hTM hLM k hk => start M hTM hLM k (fun M' hM' fM' => hre M' hM' k (fun M'' a1 a3 => hk M'' a1 (fM'.tr a3)))))⟩
