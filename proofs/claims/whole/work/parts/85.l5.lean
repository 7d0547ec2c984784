/-! ===== the law: its loop, its start ===== -/
section LAWE
variable {p : Program} {l : Launch} {e : Env} {s : State} {m : MethodId} {below : List Frame} {meth : Method} {c : Code}
variable {b : Nat} {D : va_G} {cA : Nat → ClassId} {hqS hqV : Nat → Nat} {B L : Nat} {xs : Nat → Int32}
theorem l_exit {H : Heap} {locs : List Loc} {ls : Array Slot} (LC : l_C p m c s b meth D cA hqS hqV B) (hB : s.heap.size = B) (hloc : ∀ q ∈ locs, B ≤ q.base) : W p l e room_1 s m #[Value.ref b] below meth c H locs 444 15984 (lw_Z below #[Value.ref b] s) (F0 m 845 ls []) := by
  refine va_forget (fun q hq => by rw [hB]; exact hloc q hq) ?_
  refine hq_iconst LC dL_law_845 ?_
  refine W.widen (k := 600000) (n := 7302250) (by decide) (by decide) ?_
  exact lw_ret LC.1.1 LC.1.2.1 LC.2.1 LC.2.2.1 dL_law_846
set_option maxHeartbeats 4000000 in
theorem l_op {H : Heap} {locs : List Loc} {ls : Array Slot} {Q : State → Prop} {C M : hq_M} {i u : Nat} {v : Int} (LC : l_C p m c s b meth D cA hqS hqV B) (h : l_S D cA B C M s.heap H locs) (hJ : JJ u C M) (hu : 8 * u + 8 ≤ 800000) (hX : va_X b L xs s s.heap) (hb : b < s.heap.size ∧ b < B) (hl : lv_has ls 4 [(3, .int (w3 (i : Int))), (2, .ref (B + 410 + 0)), (1, .ref (B + 0)), (0, .ref b)]) (hi : i + 4 < L) (hL : L ≤ 2560) (hv : 0 ≤ v ∧ v < 32)
    (kk : ∀ (C1 M1 : hq_M) (H1 : Heap) (locs1 : List Loc), JJ (u + 1) C1 M1 → l_S D cA B C1 M1 s.heap H1 locs1 → W p l e room_1 s m #[Value.ref b] below meth c H1 locs1 444 15984 Q (F0 m 839 ls [])) : W p l e room_1 s m #[Value.ref b] below meth c H locs 444 15984 Q (F0 m 32 ls [.int (w3 v)]) := by
  have rv : rg v := ⟨by omega, by omega⟩
  by_cases h26 : 26 < v
  · exact hq_tabOut (tgt := 839) LC rv dL_law_32 (Or.inr h26) rfl (kk _ _ _ _ (hJ.mono (by omega)) h)
  by_cases q0 : v = 0
  · exact hq_tabIn (tgt := 156) 0 (by decide) LC q0 dL_law_32 (by decide) (by decide) rfl rfl (l_k0 LC h hJ hu hX hb hl hi hL kk)
  by_cases q1 : v = 1
  · exact hq_tabIn (tgt := 179) 1 (by decide) LC q1 dL_law_32 (by decide) (by decide) rfl rfl (l_k1 LC h hJ hu hX hb hl hi hL kk)
  by_cases q2 : v = 2
  · exact hq_tabIn (tgt := 192) 2 (by decide) LC q2 dL_law_32 (by decide) (by decide) rfl rfl (l_k2 LC h hJ hu hX hb hl hi hL kk)
  by_cases q3 : v = 3
  · exact hq_tabIn (tgt := 205) 3 (by decide) LC q3 dL_law_32 (by decide) (by decide) rfl rfl (l_k3 LC h hJ hu hX hb hl hi hL kk)
  by_cases q4 : v = 4
  · exact hq_tabIn (tgt := 258) 4 (by decide) LC q4 dL_law_32 (by decide) (by decide) rfl rfl (l_k4 LC h hJ hu hX hb hl hi hL kk)
  by_cases q5 : v = 5
  · exact hq_tabIn (tgt := 281) 5 (by decide) LC q5 dL_law_32 (by decide) (by decide) rfl rfl (l_k5 LC h hJ hu hX hb hl hi hL kk)
  by_cases q6 : v = 6
  · exact hq_tabIn (tgt := 304) 6 (by decide) LC q6 dL_law_32 (by decide) (by decide) rfl rfl (l_k6 LC h hJ hu hX hb hl hi hL kk)
  by_cases q7 : v = 7
  · exact hq_tabIn (tgt := 327) 7 (by decide) LC q7 dL_law_32 (by decide) (by decide) rfl rfl (l_k7 LC h hJ hu hX hb hl hi hL kk)
  by_cases q8 : v = 8
  · exact hq_tabIn (tgt := 350) 8 (by decide) LC q8 dL_law_32 (by decide) (by decide) rfl rfl (l_k8 LC h hJ hu hX hb hl hi hL kk)
  by_cases q9 : v = 9
  · exact hq_tabIn (tgt := 363) 9 (by decide) LC q9 dL_law_32 (by decide) (by decide) rfl rfl (l_k9 LC h hJ hu hX hb hl hi hL kk)
  by_cases q10 : v = 10
  · exact hq_tabIn (tgt := 386) 10 (by decide) LC q10 dL_law_32 (by decide) (by decide) rfl rfl (l_k10 LC h hJ hu hX hb hl hi hL kk)
  by_cases q11 : v = 11
  · exact hq_tabIn (tgt := 409) 11 (by decide) LC q11 dL_law_32 (by decide) (by decide) rfl rfl (l_k11 LC h hJ hu hX hb hl hi hL kk)
  by_cases q12 : v = 12
  · exact hq_tabIn (tgt := 422) 12 (by decide) LC q12 dL_law_32 (by decide) (by decide) rfl rfl (l_k12 LC h hJ hu hX hb hl hi hL kk)
  by_cases q13 : v = 13
  · exact hq_tabIn (tgt := 445) 13 (by decide) LC q13 dL_law_32 (by decide) (by decide) rfl rfl (l_k13 LC h hJ hu hX hb hl hi hL kk)
  by_cases q14 : v = 14
  · exact hq_tabIn (tgt := 478) 14 (by decide) LC q14 dL_law_32 (by decide) (by decide) rfl rfl (l_k14 LC h hJ hu hX hb hl hi hL kk)
  by_cases q15 : v = 15
  · exact hq_tabIn (tgt := 501) 15 (by decide) LC q15 dL_law_32 (by decide) (by decide) rfl rfl (l_k15 LC h hJ hu hX hb hl hi hL kk)
  by_cases q16 : v = 16
  · exact hq_tabIn (tgt := 514) 16 (by decide) LC q16 dL_law_32 (by decide) (by decide) rfl rfl (l_k16 LC h hJ hu hX hb hl hi hL kk)
  by_cases q17 : v = 17
  · exact hq_tabIn (tgt := 537) 17 (by decide) LC q17 dL_law_32 (by decide) (by decide) rfl rfl (l_k17 LC h hJ hu hX hb hl hi hL kk)
  by_cases q18 : v = 18
  · exact hq_tabIn (tgt := 570) 18 (by decide) LC q18 dL_law_32 (by decide) (by decide) rfl rfl (l_k18 LC h hJ hu hX hb hl hi hL kk)
  by_cases q19 : v = 19
  · exact hq_tabIn (tgt := 613) 19 (by decide) LC q19 dL_law_32 (by decide) (by decide) rfl rfl (l_k19 LC h hJ hu hX hb hl hi hL kk)
  by_cases q20 : v = 20
  · exact hq_tabIn (tgt := 637) 20 (by decide) LC q20 dL_law_32 (by decide) (by decide) rfl rfl (l_k20 LC h hJ hu hX hb hl hi hL kk)
  by_cases q21 : v = 21
  · exact hq_tabIn (tgt := 670) 21 (by decide) LC q21 dL_law_32 (by decide) (by decide) rfl rfl (l_k21 LC h hJ hu hX hb hl hi hL kk)
  by_cases q22 : v = 22
  · exact hq_tabIn (tgt := 703) 22 (by decide) LC q22 dL_law_32 (by decide) (by decide) rfl rfl (l_k22 LC h hJ hu hX hb hl hi hL kk)
  by_cases q23 : v = 23
  · exact hq_tabIn (tgt := 726) 23 (by decide) LC q23 dL_law_32 (by decide) (by decide) rfl rfl (l_k23 LC h hJ hu hX hb hl hi hL kk)
  by_cases q24 : v = 24
  · exact hq_tabIn (tgt := 759) 24 (by decide) LC q24 dL_law_32 (by decide) (by decide) rfl rfl (l_k24 LC h hJ hu hX hb hl hi hL kk)
  by_cases q25 : v = 25
  · exact hq_tabIn (tgt := 793) 25 (by decide) LC q25 dL_law_32 (by decide) (by decide) rfl rfl (l_k25 LC h hJ hu hX hb hl hi hL kk)
  by_cases q26 : v = 26
  · exact hq_tabIn (tgt := 816) 26 (by decide) LC q26 dL_law_32 (by decide) (by decide) rfl rfl (l_k26 LC h hJ hu hX hb hl hi hL kk)
  exfalso
  omega
set_option maxHeartbeats 4000000 in
theorem l_loop (LC : l_C p m c s b meth D cA hqS hqV B) (hB : s.heap.size = B) (hX : va_X b L xs s s.heap) (hb : b < s.heap.size ∧ b < B) (hL : L ≤ 2560) : ∀ (d i u : Nat) (C M : hq_M) (H : Heap) (locs : List Loc) (ls : Array Slot), L ≤ i + 5 * d + 4 → 5 * u ≤ i → i ≤ 2565 → JJ u C M → l_S D cA B C M s.heap H locs → lv_has ls 4 [(3, .int (w3 (i : Int))), (2, .ref (B + 410 + 0)), (1, .ref (B + 0)), (0, .ref b)] → W p l e room_1 s m #[Value.ref b] below meth c H locs 444 15984 (lw_Z below #[Value.ref b] s) (F0 m 18 ls []) := by
  intro d
  induction d with
  | zero =>
    intro i u C M H locs ls hd hu hi hJ h hl
    refine lv_iload_n LC.1.1 LC.1.2.1 dL_law_18 rfl (lv_at hl 0 rfl) ?_
    refine lv_aload_n LC.1.1 LC.1.2.1 dL_law_19 rfl (lv_at hl 3 rfl) ?_
    refine va_slen LC.1.1 LC.1.2.1 hX hb.1 (fun e => by have : B ≤ b := e; omega) h.2.2.2.2 dL_law_20 ?_
    rw [show Int32.ofNat L = w3 (L : Int) from rfl]
    refine hq_iconst LC dL_law_21 ?_
    refine hq_isub LC dL_law_22 ?_
    exact hq_icmp_gt (tgt := 845) LC ⟨by omega, by omega⟩ ⟨by omega, by omega⟩ dL_law_23 rfl (fun _ => l_exit LC hB h.2.2.2.2.2.2) (fun hn => absurd (by omega) hn)
  | succ d ih =>
    intro i u C M H locs ls hd hu hi hJ h hl
    refine lv_iload_n LC.1.1 LC.1.2.1 dL_law_18 rfl (lv_at hl 0 rfl) ?_
    refine lv_aload_n LC.1.1 LC.1.2.1 dL_law_19 rfl (lv_at hl 3 rfl) ?_
    refine va_slen LC.1.1 LC.1.2.1 hX hb.1 (fun e => by have : B ≤ b := e; omega) h.2.2.2.2 dL_law_20 ?_
    rw [show Int32.ofNat L = w3 (L : Int) from rfl]
    refine hq_iconst LC dL_law_21 ?_
    refine hq_isub LC dL_law_22 ?_
    refine hq_icmp_gt (tgt := 845) LC ⟨by omega, by omega⟩ ⟨by omega, by omega⟩ dL_law_23 rfl (fun _ => l_exit LC hB h.2.2.2.2.2.2) (fun hn => ?_)
    have hi4 : i + 4 < L := by omega
    refine lv_aload_n LC.1.1 LC.1.2.1 dL_law_26 rfl (lv_at hl 3 rfl) ?_
    refine lv_iload_n LC.1.1 LC.1.2.1 dL_law_27 rfl (lv_at hl 0 rfl) ?_
    have hr : rg (i : Int) := ⟨by omega, by omega⟩
    refine va_sld LC.1.1 LC.1.2.1 hX hb.1 (fun e => by have : B ≤ b := e; omega) h.2.2.2.2 (w3_in hr (by omega) (by omega)) dL_law_28 ?_
    rw [← w3_of (xs (w3 (i : Int)).toNatClampNeg)]
    refine hq_bipush LC dL_law_29 (by decide) ?_
    refine hq_iand (n := 32) 5 LC ⟨by decide, by decide, by decide⟩ (w3_rg _) dL_law_31 ?_
    refine l_op LC h hJ (by omega) hX hb hl hi4 hL ⟨Int.emod_nonneg _ (by decide), Int.emod_lt_of_pos _ (by decide)⟩ (fun C1 M1 H1 locs1 hJ1 h1 => ?_)
    refine hq_iinc (x := (i : Int)) (k := 0) LC dL_law_839 hl rfl (by decide) (fun y ey ls2 hl2 => ?_)
    have ey2 : y = ((i + 5 : Nat) : Int) := by omega
    subst ey2
    refine hq_goto (tgt := 18) LC dL_law_842 rfl ?_
    exact ih (i + 5) (u + 1) C1 M1 H1 locs1 ls2 (by omega) (by omega) (by omega) hJ1 h1 hl2
end LAWE
