/-! ===== constructors: the base rows (a world that grows at its end) ===== -/
def k_Z (U : State) : Prop := va_AO "HeadTables$Letter" U ∧ va_AO "HeadTables$Pair" U ∧ va_Nw (.methodLinkNest RX11 35 yX7_init "HeadTables") U ∧ va_Nw (.methodLinkNest RX3 23 yX2_init "HeadTables") U ∧ va_Nw (.methodLinkNest RX10 11 yX9_init "HeadTables") U ∧ va_Nw (.methodLinkNest RX10 20 yX8_init "HeadTables") U ∧ va_Nw (.methodLinkNest RX11 61 yX5_init "HeadTables") U ∧ va_Nw (.methodLinkNest RX5 11 yX9_init "HeadTables") U
theorem k_Zv {u U : State} (h : U.vm = u.vm) (z : k_Z u) : k_Z U := by
  obtain ⟨z1, z2, z3, z4, z5, z6, z7, z8⟩ := z
  have ha : u.vm.Alike U.vm := by rw [h]; exact Vm.Alike.refl _
  exact ⟨z1.moved ha, z2.moved ha, va_Nw.same rfl h.symm z3, va_Nw.same rfl h.symm z4, va_Nw.same rfl h.symm z5, va_Nw.same rfl h.symm z6, va_Nw.same rfl h.symm z7, va_Nw.same rfl h.symm z8⟩
theorem k_Zw {s U : State} (hW : s.WarmedH U.vm) (z : k_Z s) : k_Z U := by
  obtain ⟨z1, z2, z3, z4, z5, z6, z7, z8⟩ := z
  exact ⟨z1.moved hW.alike, z2.moved hW.alike, va_Nw.warmM hW z3, va_Nw.warmM hW z4, va_Nw.warmM hW z5, va_Nw.warmM hW z6, va_Nw.warmM hW z7, va_Nw.warmM hW z8⟩
theorem k_Zo (A : Nat → Prop) : hq_Zo k_Z A := ⟨fun u U h _ z => k_Zv h z, fun s U hW _ z => k_Zw hW z⟩
def k_sg (cA : Nat → ClassId) (B : Nat) (M : hq_M) : Nat → hq_Y → va_W
  | _, [] => []
  | o, q :: ys => (B + o, hq_cel SLx cA B M o q) :: k_sg cA B M (o + 1) ys
theorem k_sg_app {cA : Nat → ClassId} {B : Nat} {M : hq_M} (y1 y2 : hq_Y) : ∀ o, k_sg cA B M o (y1 ++ y2) = k_sg cA B M o y1 ++ k_sg cA B M (o + y1.length) y2 := by
  induction y1 with
  | nil => intro o; rfl
  | cons q y1 ih =>
    intro o
    show _ :: k_sg cA B M (o + 1) (y1 ++ y2) = _ :: (k_sg cA B M (o + 1) y1 ++ k_sg cA B M (o + (y1.length + 1)) y2)
    rw [ih, show o + 1 + y1.length = o + (y1.length + 1) by omega]
theorem k_sg_of {cA : Nat → ClassId} {B : Nat} {M : hq_M} (ys : hq_Y) : ∀ (o i : Nat) (x : Nat × va_E), (k_sg cA B M o ys)[i]? = some x → x.1 = B + (o + i) ∧ i < ys.length := by
  induction ys with
  | nil => intro o i x h; simp [k_sg] at h
  | cons q ys ih =>
    intro o i x h
    cases i with
    | zero => simp only [k_sg, List.getElem?_cons_zero, Option.some.injEq] at h; subst h; exact ⟨rfl, by simp⟩
    | succ i =>
      simp only [k_sg, List.getElem?_cons_succ] at h
      obtain ⟨h1, h2⟩ := ih (o + 1) i x h
      exact ⟨by rw [h1]; omega, by simp; omega⟩
theorem k_sg_mid {cA : Nat → ClassId} {B : Nat} {M : hq_M} (q : Nat × Nat) (r : hq_Y) (ys : hq_Y) : ∀ o, (k_sg cA B M o (ys ++ q :: r))[ys.length]? = some (B + (o + ys.length), hq_cel SLx cA B M (o + ys.length) q) := by
  intro o
  rw [k_sg_app]
  have hl : ∀ (ys : hq_Y) (o : Nat), (k_sg cA B M o ys).length = ys.length := by
    intro ys
    induction ys with
    | nil => intro o; rfl
    | cons q ys ih => intro o; simp [k_sg, ih]
  rw [List.getElem?_append_right (by rw [hl]; exact Nat.le_refl _), hl, Nat.sub_self]
  rfl
theorem k_sg_ws {cA : Nat → ClassId} {B : Nat} {M : hq_M} (Y : hq_Y) : hq_ws SLx cA Y B M = k_sg cA B M 0 Y := by
  have key : ∀ (Y : hq_Y) (n : Nat), (Y.zipIdx n).map (fun t => (B + t.2, hq_cel SLx cA B M t.2 t.1)) = k_sg cA B M n Y := by
    intro Y
    induction Y with
    | nil => intro n; rfl
    | cons q Y ih => intro n; simp only [List.zipIdx_cons, List.map_cons, k_sg, ih]
  exact key Y 0
theorem k_sg_D {cA : Nat → ClassId} {B : Nat} {M : hq_M} {o : Nat} {ys : hq_Y} : va_D (fun q => B + o ≤ q) (k_sg cA B M o ys) := by
  refine ⟨fun i j x y hi hj hxy => ?_, fun k q hk => ?_⟩
  · have h1 := (k_sg_of ys o i x hi).1
    have h2 := (k_sg_of ys o j y hj).1
    omega
  · have h1 := (k_sg_of ys o k q hk).1
    show B + o ≤ q.1
    omega
def k_S (D : va_G) (cA : Nat → ClassId) (B : Nat) (M : hq_M) (pre : va_W) (o o1 : Nat) (ys : hq_Y) (H0 H : Heap) (locs : List Loc) : Prop := va_P D vwCl (pre ++ k_sg cA B M o1 ys) H ∧ H.size = B + (o1 + ys.length) ∧ va_D (fun q => B + o ≤ q ∧ q < B + o1) pre ∧ va_S (fun q => B + o ≤ q) H0 H locs ∧ o ≤ o1
def k_N (D : va_G) (cA : Nat → ClassId) (B : Nat) (M : hq_M) (pre : va_W) (o o1 : Nat) (ys : hq_Y) (ci : Nat) (fs : List Value) (H0 H : Heap) (locs : List Loc) : Prop := va_P D vwCl (pre ++ k_sg cA B M o1 ys) H ∧ va_P D vwCl [(B + (o1 + ys.length), .inr (ci, fs))] H ∧ H.size = B + (o1 + ys.length + 1) ∧ va_D (fun q => B + o ≤ q ∧ q < B + o1) pre ∧ va_S (fun q => B + o ≤ q) H0 H locs ∧ o ≤ o1
theorem va_P.fst {D : va_G} {cl : List vw_C} {w1 w2 : va_W} {H : Heap} (h : va_P D cl (w1 ++ w2) H) : va_P D cl w1 H := fun k q hk => h k q (by rw [List.getElem?_append_left (List.getElem?_eq_some_iff.mp hk).1]; exact hk)
theorem va_P.snd {D : va_G} {cl : List vw_C} {w1 w2 : va_W} {H : Heap} (h : va_P D cl (w1 ++ w2) H) : va_P D cl w2 H := fun k q hk => h (w1.length + k) q (by rw [List.getElem?_append_right (by omega), show w1.length + k - w1.length = k by omega]; exact hk)
theorem k_D {cA : Nat → ClassId} {B : Nat} {M : hq_M} {pre : va_W} {o o1 : Nat} {ys : hq_Y} (h : va_D (fun q => B + o ≤ q ∧ q < B + o1) pre) (ho : o ≤ o1) : va_D (fun q => B + o ≤ q) (pre ++ k_sg cA B M o1 ys) := by
  refine va_D.app (h.weaken (fun _ _ _ h => h.1)) (k_sg_D.weaken (fun _ q _ (h : B + o1 ≤ q.1) => (by omega : B + o ≤ q.1))) (fun i j p q hp hq e => ?_)
  have h1 := (h.2 i p hp).2
  have h2 := (k_sg_of ys o1 j q hq).1
  omega
def k_Pc (D : va_G) (cA : Nat → ClassId) (B o ci : Nat) (fs : List Value) (av : List Value) : Array Value → State → Prop := va_Pc av (fun U => va_P D vwCl [(B + o, .inr (ci, fs))] U.heap ∧ U.heap.size = B + (o + 1) ∧ va_K D vwCl (hq_ty cA) U ∧ k_Z U)
def k_Q (D : va_G) (cA : Nat → ClassId) (B : Nat) (M : hq_M) (o : Nat) (ys : hq_Y) : Array Value → State → Outcome → State → Prop := fun _ st oc t => (oc = .returned none ∧ va_P D vwCl (k_sg cA B M o ys) t.heap ∧ t.heap.size = B + (o + ys.length)) ∧ va_F (fun q => B + o ≤ q) st t
def k_T (l : Launch) (y : MethodName) (ws : List Cond) (rm : Room) (D : va_G) (cA : Nat → ClassId) (B : Nat) (M : hq_M) (o ci : Nat) (fs : List Value) (av : List Value) (ys : hq_Y) (mc ms : Nat) : Prop := Met l y ws rm (k_Pc D cA B o ci fs av) (k_Q D cA B M o ys) mc ms (fun q => B + o ≤ q)
theorem k_blind {D : va_G} {cA : Nat → ClassId} {B o ci : Nat} {fs av : List Value} : FrameBlind (k_Pc D cA B o ci fs av) := fun a U g mk q => by
  obtain ⟨q0, qP, qz, qK, qZ⟩ := q
  exact ⟨q0, qP, qz, va_K.moved (u := U) (U := U.calling g mk a) (Vm.Alike.refl U.vm) qK, k_Zv (u := U) rfl qZ⟩
theorem k_meth {l : Launch} {y : MethodName} {ws ws' : List Cond} {rm : Room} {D : va_G} {cA : Nat → ClassId} {B : Nat} {M : hq_M} {o ci : Nat} {fs av : List Value} {ys : hq_Y} {mc ms : Nat} {cc : ByteArray} {maxL : Nat} {own : String} (ho : y.cls = own) (hy : plainName y.cls = true) (hw : ws = Cond.code y cc maxL none :: ws') (hi : y.name = "<init>") (hlen : (lg_sl av).length ≤ maxL)
    (body : ∀ (p : Program) (e : Env) (s : State) (m : MethodId) (below : List Frame) (meth : Method) (c : Code) (ls : Array Slot), hq_C vwCl p m c cc maxL s av.toArray ws own meth none D cA (fun q => B + o ≤ q) k_Z → meth.name = "<init>" → k_S D cA B M [(B + o, .inr (ci, fs))] o (o + 1) [] s.heap s.heap [] → lv_has ls maxL (lv_args 0 av) →
      W p l e rm s m av.toArray below meth c s.heap [] 0 0 (MQ below (k_Q D cA B M o ys) av.toArray s mc ms (fun q => B + o ≤ q)) (F0 m 0 ls [])) : k_T l y ws rm D cA B M o ci fs av ys mc ms := by
  refine Met.ofW (cc := cc) (maxL := maxL) (ret := none) hy hw ?_
  subst ho
  intro p e s m args below meth c s₁ Bd hml hv
  obtain ⟨rfl, hP, hz, hK, hZs⟩ := hv
  have hts := atoms_spec (ws := ws) Bd.pre
  have hown : s.vm.findClass y.cls = some m.cls := findClass_of_methodNamed Bd.named
  have hin : meth.name = "<init>" := (name_of_methodNamed Bd.named Bd.method).1.trans hi
  rw [lg_entry_eq]
  refine body p e s m below meth c _ ⟨⟨Bd.exec, Bd.bytes, hml, hown, hts⟩, Bd.returns, Bd.notSynchronized, hK, k_Zo _, hZs⟩ hin ⟨by simpa [k_sg] using hP, hz, ⟨fun i j p q hp hq _ => ?_, fun k q hk => ?_⟩, va_S.rf, by omega⟩ (lv_entry av hlen)
  · have h1 : i < 1 := (List.getElem?_eq_some_iff.mp hp).1
    have h2 : j < 1 := (List.getElem?_eq_some_iff.mp hq).1
    omega
  · have h1 : k < 1 := (List.getElem?_eq_some_iff.mp hk).1
    obtain rfl : k = 0 := by omega
    cases hk
    exact ⟨Nat.le_refl _, by show B + o < B + (o + 1); omega⟩
section KR
variable {p : Program} {l : Launch} {e : Env} {R : Room} {s : State} {m : MethodId} {args : Array Value} {below : List Frame} {meth : Method} {c : Code} {H : Heap} {locs : List Loc} {cells slots : Nat} {Q : State → Prop}
variable {cc : ByteArray} {pc nL : Nat} {ls : Array Slot} {rest : List Value} {Ts : List Cond} {own : String} {ret : Option FieldType} {D : va_G} {cA : Nat → ClassId} {B : Nat} {M : hq_M} {A : Nat → Prop} {pre : va_W} {o o1 : Nat} {ys : hq_Y}
theorem k_obj {idx a : Nat} (C : hq_C vwCl p m c cc nL s args Ts own meth ret D cA A k_Z) (h1 : Cond.methodLink own idx objectInit ∈ Ts ∧ Cond.instanceMethod objectInit ∈ Ts ∧ Cond.code objectInit ⟨#[0xb1]⟩ 1 none ∈ Ts) (hl : ls.size = nL) (hd : decode cc pc = .ok (.invokespecial idx, 3)) (hR : 1 ≤ R.frames ∧ (rest.map fun v => v.category).sum + 12 ≤ R.locals)
    (kk : W p l e R s m args below meth c H locs cells slots Q (F0 m (pc + 3) ls rest)) : W p l e R s m args below meth c H locs cells slots Q (F0 m pc ls (.ref a :: rest)) := by
  obtain ⟨⟨hx, hb, hml, hown, hts⟩, -, -, -, -, -⟩ := C
  refine W.objInit hx hb hown (hts _ h1.1) (hts _ h1.2.1) (hts _ h1.2.2) rfl (by rw [hml]; exact hl) rfl hd hR.1 ?_ kk
  simpa [F0] using hR.2
theorem k_new {ci index N x : Nat} {Cn : String} {T : u_T} {fs : List Value} (ty0 : Nat → FieldType) (C : hq_C vwCl p m c cc nL s args Ts own meth ret D cA A k_Z) (h : k_S D cA B M pre o o1 ys s.heap H locs) (hc : vwCl[ci]? = some (Cn, T, N)) (hin : ∀ w ∈ u_ws Cn T N, w ∈ Ts) (hty : ∀ k, k < N → parseFieldDescriptor (T k).2.2.1 = some (ty0 k)) (hw : Cond.classLink own index Cn ∈ Ts ∧ Cond.instantiable Cn N ∈ Ts ∧ Cond.initialized Cn ∈ Ts) (hfs : ∀ j, j < N → defaultValue (ty0 j) = vp_V fs j) (hcells : cells + 1 ≤ R.cells) (hslots : slots + N ≤ R.slots) (hx0 : o1 + ys.length = x) (hdg : decode cc pc = .ok (.new index, 3))
    (kk : ∀ (H1 : Heap), k_N D cA B M pre o o1 ys ci fs s.heap H1 locs → W p l e R s m args below meth c H1 locs (cells + 1) (slots + N) Q (F0 m (pc + 3) ls (.ref (B + x) :: rest))) : W p l e R s m args below meth c H locs cells slots Q (F0 m pc ls rest) := by
  subst hx0
  obtain ⟨⟨hx, hb, hml, hown, hts⟩, -, -, hK, -, -⟩ := C
  obtain ⟨hP, hz, hD, hS, ho⟩ := h
  have hKn := hK.1 ci _ hc
  refine W.newcK hx hb hown (hts _ hw.1) (hts _ hw.2.1) (hts _ hw.2.2) rfl hdg hcells hslots hKn.2.1 hz fun H1 kC hkC e1 z1 q1 => ?_
  have hlt : ∀ (k : Nat) (x : Nat × va_E), (pre ++ k_sg cA B M o1 ys)[k]? = some x → H1[x.1]? = H[x.1]? := fun k x hx => q1 x.1 (by rw [← hz]; exact (hP k x hx).lt)
  refine kk H1 ⟨hP.kept hlt, fun k x hx => ?_, by rw [z1]; omega, hD, ⟨Nat.le_trans hS.1 (by rw [z1, hz]; omega), fun x h1 h2 => (q1 x (by rw [← hz]; exact Nat.lt_of_lt_of_le h1 hS.1)).trans (hS.2.1 x h1 h2), hS.2.2⟩, ho⟩
  have hk : k < 1 := (List.getElem?_eq_some_iff.mp hx).1
  obtain rfl : k = 0 := by omega
  cases hx
  exact ⟨_, hc, (u_born ty0 hts hin hKn hkC e1 hty).to hfs⟩
theorem k_go {mc ms ci : Nat} {yz : hq_Y} {fs : List Value} {a : Array Value} {st0 : List Value} (h : k_N D cA B M pre o o1 ys ci fs s.heap H locs) (hr : va_Run p l e R s m args below meth c H locs cells slots mc ms (F0 m pc ls st0) rest (k_Q D cA B M (o1 + ys.length) yz a) (fun q => B + (o1 + ys.length) ≤ q))
    (kk : ∀ (H1 : Heap) (locs1 : List Loc), k_S D cA B M pre o o1 (ys ++ yz) s.heap H1 locs1 → W p l e R s m args below meth c H1 locs1 (cells + mc) (slots + ms) Q (F0 m (pc + 3) ls rest)) : W p l e R s m args below meth c H locs cells slots Q (F0 m pc ls st0) := by
  obtain ⟨hP, -, hz, hD, hS, ho⟩ := h
  intro T hT X
  obtain ⟨v, st₀, t, T', L, h0, X', hL, e1, e2, ⟨⟨hv, hP1, hz1⟩, hs, hk⟩, st⟩ := hr T hT X
  cases hv
  rw [h0] at hs hk
  have hlow : ∀ q, q < B + (o1 + ys.length) → T'.heap[q]? = H[q]? := fun q hq => by rw [e1]; exact hk q (by omega) (by omega)
  have hnew : k_S D cA B M pre o o1 (ys ++ yz) s.heap T'.heap (locs ++ L) := by
    refine ⟨?_, ?_, hD, ⟨Nat.le_trans hS.1 (by rw [e1]; exact hs), fun q h1 h2 => ?_, fun q hq => ?_⟩, ho⟩
    · rw [k_sg_app, ← List.append_assoc]
      refine (hP.kept (fun k x hx => hlow x.1 ?_)).app (by rw [e1]; exact hP1)
      by_cases hk2 : k < pre.length
      · rw [List.getElem?_append_left hk2] at hx
        have h3 := (hD.2 k x hx).2
        omega
      · rw [List.getElem?_append_right (by omega)] at hx
        have h3 := k_sg_of ys o1 _ x hx
        omega
    · rw [e1, hz1, List.length_append]; omega
    · have h3 : q < B + o := Nat.lt_of_not_le h2
      rw [hlow q (by omega)]
      exact hS.2.1 q h1 h2
    · rcases List.mem_append.mp hq with h4 | h4
      · exact hS.2.2 q h4
      · have h5 := hL q h4
        show B + o ≤ q.base
        omega
  obtain ⟨t2, a1, b1⟩ := kk T'.heap (locs ++ L) hnew T' rfl X'
  exact ⟨t2, st t2 a1, b1⟩
theorem k_pre {ci : Nat} {fs : List Value} {As : List Value} (hK : va_K D vwCl (hq_ty cA) s) (hZ : k_Z s) (h : k_N D cA B M pre o o1 ys ci fs s.heap H locs) : PreS s H (k_Pc D cA B (o1 + ys.length) ci fs As) As := ⟨k_blind, fun U hU hW => ⟨rfl, by rw [hU]; exact h.2.1, by rw [hU, h.2.2.1], va_K.moved hW.alike hK, k_Zw hW hZ⟩⟩
/-- a constructor's call, the class's own link or a nest mate's -/
theorem k_cI {mc ms ci index n x : Nat} {yz : hq_Y} {fs As st0 : List Value} {y : MethodName} {bytes : ByteArray} {maxL : Nat} {ws ws' : List Cond} {rm : Room} (C : hq_C vwCl p m c cc nL s args Ts own meth ret D cA A k_Z) (h : k_N D cA B M pre o o1 ys ci fs s.heap H locs) (hx0 : o1 + ys.length = x) (hM : k_T l y ws rm D cA B M x ci fs (.ref (B + x) :: As) yz mc ms) (hG : GoodIn Ts ws) (hw : ws = Cond.code y bytes maxL none :: ws') (hrc : rm.cells = mc ∧ rm.slots = ms) (hws : Cond.initialized y.cls ∈ Ts ∧ Cond.methodLink own index y ∈ Ts ∧ Cond.instanceMethod y ∈ Ts) (hy1 : y.name = "<init>")
    (hd : y.cls ≠ "java/lang/invoke/MethodHandle" ∧ y.cls ≠ "java/lang/invoke/VarHandle" ∧ (parseMethodDescriptor y.desc).map (fun d => d.parameters.length) = some n) (hR : rm.frames + 1 ≤ R.frames ∧ 8 + (maxL + 11) + rm.locals ≤ R.locals) (hn : As.length = n) (hl : ls.size = nL) (hst : st0 = As.reverse ++ .ref (B + x) :: rest) (hrest : (rest.map fun v => v.category).sum ≤ 8) (hdg : decode cc pc = .ok (.invokespecial index, 3)) (hf : cells + mc ≤ R.cells ∧ slots + ms ≤ R.slots)
    (kk : ∀ (H1 : Heap) (locs1 : List Loc), k_S D cA B M pre o o1 (ys ++ yz) s.heap H1 locs1 → W p l e R s m args below meth c H1 locs1 (cells + mc) (slots + ms) Q (F0 m (pc + 3) ls rest)) : W p l e R s m args below meth c H locs cells slots Q (F0 m pc ls st0) := by
  subst hx0
  exact k_go h (va_runI (As := As) (rest := rest) C.1 hM (cwI n C.1.2.2.2.2 hG hw hrc.1 hrc.2 (C.1.2.2.2.2 _ hws.1) (C.1.2.2.2.2 _ hws.2.1) (C.1.2.2.2.2 _ hws.2.2) hy1 hd hR) (k_pre C.2.2.2.1 C.2.2.2.2.2 h) rfl hn hl hst (lv_room hrest) hdg hf) kk
theorem k_cN {mc ms ci index n x : Nat} {host : String} {yz : hq_Y} {fs As st0 : List Value} {y : MethodName} {bytes : ByteArray} {maxL : Nat} {ws ws' : List Cond} {rm : Room} (C : hq_C vwCl p m c cc nL s args Ts own meth ret D cA A k_Z) (h : k_N D cA B M pre o o1 ys ci fs s.heap H locs) (hx0 : o1 + ys.length = x) (hM : k_T l y ws rm D cA B M x ci fs (.ref (B + x) :: As) yz mc ms) (hG : GoodIn Ts ws) (hw : ws = Cond.code y bytes maxL none :: ws') (hrc : rm.cells = mc ∧ rm.slots = ms) (hnw : va_Nw (.methodLinkNest own index y host) s) (hws : Cond.initialized y.cls ∈ Ts ∧ Cond.instanceMethod y ∈ Ts) (hy1 : y.name = "<init>")
    (hd : y.cls ≠ "java/lang/invoke/MethodHandle" ∧ y.cls ≠ "java/lang/invoke/VarHandle" ∧ (parseMethodDescriptor y.desc).map (fun d => d.parameters.length) = some n) (hR : rm.frames + 1 ≤ R.frames ∧ 8 + (maxL + 11) + rm.locals ≤ R.locals) (hn : As.length = n) (hl : ls.size = nL) (hst : st0 = As.reverse ++ .ref (B + x) :: rest) (hrest : (rest.map fun v => v.category).sum ≤ 8) (hdg : decode cc pc = .ok (.invokespecial index, 3)) (hf : cells + mc ≤ R.cells ∧ slots + ms ≤ R.slots)
    (kk : ∀ (H1 : Heap) (locs1 : List Loc), k_S D cA B M pre o o1 (ys ++ yz) s.heap H1 locs1 → W p l e R s m args below meth c H1 locs1 (cells + mc) (slots + ms) Q (F0 m (pc + 3) ls rest)) : W p l e R s m args below meth c H locs cells slots Q (F0 m pc ls st0) := by
  subst hx0
  exact k_go h (va_runIN (As := As) (rest := rest) C.1 hM ⟨va_cnB n C.1.2.2.2.2 hG hw hrc.1 hrc.2 hnw (C.1.2.2.2.2 _ hws.1) hd hR, hy1, C.1.2.2.2.2 _ hws.2⟩ (k_pre C.2.2.2.1 C.2.2.2.2.2 h) rfl hn hl hst (lv_room hrest) hdg hf) kk
theorem k_cellAt {H1 : Heap} {a : Nat} {x : va_E} (h : va_at D vwCl (a, x) H1) : va_P D vwCl [(a, x)] H1 := fun k q hk => by
  have h1 : k < 1 := (List.getElem?_eq_some_iff.mp hk).1
  obtain rfl : k = 0 := by omega
  cases hk
  exact h
theorem k_S.grow {H1 : Heap} {q : Nat × Nat} (h : k_S D cA B M pre o o1 ys s.heap H locs) (hP : va_at D vwCl (B + (o1 + ys.length), hq_cel SLx cA B M (o1 + ys.length) q) H1) (hz : H1.size = B + (o1 + ys.length) + 1) (hk : ∀ q, q < B + (o1 + ys.length) → H1[q]? = H[q]?) : k_S D cA B M pre o o1 (ys ++ [q]) s.heap H1 locs := by
  obtain ⟨hP0, hz0, hD, hS, ho⟩ := h
  refine ⟨?_, by rw [hz, List.length_append]; simp; omega, hD, ⟨Nat.le_trans hS.1 (by omega), fun x h1 h2 => (hk x (by rw [← hz0]; exact Nat.lt_of_lt_of_le h1 hS.1)).trans (hS.2.1 x h1 h2), hS.2.2⟩, ho⟩
  rw [k_sg_app, ← List.append_assoc]
  exact (hP0.kept (fun k x hx => hk x.1 (by rw [← hz0]; exact (hP0 k x hx).lt))).app (k_cellAt hP)
theorem k_arrI {n x : Nat} {z : Int} (C : hq_C vwCl p m c cc nL s args Ts own meth ret D cA A k_Z) (h : k_S D cA B M pre o o1 ys s.heap H locs) (hw : Cond.arrayClass .int ∈ Ts) (hz : z = (n : Int)) (hn : n ≤ 5000) (hx0 : o1 + ys.length = x) (hM : ∀ j, M x j = 0) (hcells : cells + 1 ≤ R.cells) (hslots : slots + n ≤ R.slots) (hdg : decode cc pc = .ok (.newarray .int, 2))
    (kk : ∀ (H1 : Heap), k_S D cA B M pre o o1 (ys ++ [(13, n)]) s.heap H1 locs → W p l e R s m args below meth c H1 locs (cells + 1) (slots + n) Q (F0 m (pc + 2) ls (.ref (B + x) :: rest))) : W p l e R s m args below meth c H locs cells slots Q (F0 m pc ls (.int (w3 z) :: rest))   := by
  subst hx0
  obtain ⟨⟨hx, hb, hml, hown, hts⟩, -, -, hK, -, -⟩ := C
  have hrz : rg z := ⟨by omega, by omega⟩
  refine va_newaK (atype := .int) hx hb (hts _ hw) rfl hdg rfl (n := w3 z) (N := n) (fun hlt => ?_) (by rw [w3_clamp hrz, hz]; rfl) (by show n * 4 ≤ _; omega) hcells hslots h.2.1 fun H1 cA' e1 z1 q1 _ hNm => ?_
  · have := (w3_lt hrz (show rg 0 by decide)).mp hlt
    omega
  · have hcA : cA' = cA 0 := Option.some.inj (hNm.symm.trans (hK.2 0 _ rfl).2)
    subst hcA
    refine kk H1 (h.grow ?_ z1 q1)
    show H1[B + (o1 + ys.length)]? = some (vp_cell (cA 0) (n, .inl (fun j => w3 (M (o1 + ys.length) j))))
    rw [e1]
    congr 1
    rw [show (fun j => w3 (M (o1 + ys.length) j)) = fun _ => w3 0 from funext fun j => by rw [hM j]]
    rfl
theorem k_arrL {n x : Nat} {z : Int} (C : hq_C vwCl p m c cc nL s args Ts own meth ret D cA A k_Z) (h : k_S D cA B M pre o o1 ys s.heap H locs) (hw : Cond.arrayClass .long ∈ Ts) (hz : z = (n : Int)) (hn : n ≤ 5000) (hx0 : o1 + ys.length = x) (hM : ∀ j, M x j = 0) (hcells : cells + 1 ≤ R.cells) (hslots : slots + n ≤ R.slots) (hdg : decode cc pc = .ok (.newarray .long, 2))
    (kk : ∀ (H1 : Heap), k_S D cA B M pre o o1 (ys ++ [(14, n)]) s.heap H1 locs → W p l e R s m args below meth c H1 locs (cells + 1) (slots + n) Q (F0 m (pc + 2) ls (.ref (B + x) :: rest))) : W p l e R s m args below meth c H locs cells slots Q (F0 m pc ls (.int (w3 z) :: rest))   := by
  subst hx0
  obtain ⟨⟨hx, hb, hml, hown, hts⟩, -, -, hK, -, -⟩ := C
  have hrz : rg z := ⟨by omega, by omega⟩
  refine va_newaK (atype := .long) hx hb (hts _ hw) rfl hdg rfl (n := w3 z) (N := n) (fun hlt => ?_) (by rw [w3_clamp hrz, hz]; rfl) (by show n * 8 ≤ _; omega) hcells hslots h.2.1 fun H1 cA' e1 z1 q1 _ hNm => ?_
  · have := (w3_lt hrz (show rg 0 by decide)).mp hlt
    omega
  · have hcA : cA' = cA 1 := Option.some.inj (hNm.symm.trans (hK.2 1 _ rfl).2)
    subst hcA
    refine kk H1 (h.grow ?_ z1 q1)
    show H1[B + (o1 + ys.length)]? = some (vp_cell (cA 1) (n, .inr (.inl (fun j => w6 (M (o1 + ys.length) j)))))
    rw [e1]
    congr 1
    rw [show (fun j => w6 (M (o1 + ys.length) j)) = fun _ => w6 0 from funext fun j => by rw [hM j]]
    rfl
theorem k_arrZ {n x : Nat} {z : Int} (C : hq_C vwCl p m c cc nL s args Ts own meth ret D cA A k_Z) (h : k_S D cA B M pre o o1 ys s.heap H locs) (hw : Cond.arrayClass .boolean ∈ Ts) (hz : z = (n : Int)) (hn : n ≤ 5000) (hx0 : o1 + ys.length = x) (hM : ∀ j, M x j = 0) (hcells : cells + 1 ≤ R.cells) (hslots : slots + n ≤ R.slots) (hdg : decode cc pc = .ok (.newarray .boolean, 2))
    (kk : ∀ (H1 : Heap), k_S D cA B M pre o o1 (ys ++ [(15, n)]) s.heap H1 locs → W p l e R s m args below meth c H1 locs (cells + 1) (slots + n) Q (F0 m (pc + 2) ls (.ref (B + x) :: rest))) : W p l e R s m args below meth c H locs cells slots Q (F0 m pc ls (.int (w3 z) :: rest))   := by
  subst hx0
  obtain ⟨⟨hx, hb, hml, hown, hts⟩, -, -, hK, -, -⟩ := C
  have hrz : rg z := ⟨by omega, by omega⟩
  refine va_newaK (atype := .boolean) hx hb (hts _ hw) rfl hdg rfl (n := w3 z) (N := n) (fun hlt => ?_) (by rw [w3_clamp hrz, hz]; rfl) (by show n * 1 ≤ _; omega) hcells hslots h.2.1 fun H1 cA' e1 z1 q1 _ hNm => ?_
  · have := (w3_lt hrz (show rg 0 by decide)).mp hlt
    omega
  · have hcA : cA' = cA 2 := Option.some.inj (hNm.symm.trans (hK.2 2 _ rfl).2)
    subst hcA
    refine kk H1 (h.grow ?_ z1 q1)
    show H1[B + (o1 + ys.length)]? = some (vp_cell (cA 2) (n, .inl (fun j => w3 (M (o1 + ys.length) j))))
    rw [e1]
    congr 1
    rw [show (fun j => w3 (M (o1 + ys.length) j)) = fun _ => w3 0 from funext fun j => by rw [hM j]]
    rfl
theorem k_put {q0 ci k index a : Nat} {fin : Bool} {ty : FieldType} {fs : List Value} {v : Value} (C : hq_C vwCl p m c cc nL s args Ts own meth ret D cA A k_Z) (hi : meth.name = "<init>") (h : k_S D cA B M pre o o1 ys s.heap H locs) (hf : hq_fl vwCl Ts own index ci k fin ty) (hown : ∀ Cn T N, vwCl[ci]? = some (Cn, T, N) → (T k).1 = own) (hp : pre[q0]? = some (a, .inr (ci, fs))) (hn : narrow ty v = v) (hfit : fits ty v = true) (hk : k < fs.length) (hdg : decode cc pc = .ok (.putfield index, 3))
    (kk : ∀ (H1 : Heap) (locs1 : List Loc), k_S D cA B M (pre.set q0 (a, .inr (ci, fs.set k v))) o o1 ys s.heap H1 locs1 → H1.size = H.size → W p l e R s m args below meth c H1 locs1 cells slots Q (F0 m (pc + 3) ls rest)) : W p l e R s m args below meth c H locs cells slots Q (F0 m pc ls (v :: .ref a :: rest)) := by
  obtain ⟨⟨hx, hb, hml, hown0, hts⟩, -, -, hK, -, -⟩ := C
  obtain ⟨Cn, T, N, ty0, f1, f2, f3, f4, f5, f6, f7, f8⟩ := hf
  obtain ⟨hP, hz, hD, hS, ho⟩ := h
  have hq : q0 < pre.length := (List.getElem?_eq_some_iff.mp hp).1
  have hat : (pre ++ k_sg cA B M o1 ys)[q0]? = some (a, .inr (ci, fs)) := by rw [List.getElem?_append_left hq]; exact hp
  have hset : (pre ++ k_sg cA B M o1 ys).set q0 (a, .inr (ci, fs.set k v)) = pre.set q0 (a, .inr (ci, fs.set k v)) ++ k_sg cA B M o1 ys := by rw [List.set_append, if_pos hq]
  have fine : ∀ (H1 : Heap) (locs1 : List Loc), H1.size = H.size → va_P D vwCl ((pre ++ k_sg cA B M o1 ys).set q0 (a, .inr (ci, fs.set k v))) H1 → va_S (fun q => B + o ≤ q) s.heap H1 locs1 → k_S D cA B M (pre.set q0 (a, .inr (ci, fs.set k v))) o o1 ys s.heap H1 locs1 := fun H1 locs1 e hP1 hS1 => by
    rw [hset] at hP1
    exact ⟨hP1, by rw [e]; exact hz, hD.set hp, hS1, ho⟩
  have hap := va_apart (own := own) hts f3 ty0 f7 f8 hK f1
  obtain ⟨r, h1, cell, q1, q2, q3, q4⟩ := hP q0 _ hat
  have hr : r = (Cn, T, N) := Option.some.inj (h1.symm.trans f1)
  subst hr
  obtain ⟨hSk, hfc, kC, hkC, hkind⟩ := hK.1 ci _ f1
  obtain ⟨cf, kf, fi, f, hii, hsl⟩ := hSk k f2
  have hlay := hts _ (f3 _ (u_in_lay f2))
  unfold u_lay at hlay
  have hst := (u_facts hfc hkC (u_lays hts f3 f2) hii).1
  have hA : B + o ≤ a := (hD.2 q0 _ hp).1
  cases fin with
  | false =>
    rw [if_neg (by rw [f5]; decide)] at hlay
    have h6 := u_store hfc hkC hkind hlay hii f6 hn hfit
    refine W.putK hx hb (f := f) ⟨hown0, hts _ f4, ⟨_, _, _, hii⟩, hst⟩ (by rw [q2]; exact h6) q1 q3 (by rw [hsl]; exact k2_hasslot (q4 k f2)) rfl rfl hdg fun H' e1 e2 e3 => ?_
    rw [hsl] at e1 ⊢
    exact kk H' _ (fine H' _ e2 (hP.set (k_D hD ho) hat ⟨_, f1, t_OB.to (V := updV (vp_V fs) k v) ⟨_, e1, q2, q3, t_set q4 hap f2 v⟩ (fun j _ => vp_updV_set hk v j)⟩ e3) (hS.put e2 e3 hA)) e2
  | true =>
    rw [if_pos f5] at hlay
    have hcf : m.cls = cf := by
      obtain ⟨_, _, c', _, _, _, -, -, hf', -, -, -, hown2, -⟩ := Cond.laysFinal_spec hlay
      have e1 : c' = cf := by have := hii.symm.trans hf'; simp at this; exact this.1.symm
      rw [hown Cn T N f1] at hown2
      rw [← e1]; exact Option.some.inj (hown0.symm.trans hown2)
    have h6 := u_fits hfc hkC hkind (Or.inr hlay) hii f6 hn hfit
    refine W.putFinK hx hb hown0 (hts _ f4) hii hst hcf hi (by rw [q2]; exact h6) q1 q3 (by rw [hsl]; exact k2_hasslot (q4 k f2)) rfl rfl hdg fun H' e1 e2 e3 => ?_
    rw [hsl] at e1 ⊢
    exact kk H' _ (fine H' _ e2 (hP.set (k_D hD ho) hat ⟨_, f1, t_OB.to (V := updV (vp_V fs) k v) ⟨_, e1, q2, q3, t_set q4 hap f2 v⟩ (fun j _ => vp_updV_set hk v j)⟩ e3) (hS.put e2 e3 hA)) e2
theorem k_get {q0 ci k index a : Nat} {fin : Bool} {ty : FieldType} {fs : List Value} {v : Value} (C : hq_C vwCl p m c cc nL s args Ts own meth ret D cA A k_Z) (h : k_S D cA B M pre o o1 ys s.heap H locs) (hf : hq_fl vwCl Ts own index ci k fin ty) (hp : pre[q0]? = some (a, .inr (ci, fs))) (hv : fs[k]? = some v) (hdg : decode cc pc = .ok (.getfield index, 3))
    (kk : W p l e R s m args below meth c H locs cells slots Q (F0 m (pc + 3) ls (v :: rest))) : W p l e R s m args below meth c H locs cells slots Q (F0 m pc ls (.ref a :: rest)) := by
  obtain ⟨⟨hx, hb, -, hown, hts⟩, -, -, hK, -, -⟩ := C
  obtain ⟨Cn, T, N, ty0, f1, f2, f3, f4, -, -, -, -⟩ := hf
  exact va_get hx hb hts f3 hown hK h.1.fst q0 hp f1 k f2 (hts _ f4) (fun _ h => h) hv hdg kk
theorem k_getN {q0 ci ci2 k index a : Nat} {fin : Bool} {ty : FieldType} {fs fs2 : List Value} {v : Value} (C : hq_C vwCl p m c cc nL s args Ts own meth ret D cA A k_Z) (h : k_N D cA B M pre o o1 ys ci2 fs2 s.heap H locs) (hf : hq_fl vwCl Ts own index ci k fin ty) (hp : pre[q0]? = some (a, .inr (ci, fs))) (hv : fs[k]? = some v) (hdg : decode cc pc = .ok (.getfield index, 3))
    (kk : W p l e R s m args below meth c H locs cells slots Q (F0 m (pc + 3) ls (v :: rest))) : W p l e R s m args below meth c H locs cells slots Q (F0 m pc ls (.ref a :: rest)) := by
  obtain ⟨⟨hx, hb, -, hown, hts⟩, -, -, hK, -, -⟩ := C
  obtain ⟨Cn, T, N, ty0, f1, f2, f3, f4, -, -, -, -⟩ := hf
  exact va_get hx hb hts f3 hown hK h.1.fst q0 hp f1 k f2 (hts _ f4) (fun _ h => h) hv hdg kk
theorem k_ret {mc ms : Nat} {yz : hq_Y} (C : hq_C vwCl p m c cc nL s args Ts own meth none D cA A k_Z) (h : k_S D cA B M pre o o1 ys s.heap H locs) (he : pre ++ k_sg cA B M o1 ys = k_sg cA B M o yz) (hn : o1 + ys.length = o + yz.length) (hm : cells ≤ mc ∧ slots ≤ ms) (hdg : decode cc pc = .ok (.return_, 1)) : W p l e R s m args below meth c H locs cells slots (MQ below (k_Q D cA B M o yz) args s mc ms (fun q => B + o ≤ q)) (F0 m pc ls []) := by
  obtain ⟨⟨hx, hb, -, -, -⟩, hr, hlocks, -, -, -⟩ := C
  refine W.widen (k := mc) (n := ms) hm.1 hm.2 ?_
  exact W.vret hx hb hr (fun t ht hW => ⟨⟨rfl, by rw [ht, ← he]; exact h.1, by rw [ht, h.2.1, hn]⟩, h.2.2.2.1.F ht⟩) h.2.2.2.1.2.2 hdg
theorem k_ret1 {mc ms ci : Nat} {fs : List Value} (C : hq_C vwCl p m c cc nL s args Ts own meth none D cA A k_Z) (h : k_S D cA B M [(B + o, .inr (ci, fs))] o (o + 1) ys s.heap H locs) (he : hq_cel SLx cA B M o (ci, 0) = .inr (ci, fs)) (hm : cells ≤ mc ∧ slots ≤ ms) (hdg : decode cc pc = .ok (.return_, 1)) : W p l e R s m args below meth c H locs cells slots (MQ below (k_Q D cA B M o ((ci, 0) :: ys)) args s mc ms (fun q => B + o ≤ q)) (F0 m pc ls []) :=
  k_ret C h (by show (B + o, _) :: _ = (B + o, _) :: _; rw [he]; rfl) (by simp only [List.length_cons]; omega) hm hdg
theorem k_anew {n ci2 index : Nat} {z : Int} {Cn : String} (t0 : Nat) (C : hq_C vwCl p m c cc nL s args Ts own meth ret D cA A k_Z) (h : k_S D cA B M pre o o1 [] s.heap H locs) (hover : va_AO Cn s) (hty : (hq_ty cA)[t0]? = some (cA t0, .object Cn)) (hw : Cond.classLink own index Cn ∈ Ts) (hz : z = (n : Int)) (hn : n ≤ 5000) (hcells : cells + 1 ≤ R.cells) (hslots : slots + n ≤ R.slots) (hdg : decode cc pc = .ok (.anewarray index, 3))
    (kk : ∀ (H1 : Heap), k_S D cA B M (pre ++ [(B + o1, .inl (cA t0, n, .inr (.inr (.inr (.inr (fun _ => none))))))]) o (o1 + 1) [] s.heap H1 locs → W p l e R s m args below meth c H1 locs (cells + 1) (slots + n) Q (F0 m (pc + 3) ls (.ref (B + o1) :: rest))) : W p l e R s m args below meth c H locs cells slots Q (F0 m pc ls (.int (w3 z) :: rest)) := by
  obtain ⟨⟨hx, hb, hml, hown, hts⟩, -, -, hK, -, -⟩ := C
  have hrz : rg z := ⟨by omega, by omega⟩
  have hcl : (w3 z).toNatClampNeg = n := by rw [w3_clamp hrz, hz]; rfl
  obtain ⟨hP, hz0, hD, hS, ho⟩ := h
  have hz0' : H.size = B + o1 := by rw [hz0]; rfl
  refine W.anew hx hb hown (hts _ hw) (va_AO.use hover) rfl hdg rfl (n := w3 z) (fun hlt => ?_) (by rw [hcl]; omega) hcells (by rw [hcl]; exact hslots) fun cA' kA comp f1 f2 f3 f4 => ?_
  · have := (w3_lt hrz (show rg 0 by decide)).mp hlt
    omega
  · rw [hcl]
    have hR := (hK.2 t0 _ hty).2
    obtain ⟨kA', comp', g1, g2, g3, g4⟩ := hR
    have hcA : cA' = cA t0 := Option.some.inj (f1.symm.trans g4)
    subst hcA
    generalize hH1 : H.push ({ cls := cA t0, slots := Array.replicate n .null, vm := .none } : Cell) = H1
    have z1 : H1.size = H.size + 1 := by rw [← hH1, Array.size_push]
    have e1 : H1[H.size]? = some (arrV (cA t0) n (fun _ => .null)) := by rw [← hH1, Array.getElem?_push_size, ← arrV_new]
    have o1' : ∀ q : Nat, q < H.size → H1[q]? = H[q]? := fun q hq => by rw [← hH1, Array.getElem?_push, if_neg (Nat.ne_of_lt hq)]
    rw [hz0']
    refine kk H1 ⟨?_, by rw [z1, hz0']; simp; omega, ?_, ⟨Nat.le_trans hS.1 (by omega), fun x h1 h2 => (o1' x (Nat.lt_of_lt_of_le h1 hS.1)).trans (hS.2.1 x h1 h2), hS.2.2⟩, by omega⟩
    · simp only [k_sg, List.append_nil] at hP ⊢
      refine (hP.kept (fun k x hx => o1' x.1 ((hP k x hx).lt))).app (k_cellAt ?_)
      show H1[B + o1]? = some (vp_cell _ _)
      rw [vp_cell_q, ← hz0']
      exact e1
    · refine va_D.app (hD.weaken (fun _ q _ hq => ⟨hq.1, by omega⟩)) ⟨fun i j p q hp hq _ => ?_, fun k q hk => ?_⟩ (fun i j p q hp hq e => ?_)
      · have h1 : i < 1 := (List.getElem?_eq_some_iff.mp hp).1
        have h2 : j < 1 := (List.getElem?_eq_some_iff.mp hq).1
        omega
      · have h1 : k < 1 := (List.getElem?_eq_some_iff.mp hk).1
        obtain rfl : k = 0 := by omega
        cases hk
        exact ⟨by show B + o ≤ B + o1; omega, by show B + o1 < B + (o1 + 1); omega⟩
      · have h2 : j < 1 := (List.getElem?_eq_some_iff.mp hq).1
        obtain rfl : j = 0 := by omega
        cases hq
        have := (hD.2 i p hp).2
        omega
theorem k_ast {q0 a n x ci qk : Nat} {z : Int} {Cn : String} {rc : vw_C} {vs : List Value} {f : Nat → Option Nat} (t0 : Nat) (C : hq_C vwCl p m c cc nL s args Ts own meth ret D cA A k_Z) (h : k_S D cA B M pre o o1 ys s.heap H locs) (hp : pre[q0]? = some (a, .inl (cA t0, n, .inr (.inr (.inr (.inr f)))))) (hty : (hq_ty cA)[t0]? = some (cA t0, .object Cn)) (hv : (pre ++ k_sg cA B M o1 ys)[qk]? = some (B + x, .inr (ci, vs))) (hc : vwCl[ci]? = some rc) (hrc : rc.1 = Cn) (rz : rg z) (hg : 0 ≤ z ∧ z < (n : Int)) (hdg : decode cc pc = .ok (.aastore, 1))
    (kk : ∀ (H1 : Heap) (locs1 : List Loc), k_S D cA B M (pre.set q0 (a, .inl (cA t0, n, .inr (.inr (.inr (.inr (va_up f z.toNat (some (B + x))))))))) o o1 ys s.heap H1 locs1 → W p l e R s m args below meth c H1 locs1 cells slots Q (F0 m (pc + 1) ls rest)) : W p l e R s m args below meth c H locs cells slots Q (F0 m pc ls (.ref (B + x) :: .int (w3 z) :: .ref a :: rest)) := by
  obtain ⟨⟨hx, hb, hml, hown, hts⟩, -, -, hK, -, -⟩ := C
  obtain ⟨hP, hz0, hD, hS, ho⟩ := h
  subst hrc
  have hin : vp_in (w3 z) n := w3_in rz hg.1 hg.2
  have hlt : (w3 z).toNatClampNeg < n := Nat.not_le.mp fun q => hin (Or.inr q)
  have h0 : ¬ w3 z < 0 := fun q => hin (Or.inl q)
  have hq : q0 < pre.length := (List.getElem?_eq_some_iff.mp hp).1
  have hat : (pre ++ k_sg cA B M o1 ys)[q0]? = some (a, .inl (cA t0, n, .inr (.inr (.inr (.inr f))))) := by rw [List.getElem?_append_left hq]; exact hp
  obtain ⟨r', hr', cellV, g1, g2, g3, -⟩ := hP qk _ hv
  have hcls := (hK.1 ci rc hc).2
  obtain ⟨kA, comp, k1, k2, k3, -⟩ := (hK.2 t0 _ hty).2
  have hcomp : comp = D.1 ci := Option.some.inj (k3.symm.trans hcls.1)
  subst hcomp
  obtain ⟨kC, hkC, -⟩ := hcls.2
  have hA : B + o ≤ a := (hD.2 q0 _ hp).1
  refine W.aast hx hb (hP q0 _ hat) (fun q h => by cases h) (fun h => by cases h) k1 k2 rfl hkC ⟨h0, by show _ < (arrV _ _ _).slots.size; rw [arrV_size]; exact hlt⟩ g1 (fun q h => by rw [g3] at h; cases h) (by rw [g2]; exact hkC) (by rw [g2]; exact va_assign hcls) rfl rfl hdg fun H1 e z1 oq => ?_
  have hset : (pre ++ k_sg cA B M o1 ys).set q0 (a, .inl (cA t0, n, .inr (.inr (.inr (.inr (va_up f z.toNat (some (B + x)))))))) = pre.set q0 (a, .inl (cA t0, n, .inr (.inr (.inr (.inr (va_up f z.toNat (some (B + x)))))))) ++ k_sg cA B M o1 ys := by rw [List.set_append, if_pos hq]
  refine kk H1 _ ⟨?_, by rw [z1, hz0], hD.set hp, hS.put z1 oq hA, ho⟩
  rw [← hset]
  refine hP.set (k_D hD ho) hat ?_ oq
  show H1[a]? = some (vp_cell _ _)
  rw [e]
  rw [vp_cell_q, vp_cell_q, arrV_store, w3_clamp rz]
  congr 2
  funext q
  by_cases hq : q = z.toNat
  · subst hq
    simp [updV, va_up, va_rf]
  · simp [updV, va_up, hq]
/-- an array's elements may be told otherwise where none is -/
theorem k_arrcg {q0 a n : Nat} {cX : ClassId} {f g : Nat → Option Nat} (h : k_S D cA B M pre o o1 ys s.heap H locs) (hp : pre[q0]? = some (a, .inl (cX, n, .inr (.inr (.inr (.inr f)))))) (hfg : ∀ j, j < n → f j = g j) : k_S D cA B M (pre.set q0 (a, .inl (cX, n, .inr (.inr (.inr (.inr g)))))) o o1 ys s.heap H locs := by
  obtain ⟨hP, hz0, hD, hS, ho⟩ := h
  have hq : q0 < pre.length := (List.getElem?_eq_some_iff.mp hp).1
  have hat : (pre ++ k_sg cA B M o1 ys)[q0]? = some (a, .inl (cX, n, .inr (.inr (.inr (.inr f))))) := by rw [List.getElem?_append_left hq]; exact hp
  have hset : (pre ++ k_sg cA B M o1 ys).set q0 (a, .inl (cX, n, .inr (.inr (.inr (.inr g))))) = pre.set q0 (a, .inl (cX, n, .inr (.inr (.inr (.inr g))))) ++ k_sg cA B M o1 ys := by rw [List.set_append, if_pos hq]
  refine ⟨?_, hz0, hD.set hp, hS, ho⟩
  rw [← hset]
  refine hP.set (k_D hD ho) hat ?_ (fun _ _ => rfl)
  show H[a]? = some (vp_cell _ _)
  have h1 : H[a]? = some (vp_cell cX (n, .inr (.inr (.inr (.inr f))))) := hP q0 _ hat
  rw [h1, vp_cell_q, vp_cell_q]
  unfold arrV
  congr 2
  apply Array.ext
  · simp
  · intro i h1 h2
    simp only [Array.getElem_ofFn]
    rw [hfg i (by simpa using h1)]
end KR
