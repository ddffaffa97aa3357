/-! constructors: worlds that grow -/
def eN (g : gG) (U : State) : Prop := va_K g.1 vwCl (tyG g) U ∧ (∀ w ∈ nw, va_Nw w U) ∧ va_AO "SpeakHall$Sheet" U
theorem eN_st {g : gG} {A : Nat → Prop} : Est A (eN g) := by
  intro u U hW _ _ h
  refine ⟨va_K.moved hW.alike h.1, fun w hw => ?_, h.2.2.moved hW.alike⟩
  obtain ⟨a, i, x, z, rfl⟩ := nw_meth w hw
  exact va_Nw.warmM hW (h.2.1 _ hw)
def A1 (h0 sz : Nat) : Nat → Prop := fun q => q = h0 ∨ sz ≤ q
def pC (w : va_W) (E : State → Prop) (g : gG) (sz : Nat) (av : List Value) : Array Value → State → Prop := fun v U => v = av.toArray ∧ U.heap.size = sz ∧ va_P g.1 vwCl w U.heap ∧ E U
def qC (wf : (Nat → Nat) → va_W) (g : gG) (h0 sz : Nat) : Array Value → State → Outcome → State → Prop := fun _ st oc t => oc = .returned none ∧ (∃ q : Nat → Nat, q 0 = h0 ∧ va_P g.1 vwCl (wf q) t.heap ∧ va_D (A1 h0 sz) (wf q)) ∧ va_F (A1 h0 sz) st t
theorem one_D {A : Nat → Prop} {h : Nat} {e : va_E} (hA : A h) : va_D A [(h, e)] := by
  refine ⟨fun i j p q hi hj _ => ?_, fun k q hk => ?_⟩
  · have h1 := (List.getElem?_eq_some_iff.mp hi).1
    have h2 := (List.getElem?_eq_some_iff.mp hj).1
    simp at h1 h2; omega
  · have h1 := (List.getElem?_eq_some_iff.mp hk).1
    simp at h1; subst h1; cases hk; exact hA
theorem met_ofC {l : Launch} {E : State → Prop} {g : gG} {av : List Value} {y : MethodName} {cc : ByteArray} {nL h0 sz mc ms : Nat} {e0 : va_E} {rm : Room} {wf : (Nat → Nat) → va_W} (hy : plainName y.cls = true) (hyn : y.name = "<init>") (hav : (lg_sl av).length ≤ nL)
    (body : ∀ (p : Program) (e : Env) (s : State) (m : MethodId) (args : Array Value) (below : List Frame) (meth : Method) (c : Code) (ls : Array Slot), cxt E cc nL y.cls none p s m args meth c → meth.name = "<init>" → va_P g.1 vwCl [(h0, e0)] s.heap → va_D (A1 h0 s.heap.size) [(h0, e0)] → lv_has ls nL (lv_args 0 av) → W p l e rm s m args below meth c s.heap [] 0 0 (MQ below (qC wf g h0 s.heap.size) args s mc ms (A1 h0 s.heap.size)) (F0 m 0 ls [])) :
    Met l y (Cond.code y cc nL none :: gw) rm (pC [(h0, e0)] E g sz av) (qC wf g h0 sz) mc ms (A1 h0 sz) := by
  refine Met.ofW (cc := cc) (maxL := nL) (ret := none) hy rfl ?_
  intro p e s m args below meth c s₁ B hml hv
  obtain ⟨rfl, hsz, hP, hE⟩ := hv
  subst hsz
  have hts := atoms_spec (ws := Cond.code y cc nL none :: gw) B.pre
  have hin : meth.name = "<init>" := hyn ▸ (name_of_methodNamed B.named B.method).1
  rw [lg_entry_eq]
  exact body p e s m _ below meth c _ ⟨B.exec, B.bytes, hml, findClass_of_methodNamed B.named, fun w h => hts w (List.mem_cons_of_mem _ h), B.returns, B.notSynchronized, hE⟩ hin hP (one_D (Or.inl rfl)) (lv_entry av hav)
theorem cA_eqI {g : gG} {D : va_G} {cl : List vw_C} {s : State} {cA : ClassId} (hK : va_K D cl (tyG g ++ [(cA, .int)]) s) : cA = g.2.1 := by
  have h1 : s.vm.findClass _ = some g.2.1 := (hK.2 0 (g.2.1, .int) rfl).2
  have h2 : s.vm.findClass _ = some cA := (hK.2 3 (cA, .int) rfl).2
  exact Option.some.inj (h2.symm.trans h1)
theorem cA_eqZ {g : gG} {D : va_G} {cl : List vw_C} {s : State} {cA : ClassId} (hK : va_K D cl (tyG g ++ [(cA, .boolean)]) s) : cA = g.2.2.1 := by
  have h1 : s.vm.findClass _ = some g.2.2.1 := (hK.2 1 (g.2.2.1, .boolean) rfl).2
  have h2 : s.vm.findClass _ = some cA := (hK.2 3 (cA, .boolean) rfl).2
  exact Option.some.inj (h2.symm.trans h1)
theorem cA_eqO {g : gG} {D : va_G} {cl : List vw_C} {s : State} {cA : ClassId} (hK : va_K D cl (tyG g ++ [(cA, .object "SpeakHall$Sheet")]) s) : cA = g.2.2.2 := by
  obtain ⟨-, -, -, -, -, h1⟩ := (hK.2 2 (g.2.2.2, .object "SpeakHall$Sheet") rfl).2
  obtain ⟨-, -, -, -, -, h2⟩ := (hK.2 3 (cA, .object "SpeakHall$Sheet") rfl).2
  exact Option.some.inj (h2.symm.trans h1)
section CTOR
variable {p : Program} {l : Launch} {e : Env} {R : Room} {s : State} {m : MethodId} {args : Array Value} {below : List Frame} {meth : Method} {c : Code} {H : Heap} {locs : List Loc} {cells slots : Nat} {Q : State → Prop}
variable {E : State → Prop} {A : Nat → Prop} {cc bytes : ByteArray} {nL maxL n index pc h : Nat} {own C host : String} {ret : Option FieldType} {g : gG} {ws : va_W} {y : MethodName} {rm : Room} {As rest st0 : List Value} {ls : Array Slot} {mc ms : Nat} {e0 : va_E} {wf : (Nat → Nat) → va_W}
theorem newI (C0 : cxt E cc nL own ret p s m args meth c) (hK : va_K g.1 vwCl (tyG g) s) (hP : va_P g.1 vwCl ws H) (hD : va_D A ws) (hS : va_S A s.heap H locs) (hA : ∀ q, s.heap.size ≤ q → A q) {n : Int32} {N : Nat} (hn : ¬ n < 0) (hN : n.toNatClampNeg = N) (hb4 : N * componentBytes .int ≤ 536870912) (hc : cells + 1 ≤ R.cells) (hs : slots + N ≤ R.slots) (hdg : decode cc pc = .ok (.newarray .int, 2))
    (kk : ∀ (q : Nat) (H1 : Heap), va_P g.1 vwCl (ws ++ [(q, .inl (g.2.1, N, .inl (fun _ => 0)))]) H1 → va_D A (ws ++ [(q, .inl (g.2.1, N, .inl (fun _ => 0)))]) → va_S A s.heap H1 locs → W p l e R s m args below meth c H1 locs (cells + 1) (slots + N) Q (F0 m (pc + 2) ls (.ref q :: rest))) : W p l e R s m args below meth c H locs cells slots Q (F0 m pc ls (.int n :: rest)) := by
  obtain ⟨hx, hb, hml, hown, hts, -⟩ := C0
  have ha : ∀ cA : ClassId, vp_cell cA (N, .inl (fun _ => 0)) = arrV cA N (fun _ => defaultValue .int) := fun cA => rfl
  have hty : newarray.typeOf .int = .int := rfl
  refine va_newa (atype := .int) (ty := .int) (a0 := (N, .inl (fun _ => 0))) hx hb (by rw [hty]; exact hts _ mY_int) hty hK hP hD hS hA ha hn hN hb4 hc hs hdg (fun q cA H1 hK1 hP1 hD1 hS1 => ?_)
  have := cA_eqI hK1
  subst this
  exact kk q H1 hP1 hD1 hS1
theorem newZ (C0 : cxt E cc nL own ret p s m args meth c) (hK : va_K g.1 vwCl (tyG g) s) (hP : va_P g.1 vwCl ws H) (hD : va_D A ws) (hS : va_S A s.heap H locs) (hA : ∀ q, s.heap.size ≤ q → A q) {n : Int32} {N : Nat} (hn : ¬ n < 0) (hN : n.toNatClampNeg = N) (hb4 : N * componentBytes .boolean ≤ 536870912) (hc : cells + 1 ≤ R.cells) (hs : slots + N ≤ R.slots) (hdg : decode cc pc = .ok (.newarray .boolean, 2))
    (kk : ∀ (q : Nat) (H1 : Heap), va_P g.1 vwCl (ws ++ [(q, .inl (g.2.2.1, N, .inl (fun _ => 0)))]) H1 → va_D A (ws ++ [(q, .inl (g.2.2.1, N, .inl (fun _ => 0)))]) → va_S A s.heap H1 locs → W p l e R s m args below meth c H1 locs (cells + 1) (slots + N) Q (F0 m (pc + 2) ls (.ref q :: rest))) : W p l e R s m args below meth c H locs cells slots Q (F0 m pc ls (.int n :: rest)) := by
  obtain ⟨hx, hb, hml, hown, hts, -⟩ := C0
  have ha : ∀ cA : ClassId, vp_cell cA (N, .inl (fun _ => 0)) = arrV cA N (fun _ => defaultValue .boolean) := fun cA => rfl
  have hty : newarray.typeOf .boolean = .boolean := rfl
  refine va_newa (atype := .boolean) (ty := .boolean) (a0 := (N, .inl (fun _ => 0))) hx hb (by rw [hty]; exact hts _ mY_boolean) hty hK hP hD hS hA ha hn hN hb4 hc hs hdg (fun q cA H1 hK1 hP1 hD1 hS1 => ?_)
  have := cA_eqZ hK1
  subst this
  exact kk q H1 hP1 hD1 hS1
theorem newO (C0 : cxt E cc nL own ret p s m args meth c) (hK : va_K g.1 vwCl (tyG g) s) (hO : va_AO "SpeakHall$Sheet" s) (hP : va_P g.1 vwCl ws H) (hD : va_D A ws) (hS : va_S A s.heap H locs) (hA : ∀ q, s.heap.size ≤ q → A q) (hcl : Cond.classLink own index "SpeakHall$Sheet" ∈ gw) {n : Int32} {N : Nat} (hn : ¬ n < 0) (hN : n.toNatClampNeg = N) (hb4 : N * 4 ≤ 536870912) (hc : cells + 1 ≤ R.cells) (hs : slots + N ≤ R.slots) (hdg : decode cc pc = .ok (.anewarray index, 3))
    (kk : ∀ (q : Nat) (H1 : Heap), va_P g.1 vwCl (ws ++ [(q, .inl (g.2.2.2, N, .inr (.inr (.inr (.inr (fun _ => none))))))]) H1 → va_D A (ws ++ [(q, .inl (g.2.2.2, N, .inr (.inr (.inr (.inr (fun _ => none))))))]) → va_S A s.heap H1 locs → W p l e R s m args below meth c H1 locs (cells + 1) (slots + N) Q (F0 m (pc + 3) ls (.ref q :: rest))) : W p l e R s m args below meth c H locs cells slots Q (F0 m pc ls (.int n :: rest)) := by
  obtain ⟨hx, hb, hml, hown, hts, -⟩ := C0
  refine va_newq (C := "SpeakHall$Sheet") hx hb hown (hts _ hcl) hO hK hP hD hS hA hn hN hb4 hc hs hdg (fun q cA H1 hK1 hP1 hD1 hS1 => ?_)
  have := cA_eqO hK1
  subst this
  exact kk q H1 hP1 hD1 hS1
theorem newC {T : u_T} {N ci : Nat} {ty : Nat → FieldType} (C0 : cxt E cc nL own ret p s m args meth c) (hK : va_K g.1 vwCl (tyG g) s) (hP : va_P g.1 vwCl ws H) (hD : va_D A ws) (hS : va_S A s.heap H locs) (hA : ∀ q, s.heap.size ≤ q → A q) (hin : ∀ w ∈ u_ws C T N, w ∈ gw) (hty : ∀ k, k < N → parseFieldDescriptor (T k).2.2.1 = some (ty k)) (hcl : Cond.classLink own index C ∈ gw) (hinst : Cond.instantiable C N ∈ gw) (hini : Cond.initialized C ∈ gw) (hc : vwCl[ci]? = some (C, T, N)) {fs : List Value} (hfs : ∀ j, j < N → defaultValue (ty j) = vp_V fs j) (hcells : cells + 1 ≤ R.cells) (hslots : slots + N ≤ R.slots) (hdg : decode cc pc = .ok (.new index, 3))
    (kk : ∀ (q : Nat) (H1 : Heap), va_P g.1 vwCl (ws ++ [(q, .inr (ci, fs))]) H1 → va_D A (ws ++ [(q, .inr (ci, fs))]) → va_S A s.heap H1 locs → W p l e R s m args below meth c H1 locs (cells + 1) (slots + N) Q (F0 m (pc + 3) ls (.ref q :: rest))) : W p l e R s m args below meth c H locs cells slots Q (F0 m pc ls rest) := by
  obtain ⟨hx, hb, hml, hown, hts, -⟩ := C0
  exact va_new hx hb hts hin ty hty hown (hts _ hcl) (hts _ hinst) (hts _ hini) hK hP hD hS hA hc hfs hcells hslots hdg kk
theorem putF_C {ws ws' : va_W} {T : u_T} {N ci a : Nat} {fs : List Value} {ref : String} {v : Value} {ty0 : Nat → FieldType} (C0 : cxt E cc nL own ret p s m args meth c) (hin2 : meth.name = "<init>") (hK : va_K g.1 vwCl (tyG g) s) (hP : va_P g.1 vwCl ws H) (hD : va_D A ws) (hS : va_S A s.heap H locs)
    (hin : ∀ w ∈ u_ws C T N, w ∈ gw) (hty : ∀ k, k < N → parseFieldDescriptor (T k).2.2.1 = some (ty0 k)) (hnm : ∀ a, a < N → ∀ b, b < N → a ≠ b → (T a).2.1 ≠ (T b).2.1) (q0 : Nat) (he : ws[q0]? = some (a, .inr (ci, fs))) (hc : vwCl[ci]? = some (C, T, N)) (k : Nat) (hk : k < N) (hlink : Cond.fieldLink own index ref (T k).2.1 (T k).2.2.1 ∈ gw) (href : (T k).1 = ref) (hfin : (T k).2.2.2 = true) (hdecl : (T k).1 = own)
    (hn : narrow (ty0 k) v = v) (hfit : fits (ty0 k) v = true) (hl : k < fs.length) (hset : ws.set q0 (a, .inr (ci, fs.set k v)) = ws')
    (hdg : decode cc pc = .ok (.putfield index, 3)) (kk : ∀ (H1 : Heap) (locs1 : List Loc), va_P g.1 vwCl ws' H1 → va_D A ws' → va_S A s.heap H1 locs1 → W p l e R s m args below meth c H1 locs1 cells slots Q (F0 m (pc + 3) ls rest)) : W p l e R s m args below meth c H locs cells slots Q (F0 m pc ls (v :: .ref a :: rest)) := by
  obtain ⟨hx, hb, hml, hown, hts, -⟩ := C0
  subst href
  exact va_putF hx hb hts hin ty0 hty hnm hown hK hP hD hS q0 he hc k hk (hts _ hlink) (fun _ h => h) hfin hin2 hdecl (hty k hk) hn hfit hl hdg (fun H1 locs1 h1 h2 h3 => kk H1 locs1 (by rw [← hset]; exact h1) (by rw [← hset]; exact h2) h3)
theorem put_C {ws ws' : va_W} {T : u_T} {N ci a : Nat} {fs : List Value} {ref : String} {v : Value} {ty0 : Nat → FieldType} (C0 : cxt E cc nL own ret p s m args meth c) (hK : va_K g.1 vwCl (tyG g) s) (hP : va_P g.1 vwCl ws H) (hD : va_D A ws) (hS : va_S A s.heap H locs)
    (hin : ∀ w ∈ u_ws C T N, w ∈ gw) (hty : ∀ k, k < N → parseFieldDescriptor (T k).2.2.1 = some (ty0 k)) (hnm : ∀ a, a < N → ∀ b, b < N → a ≠ b → (T a).2.1 ≠ (T b).2.1) (q0 : Nat) (he : ws[q0]? = some (a, .inr (ci, fs))) (hc : vwCl[ci]? = some (C, T, N)) (k : Nat) (hk : k < N) (hlink : Cond.fieldLink own index ref (T k).2.1 (T k).2.2.1 ∈ gw) (href : (T k).1 = ref) (hfin : (T k).2.2.2 = false)
    (hn : narrow (ty0 k) v = v) (hfit : fits (ty0 k) v = true) (hl : k < fs.length) (hset : ws.set q0 (a, .inr (ci, fs.set k v)) = ws')
    (hdg : decode cc pc = .ok (.putfield index, 3)) (kk : ∀ (H1 : Heap) (locs1 : List Loc), va_P g.1 vwCl ws' H1 → va_D A ws' → va_S A s.heap H1 locs1 → W p l e R s m args below meth c H1 locs1 cells slots Q (F0 m (pc + 3) ls rest)) : W p l e R s m args below meth c H locs cells slots Q (F0 m pc ls (v :: .ref a :: rest)) := by
  obtain ⟨hx, hb, hml, hown, hts, -⟩ := C0
  subst href
  exact va_put hx hb hts hin ty0 hty hnm hown hK hP hD hS q0 he hc k hk (hts _ hlink) (fun _ h => h) hfin (hty k hk) hn hfit hl hdg (fun H1 locs1 h1 h2 h3 => kk H1 locs1 (by rw [← hset]; exact h1) (by rw [← hset]; exact h2) h3)
theorem ret_C (C0 : cxt E cc nL own none p s m args meth c) (q : Nat → Nat) (hq : q 0 = h) (hP : va_P g.1 vwCl (wf q) H) (hD : va_D (A1 h s.heap.size) (wf q)) (hS : va_S (A1 h s.heap.size) s.heap H locs) (hdg : decode cc pc = .ok (.return_, 1)) : W p l e R s m args below meth c H locs cells slots (MQ below (qC wf g h s.heap.size) args s cells slots (A1 h s.heap.size)) (F0 m pc ls []) := by
  obtain ⟨hx, hb, hml, hown, hts, hr, hlk, -⟩ := C0
  exact W.vret hx hb hr (fun t ht _ => ⟨rfl, ⟨q, hq, by rw [ht]; exact hP, hD⟩, hS.F ht⟩) hS.2.2 hdg hlk
/-- behind a constructor -/
theorem go_C {st0 : List Value} (hr : va_Run p l e R s m args below meth c H locs cells slots mc ms (F0 m pc ls st0) rest (qC wf g h H.size #[]) (A1 h H.size)) (hP : va_P g.1 vwCl (ws ++ [(h, e0)]) H) (hD : va_D A (ws ++ [(h, e0)])) (hS : va_S A s.heap H locs) (hA : ∀ q, s.heap.size ≤ q → A q)
    (kk : ∀ (q : Nat → Nat) (H1 : Heap) (locs1 : List Loc), q 0 = h → va_P g.1 vwCl (ws ++ wf q) H1 → va_D A (ws ++ wf q) → va_S A s.heap H1 locs1 → W p l e R s m args below meth c H1 locs1 (cells + mc) (slots + ms) Q (F0 m (pc + 3) ls rest)) : W p l e R s m args below meth c H locs cells slots Q (F0 m pc ls st0) := by
  intro T hT X
  obtain ⟨v, st₀, t, T', L, h0, X', hL, e1, e2, ⟨hv, ⟨q, hq, hPq, hDq⟩, hz, hk⟩, st⟩ := hr T hT X
  cases hv
  rw [h0] at hz hk
  rw [← e1] at hz hk hPq
  have hAh : A h := hD.2 ws.length (h, e0) (by simp)
  have hsub : ∀ q, A1 h H.size q → A q := fun q z => z.elim (fun z => by rw [z]; exact hAh) (fun z => hA q (Nat.le_trans hS.1 z))
  have hws : ∀ (k : Nat) (x : Nat × va_E), ws[k]? = some x → (ws ++ [(h, e0)])[k]? = some x := fun k x hx => by
    rw [List.getElem?_append_left (List.getElem?_eq_some_iff.mp hx).1]; exact hx
  have hne : ∀ (k : Nat) (x : Nat × va_E), ws[k]? = some x → x.1 < H.size ∧ ¬ A1 h H.size x.1 := fun k x hx => by
    have hl := (hP k x (hws k x hx)).lt
    refine ⟨hl, fun z => z.elim (fun z => ?_) (fun z => by omega)⟩
    have := hD.1 k ws.length x (h, e0) (hws k x hx) (by simp) z
    have := (List.getElem?_eq_some_iff.mp hx).1
    omega
  have hD0 : va_D A ws := ⟨fun i j x y hx hy he => hD.1 i j x y (hws i x hx) (hws j y hy) he, fun k x hx => hD.2 k x (hws k x hx)⟩
  obtain ⟨t2, a1, b1⟩ := kk q T'.heap (locs ++ L) hq (va_P.app (fun k x hx => (hP k x (hws k x hx)).kept (hk x.1 (hne k x hx).1 (hne k x hx).2)) hPq)
    (va_D.app hD0 (hDq.weaken (fun k x _ z => hsub _ z)) (fun i j x y hx hy he => (hne i x hx).2 (by rw [he]; exact hDq.2 j y hy)))
    ⟨Nat.le_trans hS.1 hz, fun q h1 h2 => by
      rw [hk q (Nat.lt_of_lt_of_le h1 hS.1) (fun z => h2 (hsub q z))]; exact hS.2.1 q h1 h2, fun q hq => by
      rcases List.mem_append.mp hq with z | z
      · exact hS.2.2 q z
      · exact hsub _ (hL q z)⟩ T' rfl X'
  exact ⟨t2, st t2 a1, b1⟩
theorem pC_blind {e0 : va_E} {sz : Nat} {av : List Value} : FrameBlind (pC [(h, e0)] (eN g) g sz av) := by
  intro a U f mk z
  exact ⟨z.1, z.2.1, z.2.2.1, eN_st (A := fun _ => False) U (U.calling f mk a) (State.WarmedH.refl U) (Nat.le_refl _) (fun _ _ _ => rfl) z.2.2.2⟩
theorem last_P {ws : va_W} {h : Nat} {e0 : va_E} (hP : va_P g.1 vwCl (ws ++ [(h, e0)]) H) : va_P g.1 vwCl [(h, e0)] H := by
  intro k q hk
  have h1 := (List.getElem?_eq_some_iff.mp hk).1
  simp at h1; subst h1; cases hk
  exact hP ws.length _ (by simp)
def pkI (y : MethodName) (bytes : ByteArray) (maxL n : Nat) : Prop :=
  Cond.instanceMethod y ∈ gw ∧ Cond.initialized y.cls ∈ gw ∧ Cond.code y bytes maxL none ∈ gw ∧ (y.cls ≠ "java/lang/invoke/MethodHandle" ∧ y.cls ≠ "java/lang/invoke/VarHandle" ∧ (parseMethodDescriptor y.desc).map (fun d => d.parameters.length) = some n) ∧ y.name = "<init>"
theorem cI_C (C0 : cxt E cc nL own ret p s m args meth c) (hE : eN g s) (hP : va_P g.1 vwCl (ws ++ [(h, e0)]) H) (hD : va_D A (ws ++ [(h, e0)])) (hS : va_S A s.heap H locs) (hA : ∀ q, s.heap.size ≤ q → A q)
    (pk : pkI y bytes maxL n) (hM : ∀ sz, Met l y (Cond.code y bytes maxL none :: gw) rm (pC [(h, e0)] (eN g) g sz (.ref h :: As)) (qC wf g h sz) mc ms (A1 h sz)) (hL : Cond.methodLink own index y ∈ gw)
    (hR : rm.cells = mc ∧ rm.slots = ms ∧ rm.frames + 1 ≤ R.frames ∧ 8 + (maxL + 11) + rm.locals ≤ R.locals ∧ cells + mc ≤ R.cells ∧ slots + ms ≤ R.slots)
    (hn : As.length = n) (hsz : ls.size = nL) (hst : st0 = As.reverse ++ .ref h :: rest) (hcat : (rest.map fun v => v.category).sum ≤ 8) (hdg : decode cc pc = .ok (.invokespecial index, 3))
    (kk : ∀ (q : Nat → Nat) (H1 : Heap) (locs1 : List Loc), q 0 = h → va_P g.1 vwCl (ws ++ wf q) H1 → va_D A (ws ++ wf q) → va_S A s.heap H1 locs1 → W p l e R s m args below meth c H1 locs1 (cells + mc) (slots + ms) Q (F0 m (pc + 3) ls rest)) : W p l e R s m args below meth c H locs cells slots Q (F0 m pc ls st0) := by
  obtain ⟨hx, hb, hml, hown, hts, -⟩ := C0
  obtain ⟨p1, p3, p4, p5, p6⟩ := pk
  obtain ⟨r1, r2, r3, r4, r5, r6⟩ := hR
  exact go_C (va_runI (Ts := gw) (As := As) (rest := rest) ⟨hx, hb, hml, hown, hts⟩ (hM H.size) ⟨callB_of n hts (gw_goodIn p4) rfl r1 r2 (hts _ p3) (hts _ hL) p5 ⟨r3, r4⟩, p6, hts _ p1⟩
    ⟨pC_blind, fun U hU1 hW => ⟨rfl, by rw [hU1], by rw [hU1]; exact last_P hP, eN_st (A := A) s U hW (by rw [hU1]; exact hS.1) (fun q h1 h2 => by rw [hU1]; exact hS.2.1 q h1 h2) hE⟩⟩ rfl hn hsz hst (by show 2 * 0 + _ ≤ 8; omega) hdg ⟨r5, r6⟩) hP hD hS hA kk
theorem cN_C (C0 : cxt E cc nL own ret p s m args meth c) (hE : eN g s) (hP : va_P g.1 vwCl (ws ++ [(h, e0)]) H) (hD : va_D A (ws ++ [(h, e0)])) (hS : va_S A s.heap H locs) (hA : ∀ q, s.heap.size ≤ q → A q)
    (pk : pkI y bytes maxL n) (hM : ∀ sz, Met l y (Cond.code y bytes maxL none :: gw) rm (pC [(h, e0)] (eN g) g sz (.ref h :: As)) (qC wf g h sz) mc ms (A1 h sz)) (hL : Cond.methodLinkNest own index y host ∈ nw)
    (hR : rm.cells = mc ∧ rm.slots = ms ∧ rm.frames + 1 ≤ R.frames ∧ 8 + (maxL + 11) + rm.locals ≤ R.locals ∧ cells + mc ≤ R.cells ∧ slots + ms ≤ R.slots)
    (hn : As.length = n) (hsz : ls.size = nL) (hst : st0 = As.reverse ++ .ref h :: rest) (hcat : (rest.map fun v => v.category).sum ≤ 8) (hdg : decode cc pc = .ok (.invokespecial index, 3))
    (kk : ∀ (q : Nat → Nat) (H1 : Heap) (locs1 : List Loc), q 0 = h → va_P g.1 vwCl (ws ++ wf q) H1 → va_D A (ws ++ wf q) → va_S A s.heap H1 locs1 → W p l e R s m args below meth c H1 locs1 (cells + mc) (slots + ms) Q (F0 m (pc + 3) ls rest)) : W p l e R s m args below meth c H locs cells slots Q (F0 m pc ls st0) := by
  obtain ⟨hx, hb, hml, hown, hts, -⟩ := C0
  obtain ⟨p1, p3, p4, p5, p6⟩ := pk
  obtain ⟨r1, r2, r3, r4, r5, r6⟩ := hR
  exact go_C (va_runIN (Ts := gw) (As := As) (rest := rest) ⟨hx, hb, hml, hown, hts⟩ (hM H.size) ⟨va_cnB n hts (gw_goodIn p4) rfl r1 r2 (hE.2.1 _ hL) (hts _ p3) p5 ⟨r3, r4⟩, p6, hts _ p1⟩
    ⟨pC_blind, fun U hU1 hW => ⟨rfl, by rw [hU1], by rw [hU1]; exact last_P hP, eN_st (A := A) s U hW (by rw [hU1]; exact hS.1) (fun q h1 h2 => by rw [hU1]; exact hS.2.1 q h1 h2) hE⟩⟩ rfl hn hsz hst (by show 2 * 0 + _ ≤ 8; omega) hdg ⟨r5, r6⟩) hP hD hS hA kk
end CTOR
