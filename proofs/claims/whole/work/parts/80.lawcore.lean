theorem D_apt {A : Nat → Prop} {n : Nat} {ad : Nat → Nat} {w : va_W} (hD : va_D A w) (hw : w.map Prod.fst = (List.range n).map ad) : Apt n ad ∧ ∀ k, k < n → A (ad k) := by
  have key : ∀ i, i < n → ∃ q : Nat × va_E, w[i]? = some q ∧ q.1 = ad i := by
    intro i hi
    have h1 : ((List.range n).map ad)[i]? = some (ad i) := by rw [List.getElem?_map, List.getElem?_range hi]; rfl
    rw [← hw, List.getElem?_map] at h1
    cases hq : w[i]? with
    | none => rw [hq] at h1; cases h1
    | some q => rw [hq] at h1; exact ⟨q, rfl, Option.some.inj h1⟩
  refine ⟨fun i j hi hj he => ?_, fun k hk => ?_⟩
  · obtain ⟨p, h1, h2⟩ := key i hi
    obtain ⟨q, h3, h4⟩ := key j hj
    exact hD.1 i j p q h1 h3 (by rw [h2, h4, he])
  · obtain ⟨p, h1, h2⟩ := key k hk
    rw [← h2]; exact hD.2 k p h1
theorem va_P_l {D : va_G} {cl : List vw_C} {w1 w2 : va_W} {H : Heap} (h : va_P D cl (w1 ++ w2) H) : va_P D cl w1 H := fun k q hk => h k q (by rw [List.getElem?_append_left (List.getElem?_eq_some_iff.mp hk).1]; exact hk)
theorem va_P_r {D : va_G} {cl : List vw_C} {w1 w2 : va_W} {H : Heap} (h : va_P D cl (w1 ++ w2) H) : va_P D cl w2 H := fun k q hk => h (w1.length + k) q (by rw [List.getElem?_append_right (Nat.le_add_right _ _), Nat.add_sub_cancel_left]; exact hk)
theorem va_D_l {A : Nat → Prop} {w1 w2 : va_W} (h : va_D A (w1 ++ w2)) : va_D A w1 := by
  have e : ∀ (k : Nat) (q : Nat × va_E), w1[k]? = some q → (w1 ++ w2)[k]? = some q := fun k q hk => by rw [List.getElem?_append_left (List.getElem?_eq_some_iff.mp hk).1]; exact hk
  exact ⟨fun i j p q hp hq he => h.1 i j p q (e i p hp) (e j q hq) he, fun k q hk => h.2 k q (e k q hk)⟩
theorem va_D_r {A : Nat → Prop} {w1 w2 : va_W} (h : va_D A (w1 ++ w2)) : va_D A w2 := by
  have e : ∀ (k : Nat) (q : Nat × va_E), w2[k]? = some q → (w1 ++ w2)[w1.length + k]? = some q := fun k q hk => by rw [List.getElem?_append_right (Nat.le_add_right _ _), Nat.add_sub_cancel_left]; exact hk
  refine ⟨fun i j p q hp hq he => ?_, fun k q hk => h.2 _ q (e k q hk)⟩
  have := h.1 _ _ p q (e i p hp) (e j q hq) he
  omega
theorem va_D_x {A : Nat → Prop} {w1 w2 : va_W} {n1 n2 : Nat} {a1 a2 : Nat → Nat} (h : va_D A (w1 ++ w2)) (h1 : w1.map Prod.fst = (List.range n1).map a1) (h2 : w2.map Prod.fst = (List.range n2).map a2) : ∀ i j, i < n1 → j < n2 → a1 i ≠ a2 j := by
  intro i j hi hj he
  have key : ∀ {n : Nat} {ad : Nat → Nat} {w : va_W}, w.map Prod.fst = (List.range n).map ad → ∀ i, i < n → ∃ q : Nat × va_E, w[i]? = some q ∧ q.1 = ad i := by
    intro n ad w hw i hi
    have h1 : ((List.range n).map ad)[i]? = some (ad i) := by rw [List.getElem?_map, List.getElem?_range hi]; rfl
    rw [← hw, List.getElem?_map] at h1
    cases hq : w[i]? with
    | none => rw [hq] at h1; cases h1
    | some q => rw [hq] at h1; exact ⟨q, rfl, Option.some.inj h1⟩
  obtain ⟨p, p1, p2⟩ := key h1 i hi
  obtain ⟨q, q1, q2⟩ := key h2 j hj
  have hl := (List.getElem?_eq_some_iff.mp p1).1
  have := h.1 i (w1.length + j) p q (by rw [List.getElem?_append_left hl]; exact p1) (by rw [List.getElem?_append_right (Nat.le_add_right _ _), Nat.add_sub_cancel_left]; exact q1) (by rw [p2, q2, he])
  omega
/-- a world of another kind stays when the machine writes in A1 alone -/
theorem P_kept {n : Nat} {ad : Nat → Nat} {w : va_W} {D : va_G} {cl : List vw_C} {H H1 : Heap} {A1 : Nat → Prop} (hw : w.map Prod.fst = (List.range n).map ad) (hP : va_P D cl w H) (hx : ∀ j, j < n → ¬ A1 (ad j)) (hk : ∀ q : Nat, q < H.size → ¬ A1 q → H1[q]? = H[q]?) : va_P D cl w H1 := by
  intro k q hq
  have h := hP k q hq
  have h1 : (w.map Prod.fst)[k]? = some q.1 := by rw [List.getElem?_map, hq]; rfl
  rw [hw, List.getElem?_map] at h1
  by_cases hi : k < n
  · rw [List.getElem?_range hi] at h1
    exact h.kept (hk q.1 h.lt (by rw [← Option.some.inj h1]; exact hx k hi))
  · rw [List.getElem?_eq_none (by simp; omega)] at h1
    cases h1
/-! THE CLAIM OUT OF ONE WALK OF THE LAW'S BODY -/
def R_law : String := "SpeakHallLaw"
def lw_P (b : Addr) (xs : List Int32) (args : Array Value) (s : State) : Prop := args = #[.ref b] ∧ s.IntsAt b xs ∧ xs.length ≤ 3072 ∧ (Jvm.Cond.and given_1 narrow_1).before args s = true
def lw_Q (_ : Array Value) (s : State) (o : Outcome) (t : State) : Prop := o = .returned (some (.int 1)) ∧ Framed s o t [] 600000 7302250
def lw_Z (below : List Frame) (a : Array Value) (s : State) : State → Prop := fun t => ∃ o, t.status = .running ∧ Ended t below o ∧ lw_Q a s o t
/-- the law's own end, with 1 on the stack, nothing written that was there before, its room as the claim has it -/
theorem lw_ret {p : Program} {l : Launch} {e : Env} {s : State} {m : MethodId} {below : List Frame} {meth : Method} {c : Code} {b : Nat} (hx : p.tables.exec = Jvm.exec) (hb : c.code = code) (hr : meth.sig.returnType = ret) (hlocks : meth.locks = false) {pc : Nat} {H : Heap} {ls : Array Slot} (hdg : decode code pc = .ok (.ireturn, 1)) : W p l e room_1 s m #[Value.ref b] below meth c H [] 600000 7302250 (lw_Z below #[Value.ref b] s) (F0 m pc ls [.int 1]) := by
  intro T hT X
  obtain ⟨fs, hret, hrun, hended, hW, hframe⟩ := X.leave (v := some (.int 1)) (hlocks := hlocks) (fun h => by rw [hr] at h; cases h)
  have hmeth' : T.vm.method? m = some meth := X.method'
  refine ⟨T.setFrames fs, ?_, .returned (some (.int 1)), hrun, hended, rfl, ⟨_, rfl⟩, hW, hframe⟩
  jvm_step X.here [X.here.top, hx, hb, hdg, hmeth', hr, ret, narrow_b1]
  (try refine ⟨rfl, ?_⟩); (try refine ⟨rfl, ?_⟩)
  first | (intro acts; rw [hret _ acts rfl rfl rfl]) | rw [hret _ _ rfl rfl rfl]
  exact Steps.refl _
/-- what holds at the law's entry: the machine, the code, the tables' words (any of lw_tbl by 'hts w (by decide +kernel)'), the script of L ints xs at the cell b, what the Statement gives of the start (any of its parts by flat_of_before) -/
def lw_At (p : Program) (s : State) (m : MethodId) (meth : Method) (c : Code) (b L : Nat) (xs : Nat → Int32) : Prop :=
  p.tables.exec = Jvm.exec ∧ c.code = code ∧ meth.sig.returnType = ret ∧ c.maxLocals = 4 ∧ s.vm.findClass R_law = some m.cls ∧ (∀ w ∈ lw_tbl, w.before #[Value.ref b] s = true) ∧ va_X b L xs s s.heap ∧ b < s.heap.size ∧ meth.locks = false ∧ (Jvm.Cond.and given_1 narrow_1).before #[Value.ref b] s = true
section LAW
variable {p : Program} {l : Launch} {e : Env} {s : State} {m : MethodId} {below : List Frame} {meth : Method} {c : Code} {H : Heap} {locs : List Loc} {Q : State → Prop}
variable {g : gG} {adX adM : Nat → Nat} {tk b L : Nat} {xs : Nat → Int32} {mX mX' mM mM' : Mem} {y : MethodName} {bytes : ByteArray} {maxL n index pc : Nat} {ret' : Option FieldType} {rm : Room} {As rest st0 : List Value} {r : Int32} {ls : Array Slot}
def lawC (g : gG) (adX adM : Nat → Nat) (tk b L : Nat) (xs : Nat → Int32) (p : Program) (s : State) (m : MethodId) (meth : Method) (c : Code) : Prop :=
  cxt (fun _ => True) cL_law 4 RL ret p s m #[Value.ref b] meth c ∧ va_X b L xs s s.heap ∧ b < s.heap.size ∧ eX g adX tk s ∧ eM g adM s ∧ (∀ k, k < 44 → s.heap.size ≤ adX k) ∧ (∀ k, k < 29 → s.heap.size ≤ adM k) ∧ ∀ i j, i < 44 → j < 29 → adX i ≠ adM j
theorem law_X (C : lawC g adX adM tk b L xs p s m meth c) (hPX : va_P g.1 vwCl (wX g adX mX) H) (hPM : va_P g.1 vwCl (wM g adM mM) H) (hS : va_S (fun q : Nat => s.heap.size ≤ q) s.heap H locs)
    (pk : pkV y bytes maxL ret' RX8 n) (hM : Met l y (Cond.code y bytes maxL ret' :: gw) rm (pG (wX g adX mX) (eX g adX tk) g (.ref (adX 0) :: As)) (qW (wX g adX mX') g (AW 44 adX) (some (.int r)) True) 0 0 (AW 44 adX)) (hL : Cond.methodLink RL index y ∈ gw)
    (hR : rm.cells = 0 ∧ rm.slots = 0 ∧ rm.frames + 1 ≤ 10 ∧ 8 + (maxL + 11) + rm.locals ≤ 350) (hn : As.length = n) (hsz : ls.size = 4) (hst : st0 = As.reverse ++ .ref (adX 0) :: rest) (hcat : (rest.map fun v => v.category).sum ≤ 8) (hdg : decode cL_law pc = .ok (.invokevirtual index, 3))
    (kk : ∀ (H1 : Heap) (locs1 : List Loc), va_P g.1 vwCl (wX g adX mX') H1 → va_P g.1 vwCl (wM g adM mM) H1 → va_S (fun q : Nat => s.heap.size ≤ q) s.heap H1 locs1 → W p l e room_1 s m #[Value.ref b] below meth c H1 locs1 600000 7302250 Q (F0 m (pc + 3) ls (.int r :: rest))) : W p l e room_1 s m #[Value.ref b] below meth c H locs 600000 7302250 Q (F0 m pc ls st0) := by
  obtain ⟨C0, hX, hbl, hE, hEM, fX, fM, hxm⟩ := C
  refine go_W (w' := wX g adX mX') (A1 := AW 44 adX) (rest := rest) (run_V (E' := eX g adX tk) (Qc := qW (wX g adX mX') g (AW 44 adX) (some (.int r)) True #[]) C0 (pG_blind eX_st) hPX (fun U h1 h2 => eX_st s U h2 (by rw [h1]; exact hS.1) (fun q h3 _ => by rw [h1]; exact hS.2.1 q h3 (Nat.not_le.mpr h3)) hE) hE.1 pk hM hL ⟨hR.1, hR.2.1, hR.2.2.1, hR.2.2.2, Nat.le_refl _, Nat.le_refl _⟩ 0 wX_0 rfl rfl hn hsz hst hcat hdg) hS (fun q h => by obtain ⟨k, hk, rfl⟩ := h; exact fX k hk) (fun H1 locs1 _ h2 h3 _ hk => kk H1 locs1 h2 (P_kept wM_fst hPM (fun j hj z => by obtain ⟨k, h4, h5⟩ := z; exact hxm k j h4 hj h5.symm) hk) h3)
theorem law_M (C : lawC g adX adM tk b L xs p s m meth c) (hPX : va_P g.1 vwCl (wX g adX mX) H) (hPM : va_P g.1 vwCl (wM g adM mM) H) (hS : va_S (fun q : Nat => s.heap.size ≤ q) s.heap H locs)
    (pk : pkV y bytes maxL ret' RX9 n) (hM : Met l y (Cond.code y bytes maxL ret' :: gw) rm (pG (wM g adM mM) (eM g adM) g (.ref (adM 0) :: As)) (qW (wM g adM mM') g (AW 29 adM) (some (.int r)) True) 0 0 (AW 29 adM)) (hL : Cond.methodLink RL index y ∈ gw)
    (hR : rm.cells = 0 ∧ rm.slots = 0 ∧ rm.frames + 1 ≤ 10 ∧ 8 + (maxL + 11) + rm.locals ≤ 350) (hn : As.length = n) (hsz : ls.size = 4) (hst : st0 = As.reverse ++ .ref (adM 0) :: rest) (hcat : (rest.map fun v => v.category).sum ≤ 8) (hdg : decode cL_law pc = .ok (.invokevirtual index, 3))
    (kk : ∀ (H1 : Heap) (locs1 : List Loc), va_P g.1 vwCl (wX g adX mX) H1 → va_P g.1 vwCl (wM g adM mM') H1 → va_S (fun q : Nat => s.heap.size ≤ q) s.heap H1 locs1 → W p l e room_1 s m #[Value.ref b] below meth c H1 locs1 600000 7302250 Q (F0 m (pc + 3) ls (.int r :: rest))) : W p l e room_1 s m #[Value.ref b] below meth c H locs 600000 7302250 Q (F0 m pc ls st0) := by
  obtain ⟨C0, hX, hbl, hE, hEM, fX, fM, hxm⟩ := C
  refine go_W (w' := wM g adM mM') (A1 := AW 29 adM) (rest := rest) (run_V (E' := eM g adM) (Qc := qW (wM g adM mM') g (AW 29 adM) (some (.int r)) True #[]) C0 (pG_blind eM_st) hPM (fun U h1 h2 => eM_st s U h2 (by rw [h1]; exact hS.1) (fun q h3 _ => by rw [h1]; exact hS.2.1 q h3 (Nat.not_le.mpr h3)) hEM) hE.1 pk hM hL ⟨hR.1, hR.2.1, hR.2.2.1, hR.2.2.2, Nat.le_refl _, Nat.le_refl _⟩ 0 wM_0 rfl rfl hn hsz hst hcat hdg) hS (fun q h => by obtain ⟨k, hk, rfl⟩ := h; exact fM k hk) (fun H1 locs1 _ h2 h3 _ hk => kk H1 locs1 (P_kept wX_fst hPX (fun j hj z => by obtain ⟨k, h4, h5⟩ := z; exact hxm j k hj h4 h5) hk) h2 h3)
theorem law_XR (C : lawC g adX adM tk b L xs p s m meth c) (hPX : va_P g.1 vwCl (wX g adX mX) H) (hS : va_S (fun q : Nat => s.heap.size ≤ q) s.heap H locs)
    (pk : pkV y bytes maxL ret' RX8 n) (hM : Met l y (Cond.code y bytes maxL ret' :: gw) rm (pG (wX g adX mX) (eX g adX tk) g (.ref (adX 0) :: As)) (qR (some (.int r)) True) 0 0 noA) (hL : Cond.methodLink RL index y ∈ gw)
    (hR : rm.cells = 0 ∧ rm.slots = 0 ∧ rm.frames + 1 ≤ 10 ∧ 8 + (maxL + 11) + rm.locals ≤ 350) (hn : As.length = n) (hsz : ls.size = 4) (hst : st0 = As.reverse ++ .ref (adX 0) :: rest) (hcat : (rest.map fun v => v.category).sum ≤ 8) (hdg : decode cL_law pc = .ok (.invokevirtual index, 3))
    (kk : W p l e room_1 s m #[Value.ref b] below meth c H locs 600000 7302250 Q (F0 m (pc + 3) ls (.int r :: rest))) : W p l e room_1 s m #[Value.ref b] below meth c H locs 600000 7302250 Q (F0 m pc ls st0) := by
  obtain ⟨C0, hX, hbl, hE, hEM, fX, fM, hxm⟩ := C
  exact go_R (rest := rest) (run_V (E' := eX g adX tk) (Qc := qR (some (.int r)) True #[]) C0 (pG_blind eX_st) hPX (fun U h1 h2 => eX_st s U h2 (by rw [h1]; exact hS.1) (fun q h3 _ => by rw [h1]; exact hS.2.1 q h3 (Nat.not_le.mpr h3)) hE) hE.1 pk hM hL ⟨hR.1, hR.2.1, hR.2.2.1, hR.2.2.2, Nat.le_refl _, Nat.le_refl _⟩ 0 wX_0 rfl rfl hn hsz hst hcat hdg) (fun _ => kk)
theorem law_MR (C : lawC g adX adM tk b L xs p s m meth c) (hPM : va_P g.1 vwCl (wM g adM mM) H) (hS : va_S (fun q : Nat => s.heap.size ≤ q) s.heap H locs)
    (pk : pkV y bytes maxL ret' RX9 n) (hM : Met l y (Cond.code y bytes maxL ret' :: gw) rm (pG (wM g adM mM) (eM g adM) g (.ref (adM 0) :: As)) (qR (some (.int r)) True) 0 0 noA) (hL : Cond.methodLink RL index y ∈ gw)
    (hR : rm.cells = 0 ∧ rm.slots = 0 ∧ rm.frames + 1 ≤ 10 ∧ 8 + (maxL + 11) + rm.locals ≤ 350) (hn : As.length = n) (hsz : ls.size = 4) (hst : st0 = As.reverse ++ .ref (adM 0) :: rest) (hcat : (rest.map fun v => v.category).sum ≤ 8) (hdg : decode cL_law pc = .ok (.invokevirtual index, 3))
    (kk : W p l e room_1 s m #[Value.ref b] below meth c H locs 600000 7302250 Q (F0 m (pc + 3) ls (.int r :: rest))) : W p l e room_1 s m #[Value.ref b] below meth c H locs 600000 7302250 Q (F0 m pc ls st0) := by
  obtain ⟨C0, hX, hbl, hE, hEM, fX, fM, hxm⟩ := C
  exact go_R (rest := rest) (run_V (E' := eM g adM) (Qc := qR (some (.int r)) True #[]) C0 (pG_blind eM_st) hPM (fun U h1 h2 => eM_st s U h2 (by rw [h1]; exact hS.1) (fun q h3 _ => by rw [h1]; exact hS.2.1 q h3 (Nat.not_le.mpr h3)) hEM) hE.1 pk hM hL ⟨hR.1, hR.2.1, hR.2.2.1, hR.2.2.2, Nat.le_refl _, Nat.le_refl _⟩ 0 wM_0 rfl rfl hn hsz hst hcat hdg) (fun _ => kk)
end LAW
