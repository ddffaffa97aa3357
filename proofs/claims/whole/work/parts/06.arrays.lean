/-! SpeakHall.at, SpeakHall.set, Standing.refill: rows of ints by address -/
def atF (f : Nat → Int32) (n : Nat) (i : Int32) : Int32 := if i < 0 then 0 else if nI n ≤ i then 0 else f i.toNatClampNeg
def setF (f : Nat → Int32) (n : Nat) (i v : Int32) : Nat → Int32 := if i < 0 then f else if nI n ≤ i then f else upd f i.toNatClampNeg v
def rfF (f : Nat → Int32) (n : Nat) (f2 : Nat → Int32) (n2 k : Nat) : Nat → Int32 := fun j => if j < k then atF f2 n2 (nI j) else f j
theorem in_of {i : Int32} {n : Nat} (hn : n < 2 ^ 31) (h0 : ¬ i < 0) (h1 : ¬ nI n ≤ i) : vp_in i n := by
  rcases pk_ix i hn with h | h | ⟨j, hj, rfl⟩
  · exact absurd h h0
  · exact absurd h h1
  · exact vp_in_nI hj hn
theorem va_P_set' {D : va_G} {cl : List vw_C} {ws : va_W} {a q0 : Nat} {e0 e : va_E} {H H1 : Heap} {A : Nat → Prop} (hP : va_P D cl ws H) (hD : va_D A ws) (he : ws[q0]? = some (a, e0)) (h1 : va_at D cl (a, e) H1) (hk : ∀ q : Nat, q < H.size → ¬ q = a → H1[q]? = H[q]?) : va_P D cl (ws.set q0 (a, e)) H1 := by
  intro k q hq
  have hlt : q0 < ws.length := (List.getElem?_eq_some_iff.mp he).1
  by_cases hkq : k = q0
  · subst hkq
    rw [List.getElem?_set_self hlt] at hq
    cases hq
    exact h1
  · rw [List.getElem?_set_ne (fun z => hkq z.symm)] at hq
    have hc := hP k q hq
    exact hc.kept (hk q.1 hc.lt (fun z => hkq (hD.1 k q0 q (a, e0) hq he z)))
theorem rdT_of {g : gG} {U : State} {H : Heap} {w : va_W} {q0 a n : Nat} {f : Nat → Int32} (hK : va_K g.1 vwCl (tyG g) U) (hP : va_P g.1 vwCl w H) (he : w[q0]? = some (a, .inl (g.2.1, n, .inl f))) : rdT a n f U H := by
  refine ⟨_, hP q0 _ he, (hK.2 0 _ rfl).1 n (fun j => .int (f j)), (fun q => by cases q), ?_, ?_, ?_, id⟩
  · show n ≤ (arrV _ _ _).slots.size; rw [arrV_size]; exact Nat.le_refl n
  · show (arrV _ _ _).slots.size.toInt32 = _; rw [arrV_size] <;> rfl
  · intro j hj; exact arrV_read _ _ hj
theorem est_X {a n : Nat} {f : Nat → Int32} : Est (fun _ => False) (fun U => rdT a n f U U.heap) := by
  intro u U hW hz hq h
  exact va_T.moved hW.alike (rdT_kept h (hq a (rdT_lt h) id))
theorem est_K {g : gG} {A : Nat → Prop} : Est A (fun U => va_K g.1 vwCl (tyG g) U) := fun _ _ hW _ _ h => va_K.moved hW.alike h
theorem pkX8_at : pkS yX8_at cX8_at 2 (some .int) 2 := ⟨mT_X8_at, mN_X8, mC_X8_at, by decide +kernel⟩
theorem pkX8_set : pkS yX8_set cX8_set 3 none 3 := ⟨mT_X8_set, mN_X8, mC_X8_set, by decide +kernel⟩
theorem pkX7_refill : pkS yX7_refill cX7_refill 3 none 2 := ⟨mT_X7_refill, mN_X7, mC_X7_refill, by decide +kernel⟩
set_option maxHeartbeats 1000000 in
theorem kX8_at (l : Launch) (g : gG) (a n : Nat) (f : Nat → Int32) (i : Int32) (hn : n < 2 ^ 31) : Met l yX8_at (Cond.code yX8_at cX8_at 2 (some .int) :: gw) { frames := 1, cells := 0, slots := 0, locals := 16 } (pG [] (fun U => rdT a n f U U.heap) g [.ref a, .int i]) (qR (some (.int (atF f n i))) True) 0 0 noA := by
  refine met_of (by decide) (Nat.le_of_ble_eq_true rfl) ?_
  intro p e s m args below meth c ls C0 hP hl
  obtain ⟨hx, hb, hml, hown, hts, hr, hlk, hX⟩ := id C0
  have hl : lv_has ls 2 [(0, .ref a), (1, .int i)] := hl
  have hS : va_S (fun _ => False) s.heap s.heap [] := va_S.rf
  refine lv_iload_n hx hb dX8_at_0 rfl (lv_at hl 1 rfl) ?_
  refine lv_if_lt (tgt := 16) hx hb dX8_at_1 (by decide) (fun c1 => ?_) (fun c1 => ?_)
  · have hv : atF f n i = 0 := if_pos c1
    rw [hv]
    refine lv_iconst (v := 0) hx hb dX8_at_16 (by decide) ?_
    exact ret_Ri C0 trivial dX8_at_17
  refine lv_iload_n hx hb dX8_at_4 rfl (lv_at hl 1 rfl) ?_
  refine lv_aload_n hx hb dX8_at_5 rfl (lv_at hl 0 rfl) ?_
  refine va_tlen hx hb hX hS (v := nI n) rfl dX8_at_6 ?_
  refine lv_icmp_ge (tgt := 16) hx hb dX8_at_7 (by decide) (fun c2 => ?_) (fun c2 => ?_)
  · have hv : atF f n i = 0 := (if_neg c1).trans (if_pos c2)
    rw [hv]
    refine lv_iconst (v := 0) hx hb dX8_at_16 (by decide) ?_
    exact ret_Ri C0 trivial dX8_at_17
  have hv : atF f n i = f i.toNatClampNeg := (if_neg c1).trans (if_neg c2)
  rw [hv]
  refine lv_aload_n hx hb dX8_at_10 rfl (lv_at hl 0 rfl) ?_
  refine lv_iload_n hx hb dX8_at_11 rfl (lv_at hl 1 rfl) ?_
  refine va_ti hx hb hX hS (in_of hn c1 c2) rfl dX8_at_12 ?_
  refine lv_goto (tgt := 17) hx hb dX8_at_13 (by decide) ?_
  exact ret_Ri C0 trivial dX8_at_17
set_option maxHeartbeats 1000000 in
theorem kX8_set (l : Launch) (g : gG) (a n : Nat) (f : Nat → Int32) (i v : Int32) (hn : n < 2 ^ 31) : Met l yX8_set (Cond.code yX8_set cX8_set 3 none :: gw) { frames := 1, cells := 0, slots := 0, locals := 16 } (pG [(a, .inl (g.2.1, n, .inl f))] (fun U => va_K g.1 vwCl (tyG g) U) g [.ref a, .int i, .int v]) (qW [(a, .inl (g.2.1, n, .inl (setF f n i v)))] g (fun q => q = a) none True) 0 0 (fun q => q = a) := by
  refine met_of (by decide) (Nat.le_of_ble_eq_true rfl) ?_
  intro p e s m args below meth c ls C0 hP hl
  obtain ⟨hx, hb, hml, hown, hts, hr, hlk, hK⟩ := id C0
  have hl : lv_has ls 3 [(0, .ref a), (1, .int i), (2, .int v)] := hl
  have hS : va_S (fun q => q = a) s.heap s.heap [] := va_S.rf
  have hD : va_D (fun q => q = a) [(a, .inl (g.2.1, n, .inl f))] := by
    refine ⟨fun i j p q hi hj _ => ?_, fun k q hk => ?_⟩
    · have h1 := (List.getElem?_eq_some_iff.mp hi).1
      have h2 := (List.getElem?_eq_some_iff.mp hj).1
      simp at h1 h2; omega
    · have h1 := (List.getElem?_eq_some_iff.mp hk).1
      simp at h1; subst h1; cases hk; rfl
  refine lv_iload_n hx hb dX8_set_0 rfl (lv_at hl 1 rfl) ?_
  refine lv_if_lt (tgt := 14) hx hb dX8_set_1 (by decide) (fun c1 => ?_) (fun c1 => ?_)
  · have hv : setF f n i v = f := if_pos c1
    rw [hv]
    exact ret_Wv C0 hP hS trivial dX8_set_14
  refine lv_iload_n hx hb dX8_set_4 rfl (lv_at hl 1 rfl) ?_
  refine lv_aload_n hx hb dX8_set_5 rfl (lv_at hl 0 rfl) ?_
  refine va_alen hx hb hK hP 0 0 rfl rfl (v := nI n) rfl dX8_set_6 ?_
  refine lv_icmp_ge (tgt := 14) hx hb dX8_set_7 (by decide) (fun c2 => ?_) (fun c2 => ?_)
  · have hv : setF f n i v = f := (if_neg c1).trans (if_pos c2)
    rw [hv]
    exact ret_Wv C0 hP hS trivial dX8_set_14
  have hv : setF f n i v = upd f i.toNatClampNeg v := (if_neg c1).trans (if_neg c2)
  rw [hv]
  refine lv_aload_n hx hb dX8_set_10 rfl (lv_at hl 0 rfl) ?_
  refine lv_iload_n hx hb dX8_set_11 rfl (lv_at hl 1 rfl) ?_
  refine lv_iload_n hx hb dX8_set_12 rfl (lv_at hl 2 rfl) ?_
  refine iast_W C0 hK hP hD hS 0 rfl (in_of hn c1 c2) rfl dX8_set_13 (fun H locs hP hS => ?_)
  exact ret_Wv C0 hP hS trivial dX8_set_14
section ARR
variable {p : Program} {l : Launch} {e : Env} {R : Room} {s : State} {m : MethodId} {args : Array Value} {below : List Frame} {meth : Method} {c : Code} {H : Heap} {locs : List Loc} {cells slots : Nat} {Q : State → Prop}
variable {E : State → Prop} {A : Nat → Prop} {cc : ByteArray} {nL n index pc a : Nat} {own : String} {ret : Option FieldType} {g : gG} {w w' : va_W} {rest : List Value} {ls : Array Slot} {f : Nat → Int32} {i v : Int32}
/-- at(row, i) from a nest mate -/
theorem at_X (g : gG) (C0 : cxt E cc nL own ret p s m args meth c) (hN : ∀ w ∈ nw, va_Nw w s) (hX : rdT a n f s H) (hn : n < 2 ^ 31) (hL : Cond.methodLinkNest own index yX8_at "SpeakHall" ∈ nw)
    (hR : 2 ≤ R.frames ∧ 37 ≤ R.locals ∧ cells ≤ R.cells ∧ slots ≤ R.slots) (hsz : ls.size = nL) (hcat : (rest.map fun v => v.category).sum ≤ 8) (hdg : decode cc pc = .ok (.invokestatic index, 3))
    (kk : W p l e R s m args below meth c H locs cells slots Q (F0 m (pc + 3) ls (.int (atF f n i) :: rest))) : W p l e R s m args below meth c H locs cells slots Q (F0 m pc ls (.int i :: .ref a :: rest)) :=
  go_R (rest := rest) (run_N (g := g) (w := []) (As := [.ref a, .int i]) (Qc := qR (some (.int (atF f n i))) True #[]) C0 (pG_blind est_X) (fun k q h => by simp at h) (fun U h1 h2 => by have := va_T.moved h2.alike hX; rw [← h1] at this; exact this) hN pkX8_at (kX8_at l g a n f i hn) hL ⟨rfl, rfl, hR.1, hR.2.1, hR.2.2.1, hR.2.2.2⟩ rfl hsz rfl hcat hdg) (fun _ => kk)
theorem at_W (C0 : cxt E cc nL own ret p s m args meth c) (hN : ∀ w ∈ nw, va_Nw w s) (hK : va_K g.1 vwCl (tyG g) s) (hP : va_P g.1 vwCl w H) (q0 : Nat) (he : w[q0]? = some (a, .inl (g.2.1, n, .inl f))) (hn : n < 2 ^ 31) (hL : Cond.methodLinkNest own index yX8_at "SpeakHall" ∈ nw)
    (hR : 2 ≤ R.frames ∧ 37 ≤ R.locals ∧ cells ≤ R.cells ∧ slots ≤ R.slots) (hsz : ls.size = nL) (hcat : (rest.map fun v => v.category).sum ≤ 8) (hdg : decode cc pc = .ok (.invokestatic index, 3))
    (kk : W p l e R s m args below meth c H locs cells slots Q (F0 m (pc + 3) ls (.int (atF f n i) :: rest))) : W p l e R s m args below meth c H locs cells slots Q (F0 m pc ls (.int i :: .ref a :: rest)) :=
  at_X g C0 hN (rdT_of hK hP he) hn hL hR hsz hcat hdg kk
/-- set(row, i, v) from a nest mate -/
theorem set_W (C0 : cxt E cc nL own ret p s m args meth c) (hN : ∀ w ∈ nw, va_Nw w s) (hK : va_K g.1 vwCl (tyG g) s) (hP : va_P g.1 vwCl w H) (hD : va_D A w) (hS : va_S A s.heap H locs) (q0 : Nat) (he : w[q0]? = some (a, .inl (g.2.1, n, .inl f))) (hn : n < 2 ^ 31) (hset : w.set q0 (a, .inl (g.2.1, n, .inl (setF f n i v))) = w') (hL : Cond.methodLinkNest own index yX8_set "SpeakHall" ∈ nw)
    (hR : 2 ≤ R.frames ∧ 38 ≤ R.locals ∧ cells ≤ R.cells ∧ slots ≤ R.slots) (hsz : ls.size = nL) (hcat : (rest.map fun v => v.category).sum ≤ 8) (hdg : decode cc pc = .ok (.invokestatic index, 3))
    (kk : ∀ (H1 : Heap) (locs1 : List Loc), va_P g.1 vwCl w' H1 → va_S A s.heap H1 locs1 → W p l e R s m args below meth c H1 locs1 cells slots Q (F0 m (pc + 3) ls rest)) : W p l e R s m args below meth c H locs cells slots Q (F0 m pc ls (.int v :: .int i :: .ref a :: rest)) :=
  go_W (rest := rest) (run_N (w := [(a, .inl (g.2.1, n, .inl f))]) (As := [.ref a, .int i, .int v]) (Qc := qW [(a, .inl (g.2.1, n, .inl (setF f n i v)))] g (fun q => q = a) none True #[]) C0 (pG_blind (A := A) est_K) (hP.sub [q0] (by simp [he])) (fun U h1 h2 => va_K.moved h2.alike hK) hN pkX8_set (kX8_set l g a n f i v hn) hL ⟨rfl, rfl, hR.1, hR.2.1, hR.2.2.1, hR.2.2.2⟩ rfl hsz rfl hcat hdg) hS (fun q h => by rw [h]; exact hD.2 q0 _ he)
    (fun H1 locs1 _ hP1 hS1 hz hk => kk H1 locs1 (by rw [← hset]; exact va_P_set' hP hD he (hP1 0 _ rfl) hk) hS1)
end ARR
