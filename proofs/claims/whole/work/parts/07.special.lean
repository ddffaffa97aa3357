/-! Standing.refill, SpeakHall.sheetAt -/
def shF (i : Int32) : Option Nat := if i < 0 then none else if 4 ≤ i then none else some (36 + 2 * i.toNatClampNeg)
def shV (ad : Nat → Nat) (o : Option Nat) : Value := match o with
  | none => .null
  | some k => .ref (ad k)
theorem oc_none {α : Type} {a : Option α} {f : Nat → Option α} : oc none a f = a := rfl
theorem oc_some {α : Type} {a : Option α} {f : Nat → Option α} {k : Nat} : oc (some k) a f = f k := rfl
theorem in4 {i : Int32} (h0 : ¬ i < 0) (h1 : ¬ 4 ≤ i) : vp_in i 4 := in_of (n := 4) (by decide) h0 h1
theorem shF_in {i : Int32} {k : Nat} (h : shF i = some k) : isSh k := by
  unfold shF at h
  by_cases c1 : i < 0
  · rw [if_pos c1] at h; cases h
  · rw [if_neg c1] at h
    by_cases c2 : 4 ≤ i
    · rw [if_pos c2] at h; cases h
    · rw [if_neg c2] at h
      cases h
      have h4 := (in4 c1 c2)
      have : i.toNatClampNeg < 4 := Nat.not_le.mp fun q => h4 (Or.inr q)
      unfold isSh; omega
theorem pkX8_sheetAt : pkV yX8_sheetAt cX8_sheetAt 2 (some (.object "SpeakHall$Sheet")) RX8 1 := ⟨mI_X8_sheetAt, mS_X8_sheetAt, mN_X8, mC_X8_sheetAt, by decide +kernel⟩
set_option maxHeartbeats 1000000 in
theorem kX8_sheetAt (l : Launch) (g : gG) (ad : Nat → Nat) (tk : Nat) (mem : Mem) (a1 : Int32) : Met l yX8_sheetAt (Cond.code yX8_sheetAt cX8_sheetAt 2 (some (.object "SpeakHall$Sheet")) :: gw) { frames := 1, cells := 0, slots := 0, locals := 24 } (pG (wX g ad mem) (eX g ad tk) g [.ref (ad 0), .int a1]) (qR (some (shV ad (shF a1))) True) 0 0 noA := by
  refine met_of (by decide) (Nat.le_of_ble_eq_true rfl) ?_
  intro p e s m args below meth c ls C0 hP hl
  obtain ⟨hx, hb, hml, hown, hts, hr, hlk, hE⟩ := id C0
  obtain ⟨hK, hN, hA, hZ, hT, hTA⟩ := id hE
  have hl : lv_has ls 2 [(0, .ref (ad 0)), (1, .int a1)] := hl
  have hS : va_S (AW 44 ad) s.heap s.heap [] := va_S.rf
  refine lv_iload_n hx hb dX8_sheetAt_0 rfl (lv_at hl 1 rfl) ?_
  refine lv_if_lt (tgt := 22) hx hb dX8_sheetAt_1 (by decide) (fun c1 => ?_) (fun c1 => ?_)
  · have hv : shF a1 = none := if_pos c1
    rw [hv]
    refine lv_null hx hb dX8_sheetAt_22 ?_
    exact W.aret hx hb hr (Or.inl ⟨_, rfl⟩) (Or.inl rfl) (fun t ht _ => ⟨rfl, trivial, ht⟩) (fun q h => by cases h) dX8_sheetAt_23 hlk
  refine lv_iload_n hx hb dX8_sheetAt_4 rfl (lv_at hl 1 rfl) ?_
  refine lv_aload_n hx hb dX8_sheetAt_5 rfl (lv_at hl 0 rfl) ?_
  refine get_W C0 hK hP iwX8 0 wX_0 rfl 8 (by decide) mF_X8_67 rfl rfl dX8_sheetAt_6 ?_
  refine va_alen hx hb hK hP 35 2 wX_35 rfl (v := 4) rfl dX8_sheetAt_9 ?_
  refine lv_icmp_ge (tgt := 22) hx hb dX8_sheetAt_10 (by decide) (fun c2 => ?_) (fun c2 => ?_)
  · have hv : shF a1 = none := (if_neg c1).trans (if_pos c2)
    rw [hv]
    refine lv_null hx hb dX8_sheetAt_22 ?_
    exact W.aret hx hb hr (Or.inl ⟨_, rfl⟩) (Or.inl rfl) (fun t ht _ => ⟨rfl, trivial, ht⟩) (fun q h => by cases h) dX8_sheetAt_23 hlk
  have hv : shF a1 = some (36 + 2 * a1.toNatClampNeg) := (if_neg c1).trans (if_neg c2)
  rw [hv]
  refine lv_aload_n hx hb dX8_sheetAt_13 rfl (lv_at hl 0 rfl) ?_
  refine get_W C0 hK hP iwX8 0 wX_0 rfl 8 (by decide) mF_X8_67 rfl rfl dX8_sheetAt_14 ?_
  refine lv_iload_n hx hb dX8_sheetAt_17 rfl (lv_at hl 1 rfl) ?_
  refine va_aldq hx hb hK hP 35 2 wX_35 rfl (in4 c1 c2) dX8_sheetAt_18 ?_
  refine lv_goto (tgt := 23) hx hb dX8_sheetAt_19 (by decide) ?_
  exact W.aret hx hb hr (Or.inl ⟨_, rfl⟩) (Or.inr ⟨_, rfl⟩) (fun t ht _ => ⟨rfl, trivial, ht⟩) (fun q h => by cases h) dX8_sheetAt_23 hlk
def eRf (g : gG) (U : State) : Prop := va_K g.1 vwCl (tyG g) U ∧ ∀ w ∈ nw, va_Nw w U
theorem eRf_st {g : gG} {A : Nat → Prop} : Est A (eRf g) := by
  intro u U hW _ _ h
  refine ⟨va_K.moved hW.alike h.1, fun w hw => ?_⟩
  obtain ⟨a, i, x, z, rfl⟩ := nw_meth w hw
  exact va_Nw.warmM hW (h.2 _ hw)
abbrev w2 (g : gG) (a b n n2 : Nat) (f f2 : Nat → Int32) : va_W := [(a, .inl (g.2.1, n, .inl f)), (b, .inl (g.2.1, n2, .inl f2))]
theorem w2_D {g : gG} {a b n n2 : Nat} {f f2 : Nat → Int32} (hab : a ≠ b) : va_D (fun q => q = a ∨ q = b) (w2 g a b n n2 f f2) := by
  refine ⟨fun i j p q hi hj he => ?_, fun k q hk => ?_⟩
  · have h1 := (List.getElem?_eq_some_iff.mp hi).1
    have h2 := (List.getElem?_eq_some_iff.mp hj).1
    simp at h1 h2
    rcases (show i = 0 ∨ i = 1 by omega) with rfl | rfl <;> rcases (show j = 0 ∨ j = 1 by omega) with rfl | rfl
    · rfl
    · cases hi; cases hj; exact absurd he hab
    · cases hi; cases hj; exact absurd he.symm hab
    · rfl
  · have h1 := (List.getElem?_eq_some_iff.mp hk).1
    simp at h1
    rcases (show k = 0 ∨ k = 1 by omega) with rfl | rfl
    · cases hk; exact Or.inl rfl
    · cases hk; exact Or.inr rfl
theorem rfF_0 {f f2 : Nat → Int32} {n n2 : Nat} : rfF f n f2 n2 0 = f := by funext j; simp [rfF]
theorem rfF_s {f f2 : Nat → Int32} {n n2 k : Nat} : upd (rfF f n f2 n2 k) k (atF f2 n2 (nI k)) = rfF f n f2 n2 (k + 1) := by
  funext j
  unfold upd rfF
  by_cases h : j = k
  · subst h; simp
  · by_cases h2 : j < k
    · rw [if_neg h, if_pos h2, if_pos (by omega)]
    · rw [if_neg h, if_neg h2, if_neg (by omega)]
set_option maxHeartbeats 1000000 in
theorem lpX7_refill {p : Program} {l : Launch} {e : Env} {s : State} {m : MethodId} {args : Array Value} {below : List Frame} {meth : Method} {c : Code} (g : gG) (a b n n2 : Nat) (f f2 : Nat → Int32) (hab : a ≠ b) (hn : n < 2 ^ 31) (hn2 : n2 < 2 ^ 31) (C0 : cxt (eRf g) cX7_refill 3 RX7 none p s m args meth c) :
    ∀ (d k : Nat) (H : Heap) (locs : List Loc) (ls : Array Slot), k + d = n → va_P g.1 vwCl (w2 g a b n n2 (rfF f n f2 n2 k) f2) H → va_S (fun q => q = a ∨ q = b) s.heap H locs → lv_has ls 3 [(0, .ref a), (1, .ref b), (2, .int (nI k))] →
      W p l e { frames := 2, cells := 0, slots := 0, locals := 37 } s m args below meth c H locs 0 0 (MQ below (qW (w2 g a b n n2 (rfF f n f2 n2 n) f2) g (fun q => q = a ∨ q = b) none True) args s 0 0 (fun q => q = a ∨ q = b)) (F0 m 2 ls []) := by
  obtain ⟨hx, hb, hml, hown, hts, hr, hlk, hK, hN⟩ := id C0
  intro d
  induction d with
  | zero =>
    intro k H locs ls hk hP hS hl
    have : k = n := by omega
    subst this
    refine lv_iload_n hx hb dX7_refill_2 rfl (lv_at hl 2 rfl) ?_
    refine lv_aload_n hx hb dX7_refill_3 rfl (lv_at hl 0 rfl) ?_
    refine va_alen hx hb hK hP 0 0 rfl rfl (v := nI k) rfl dX7_refill_4 ?_
    refine lv_icmp_ge (tgt := 22) hx hb dX7_refill_5 (by decide) (fun c2 => ?_) (fun c2 => ?_)
    · exact ret_Wv C0 hP hS trivial dX7_refill_22
    · exact absurd (nI_le (Nat.le_refl k) hn) c2
  | succ d ih =>
    intro k H locs ls hk hP hS hl
    refine lv_iload_n hx hb dX7_refill_2 rfl (lv_at hl 2 rfl) ?_
    refine lv_aload_n hx hb dX7_refill_3 rfl (lv_at hl 0 rfl) ?_
    refine va_alen hx hb hK hP 0 0 rfl rfl (v := nI n) rfl dX7_refill_4 ?_
    refine lv_icmp_ge (tgt := 22) hx hb dX7_refill_5 (by decide) (fun c2 => ?_) (fun c2 => ?_)
    · exact absurd c2 (nI_ge (by omega) hn)
    refine lv_aload_n hx hb dX7_refill_8 rfl (lv_at hl 0 rfl) ?_
    refine lv_iload_n hx hb dX7_refill_9 rfl (lv_at hl 2 rfl) ?_
    refine lv_aload_n hx hb dX7_refill_10 rfl (lv_at hl 1 rfl) ?_
    refine lv_iload_n hx hb dX7_refill_11 rfl (lv_at hl 2 rfl) ?_
    refine at_W C0 hN hK hP 1 rfl hn2 nN_X7_42 ⟨Nat.le_of_ble_eq_true rfl, Nat.le_of_ble_eq_true rfl, Nat.le_of_ble_eq_true rfl, Nat.le_of_ble_eq_true rfl⟩ hl.1 (Nat.le_of_ble_eq_true rfl) dX7_refill_12 ?_
    refine iast_W C0 hK hP (w2_D hab) hS 0 rfl (vp_in_nI (by omega) hn) (ws' := w2 g a b n n2 (rfF f n f2 n2 (k + 1)) f2) (by rw [nI_clamp (by omega), rfF_s]; rfl) dX7_refill_15 (fun H locs hP hS => ?_)
    refine lv_iinc (v := nI (k + 1)) (lv' := [(2, .int (nI (k + 1))), (0, .ref a), (1, .ref b)]) hx hb dX7_refill_16 hl (k := 2) rfl (nI_succ k).symm (by decide) rfl (fun ls hl => ?_)
    refine lv_goto (tgt := 2) hx hb dX7_refill_19 (by decide) ?_
    exact ih (k + 1) _ _ ls (by omega) hP hS (lv_sub hl [1, 2, 0] rfl)
set_option maxHeartbeats 1000000 in
theorem kX7_refill (l : Launch) (g : gG) (a b n n2 : Nat) (f f2 : Nat → Int32) (hab : a ≠ b) (hn : n < 2 ^ 31) (hn2 : n2 < 2 ^ 31) : Met l yX7_refill (Cond.code yX7_refill cX7_refill 3 none :: gw) { frames := 2, cells := 0, slots := 0, locals := 37 } (pG (w2 g a b n n2 f f2) (eRf g) g [.ref a, .ref b]) (qW (w2 g a b n n2 (rfF f n f2 n2 n) f2) g (fun q => q = a ∨ q = b) none True) 0 0 (fun q => q = a ∨ q = b) := by
  refine met_of (by decide) (Nat.le_of_ble_eq_true rfl) ?_
  intro p e s m args below meth c ls C0 hP hl
  obtain ⟨hx, hb, hml, hown, hts, hr, hlk, hK, hN⟩ := id C0
  have hl : lv_has ls 3 [(0, .ref a), (1, .ref b)] := hl
  refine lv_iconst (v := nI 0) hx hb dX7_refill_0 (by decide) ?_
  refine lv_istore_n (lv' := [(2, .int (nI 0)), (0, .ref a), (1, .ref b)]) hx hb dX7_refill_1 rfl hl (by decide) rfl (fun ls hl => ?_)
  exact lpX7_refill g a b n n2 f f2 hab hn hn2 C0 n 0 _ _ ls (by omega) (by rw [rfF_0]; exact hP) va_S.rf (lv_sub hl [1, 2, 0] rfl)
section RFL
variable {p : Program} {l : Launch} {e : Env} {R : Room} {s : State} {m : MethodId} {args : Array Value} {below : List Frame} {meth : Method} {c : Code} {H : Heap} {locs : List Loc} {cells slots : Nat} {Q : State → Prop}
variable {E : State → Prop} {A : Nat → Prop} {cc bytes : ByteArray} {nL n n2 index pc a b maxL : Nat} {own C : String} {ret ret' : Option FieldType} {g : gG} {w w' : va_W} {rest As st0 : List Value} {ls : Array Slot} {f f2 : Nat → Int32} {y : MethodName} {rm : Room} {ok : Prop}
theorem refill_W (C0 : cxt E cc nL own ret p s m args meth c) (hN : ∀ w ∈ nw, va_Nw w s) (hK : va_K g.1 vwCl (tyG g) s) (hP : va_P g.1 vwCl w H) (hD : va_D A w) (hS : va_S A s.heap H locs) (q1 : Nat) (he : w[q1]? = some (a, .inl (g.2.1, n, .inl f))) (q2 : Nat) (he2 : w[q2]? = some (b, .inl (g.2.1, n2, .inl f2))) (hq : q1 ≠ q2) (hn : n < 2 ^ 31) (hn2 : n2 < 2 ^ 31) (hset : w.set q1 (a, .inl (g.2.1, n, .inl (rfF f n f2 n2 n))) = w') (hL : Cond.methodLink own index yX7_refill ∈ gw)
    (hR : 3 ≤ R.frames ∧ 59 ≤ R.locals ∧ cells ≤ R.cells ∧ slots ≤ R.slots) (hsz : ls.size = nL) (hcat : (rest.map fun v => v.category).sum ≤ 8) (hdg : decode cc pc = .ok (.invokestatic index, 3))
    (kk : ∀ (H1 : Heap) (locs1 : List Loc), va_P g.1 vwCl w' H1 → va_S A s.heap H1 locs1 → W p l e R s m args below meth c H1 locs1 cells slots Q (F0 m (pc + 3) ls rest)) : W p l e R s m args below meth c H locs cells slots Q (F0 m pc ls (.ref b :: .ref a :: rest)) := by
  have hab : a ≠ b := fun z => hq (hD.1 q1 q2 _ _ he he2 z)
  refine go_W (rest := rest) (run_S (w := w2 g a b n n2 f f2) (As := [.ref a, .ref b]) (Qc := qW (w2 g a b n n2 (rfF f n f2 n2 n) f2) g (fun q => q = a ∨ q = b) none True #[]) C0 (pG_blind (A := A) eRf_st) (hP.sub [q1, q2] (by simp [he, he2])) (fun U h1 h2 => eRf_st (A := A) s U h2 (by rw [h1]; exact hS.1) (fun q h3 h4 => by rw [h1]; exact hS.2.1 q h3 h4) ⟨hK, hN⟩) pkX7_refill (kX7_refill l g a b n n2 f f2 hab hn hn2) hL ⟨rfl, rfl, hR.1, hR.2.1, hR.2.2.1, hR.2.2.2⟩ rfl hsz rfl hcat hdg) hS (fun q h => by
      rcases h with h | h
      · rw [h]; exact hD.2 q1 _ he
      · rw [h]; exact hD.2 q2 _ he2) (fun H1 locs1 _ hP1 hS1 hz hk => kk H1 locs1 ?_ hS1)
  rw [← hset]
  intro k q hkq
  have hlt : q1 < w.length := (List.getElem?_eq_some_iff.mp he).1
  by_cases hk1 : k = q1
  · subst hk1
    rw [List.getElem?_set_self hlt] at hkq
    cases hkq
    exact hP1 0 _ rfl
  · rw [List.getElem?_set_ne (fun z => hk1 z.symm)] at hkq
    by_cases hk2 : k = q2
    · subst hk2
      rw [he2] at hkq
      cases hkq
      exact hP1 1 _ rfl
    · have hc := hP k q hkq
      exact hc.kept (hk q.1 hc.lt (fun z => z.elim (fun z => hk1 (hD.1 k q1 _ _ hkq he z)) (fun z => hk2 (hD.1 k q2 _ _ hkq he2 z))))
theorem cV_Ra {v : Value} {n : Nat} {b : Nat} (C0 : cxt E cc nL own ret p s m args meth c) (hE : Est A E) (hP : va_P g.1 vwCl w H) (hS : va_S A s.heap H locs) (hK : va_K g.1 vwCl (tyG g) s)
    (pk : pkV y bytes maxL ret' C n) (hM : Met l y (Cond.code y bytes maxL ret' :: gw) rm (pG w E g (.ref b :: As)) (qR (some v) ok) 0 0 noA) (hL : Cond.methodLink own index y ∈ gw)
    (hR : rm.cells = 0 ∧ rm.slots = 0 ∧ rm.frames + 1 ≤ R.frames ∧ 8 + (maxL + 11) + rm.locals ≤ R.locals ∧ cells ≤ R.cells ∧ slots ≤ R.slots)
    (q0 : Nat) {ci : Nat} {fs : List Value} {q : vw_C} (he : w[q0]? = some (b, .inr (ci, fs))) (hc : vwCl[ci]? = some q) (hq : q.1 = C) (hn : As.length = n) (hsz : ls.size = nL) (hst : st0 = As.reverse ++ .ref b :: rest) (hcat : (rest.map fun v => v.category).sum ≤ 8)
    (hdg : decode cc pc = .ok (.invokevirtual index, 3)) (kk : W p l e R s m args below meth c H locs cells slots Q (F0 m (pc + 3) ls (v :: rest))) : W p l e R s m args below meth c H locs cells slots Q (F0 m pc ls st0) :=
  cV_R C0 hE hP hS hK pk hM hL hR q0 he hc hq hn hsz hst hcat hdg (fun _ => kk)
end RFL
