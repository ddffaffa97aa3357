theorem pkX0_isOpen : pkV yX0_isOpen cX0_isOpen 1 (some .boolean) RX0 0 := ⟨mI_X0_isOpen, mS_X0_isOpen, mN_X0, mC_X0_isOpen, by decide +kernel⟩
def fX0_isOpen (mem : Mem) : Option (Int32) :=
  gB (mem 27 2) (some (mem 27 2))
set_option maxHeartbeats 4000000 in
set_option maxRecDepth 100000 in
theorem kX0_isOpen (l : Launch) (g : gG) (ad : Nat → Nat) (tk : Nat) (mem : Mem) (r : Int32) (hF : fX0_isOpen mem = some r) : Met l yX0_isOpen (Cond.code yX0_isOpen cX0_isOpen 1 (some .boolean) :: gw) { frames := 1, cells := 0, slots := 0, locals := 24 } (pG (wX g ad mem) (eX g ad tk) g [.ref (ad 27)]) (qR (some (.int r)) (isB r)) 0 0 noA := by
  refine met_of (by decide) (Nat.le_of_ble_eq_true rfl) ?_
  intro p e s m args below meth c ls C0 hP hl
  obtain ⟨hx, hb, hml, hown, hts, hr, hlk, hE⟩ := id C0
  obtain ⟨hK, hN, hA, hZ, hT, hTA⟩ := id hE
  have hl : lv_has ls 1 [(0, .ref (ad 27))] := hl
  have hS : va_S (AW 44 ad) s.heap s.heap [] := va_S.rf
  unfold fX0_isOpen at hF
  refine lv_aload_n hx hb dX0_isOpen_0 rfl (lv_at hl 0 rfl) ?_
  refine get_W C0 hK hP iwX0 27 wX_27 rfl 2 (by decide) mF_X0_15 rfl rfl dX0_isOpen_1 ?_
  obtain ⟨b1, hF⟩ := gB_some hF
  cases hF
  exact ret_Rz C0 b1 b1 dX0_isOpen_4
theorem pkX0_open : pkV yX0_open cX0_open 2 (none) RX0 0 := ⟨mI_X0_open, mS_X0_open, mN_X0, mC_X0_open, by decide +kernel⟩
def fX0_open_2 : Nat → Mem → Int32 → Option (Mem)
  | 0, _, _ => none
  | n + 1, mem, x1 =>
    if 10 ≤ x1 then (some (up2 mem 27 2 1)) else (gI x1 10 (fX0_open_2 n (up2 mem 28 x1.toNatClampNeg 0) (x1 + 1)))
set_option maxHeartbeats 4000000 in
set_option maxRecDepth 100000 in
theorem lpX0_open_2 {p : Program} {l : Launch} {e : Env} {s : State} {m : MethodId} {args : Array Value} {below : List Frame} {meth : Method} {c : Code} (g : gG) (ad : Nat → Nat) (tk : Nat) (mem2 : Mem) (C0 : cxt (eX g ad tk) cX0_open 2 RX0 (none) p s m args meth c) :
    ∀ (n : Nat) (mem : Mem) (x1 : Int32) (H : Heap) (locs : List Loc) (ls : Array Slot), fX0_open_2 n mem x1 = some mem2 → va_P g.1 vwCl (wX g ad mem) H → va_S (AW 44 ad) s.heap H locs → lv_has ls 2 [(0, .ref (ad 27)), (1, .int x1)] → W p l e { frames := 1, cells := 0, slots := 0, locals := 24 } s m args below meth c H locs 0 0 (MQ below (qW (wX g ad mem2) g (AW 44 ad) (none) (True)) args s 0 0 (AW 44 ad)) (F0 m 2 ls []) := by
  obtain ⟨hx, hb, hml, hown, hts, hr, hlk, hE⟩ := id C0
  obtain ⟨hK, hN, hA, hZ, hT, hTA⟩ := id hE
  intro n
  induction n with
  | zero =>
    intro mem x1 H locs ls hF hP hS hl
    cases hF
  | succ n ih =>
    intro mem x1 H locs ls hF hP hS hl
    rw [fX0_open_2] at hF
    refine lv_iload_n hx hb dX0_open_2 rfl (lv_at hl 1 rfl) ?_
    refine lv_aload_n hx hb dX0_open_3 rfl (lv_at hl 0 rfl) ?_
    refine get_W C0 hK hP iwX0 27 wX_27 rfl 1 (by decide) mF_X0_9 rfl rfl dX0_open_4 ?_
    refine va_alen hx hb hK hP 28 0 wX_28 rfl (v := 10) rfl dX0_open_7 ?_
    refine lv_icmp_ge (tgt := 24) hx hb dX0_open_8 (by decide) (fun c1 => ?_) (fun c1 => ?_)
    · replace hF := (if_pos c1).symm.trans hF
      refine lv_aload_n hx hb dX0_open_24 rfl (lv_at hl 0 rfl) ?_
      refine lv_iconst (v := 1) hx hb dX0_open_25 (by decide) ?_
      refine put_W (k := 2) C0 hK hP (wX_D hA) hS iwX0 tyX0_ok nmX0 27 wX_27 rfl (by decide) mF_X0_15 rfl rfl (isB_nar (Or.inr rfl)) (isB_fit (Or.inr rfl)) (Nat.le_of_ble_eq_true rfl) wX_s27_2 dX0_open_26 (fun H locs hP hS => ?_)
      cases hF
      exact ret_Wv C0 hP hS trivial dX0_open_29
    · replace hF := (if_neg c1).symm.trans hF
      refine lv_aload_n hx hb dX0_open_11 rfl (lv_at hl 0 rfl) ?_
      refine get_W C0 hK hP iwX0 27 wX_27 rfl 1 (by decide) mF_X0_9 rfl rfl dX0_open_12 ?_
      refine lv_iload_n hx hb dX0_open_15 rfl (lv_at hl 1 rfl) ?_
      refine lv_iconst (v := 0) hx hb dX0_open_16 (by decide) ?_
      obtain ⟨g2, hF⟩ := gI_some hF
      refine iast_W C0 hK hP (wX_D hA) hS 28 wX_28 g2 wX_s28 dX0_open_17 (fun H locs hP hS => ?_)
      refine lv_iinc (v := x1 + 1) (lv' := [(1, .int (x1 + 1)), (0, .ref (ad 27))]) hx hb dX0_open_18 hl (k := 1) rfl rfl (by decide) rfl (fun ls hl => ?_)
      refine lv_goto (tgt := 2) hx hb dX0_open_21 (by decide) ?_
      exact ih (up2 mem 28 x1.toNatClampNeg 0) (x1 + 1) _ _ ls hF hP hS (lv_sub hl [1, 0] rfl)
def fX0_open (mem : Mem) : Option (Mem) :=
  fX0_open_2 fu mem 0
set_option maxHeartbeats 4000000 in
set_option maxRecDepth 100000 in
theorem kX0_open (l : Launch) (g : gG) (ad : Nat → Nat) (tk : Nat) (mem : Mem) (mem2 : Mem) (hF : fX0_open mem = some mem2) : Met l yX0_open (Cond.code yX0_open cX0_open 2 (none) :: gw) { frames := 1, cells := 0, slots := 0, locals := 24 } (pG (wX g ad mem) (eX g ad tk) g [.ref (ad 27)]) (qW (wX g ad mem2) g (AW 44 ad) (none) (True)) 0 0 (AW 44 ad) := by
  refine met_of (by decide) (Nat.le_of_ble_eq_true rfl) ?_
  intro p e s m args below meth c ls C0 hP hl
  obtain ⟨hx, hb, hml, hown, hts, hr, hlk, hE⟩ := id C0
  obtain ⟨hK, hN, hA, hZ, hT, hTA⟩ := id hE
  have hl : lv_has ls 2 [(0, .ref (ad 27))] := hl
  have hS : va_S (AW 44 ad) s.heap s.heap [] := va_S.rf
  unfold fX0_open at hF
  refine lv_iconst (v := 0) hx hb dX0_open_0 (by decide) ?_
  refine lv_istore_n (lv' := [(1, .int 0), (0, .ref (ad 27))]) hx hb dX0_open_1 rfl hl (by decide) rfl (fun ls hl => ?_)
  exact lpX0_open_2 g ad tk mem2 C0 fu mem 0 _ _ ls hF hP hS (lv_sub hl [1, 0] rfl)
theorem pkX0_shut : pkV yX0_shut cX0_shut 1 (none) RX0 0 := ⟨mI_X0_shut, mS_X0_shut, mN_X0, mC_X0_shut, by decide +kernel⟩
def fX0_shut (mem : Mem) : Option (Mem) :=
  some (up2 mem 27 2 0)
set_option maxHeartbeats 4000000 in
set_option maxRecDepth 100000 in
theorem kX0_shut (l : Launch) (g : gG) (ad : Nat → Nat) (tk : Nat) (mem : Mem) (mem2 : Mem) (hF : fX0_shut mem = some mem2) : Met l yX0_shut (Cond.code yX0_shut cX0_shut 1 (none) :: gw) { frames := 1, cells := 0, slots := 0, locals := 24 } (pG (wX g ad mem) (eX g ad tk) g [.ref (ad 27)]) (qW (wX g ad mem2) g (AW 44 ad) (none) (True)) 0 0 (AW 44 ad) := by
  refine met_of (by decide) (Nat.le_of_ble_eq_true rfl) ?_
  intro p e s m args below meth c ls C0 hP hl
  obtain ⟨hx, hb, hml, hown, hts, hr, hlk, hE⟩ := id C0
  obtain ⟨hK, hN, hA, hZ, hT, hTA⟩ := id hE
  have hl : lv_has ls 1 [(0, .ref (ad 27))] := hl
  have hS : va_S (AW 44 ad) s.heap s.heap [] := va_S.rf
  unfold fX0_shut at hF
  refine lv_aload_n hx hb dX0_shut_0 rfl (lv_at hl 0 rfl) ?_
  refine lv_iconst (v := 0) hx hb dX0_shut_1 (by decide) ?_
  refine put_W (k := 2) C0 hK hP (wX_D hA) hS iwX0 tyX0_ok nmX0 27 wX_27 rfl (by decide) mF_X0_15 rfl rfl (isB_nar (Or.inl rfl)) (isB_fit (Or.inl rfl)) (Nat.le_of_ble_eq_true rfl) wX_s27_2 dX0_shut_2 (fun H locs hP hS => ?_)
  cases hF
  exact ret_Wv C0 hP hS trivial dX0_shut_5
theorem pkX0_saidBy : pkV yX0_saidBy cX0_saidBy 2 (some .int) RX0 1 := ⟨mI_X0_saidBy, mS_X0_saidBy, mN_X0, mC_X0_saidBy, by decide +kernel⟩
def fX0_saidBy (mem : Mem) (a1 : Int32) : Option (Int32) :=
  some (atF (mem 28) 10 a1)
set_option maxHeartbeats 4000000 in
set_option maxRecDepth 100000 in
theorem kX0_saidBy (l : Launch) (g : gG) (ad : Nat → Nat) (tk : Nat) (mem : Mem) (a1 : Int32) (r : Int32) (hF : fX0_saidBy mem a1 = some r) : Met l yX0_saidBy (Cond.code yX0_saidBy cX0_saidBy 2 (some .int) :: gw) { frames := 2, cells := 0, slots := 0, locals := 37 } (pG (wX g ad mem) (eX g ad tk) g [.ref (ad 27), .int a1]) (qR (some (.int r)) (True)) 0 0 noA := by
  refine met_of (by decide) (Nat.le_of_ble_eq_true rfl) ?_
  intro p e s m args below meth c ls C0 hP hl
  obtain ⟨hx, hb, hml, hown, hts, hr, hlk, hE⟩ := id C0
  obtain ⟨hK, hN, hA, hZ, hT, hTA⟩ := id hE
  have hl : lv_has ls 2 [(0, .ref (ad 27)), (1, .int a1)] := hl
  have hS : va_S (AW 44 ad) s.heap s.heap [] := va_S.rf
  unfold fX0_saidBy at hF
  refine lv_aload_n hx hb dX0_saidBy_0 rfl (lv_at hl 0 rfl) ?_
  refine get_W C0 hK hP iwX0 27 wX_27 rfl 1 (by decide) mF_X0_9 rfl rfl dX0_saidBy_1 ?_
  refine lv_iload_n hx hb dX0_saidBy_4 rfl (lv_at hl 1 rfl) ?_
  refine at_W C0 hN hK hP 28 wX_28 (by decide) nN_X0_23 ⟨Nat.le_of_ble_eq_true rfl, Nat.le_of_ble_eq_true rfl, Nat.le_of_ble_eq_true rfl, Nat.le_of_ble_eq_true rfl⟩ hl.1 (Nat.le_of_ble_eq_true rfl) dX0_saidBy_5 ?_
  cases hF
  exact ret_Ri C0 trivial dX0_saidBy_8
theorem pkX0_mark : pkV yX0_mark cX0_mark 3 (none) RX0 2 := ⟨mI_X0_mark, mS_X0_mark, mN_X0, mC_X0_mark, by decide +kernel⟩
def fX0_mark (mem : Mem) (a1 : Int32) (a2 : Int32) : Option (Mem) :=
  some (upc mem 28 (setF (mem 28) 10 a1 a2))
set_option maxHeartbeats 4000000 in
set_option maxRecDepth 100000 in
theorem kX0_mark (l : Launch) (g : gG) (ad : Nat → Nat) (tk : Nat) (mem : Mem) (a1 : Int32) (a2 : Int32) (mem2 : Mem) (hF : fX0_mark mem a1 a2 = some mem2) : Met l yX0_mark (Cond.code yX0_mark cX0_mark 3 (none) :: gw) { frames := 2, cells := 0, slots := 0, locals := 38 } (pG (wX g ad mem) (eX g ad tk) g [.ref (ad 27), .int a1, .int a2]) (qW (wX g ad mem2) g (AW 44 ad) (none) (True)) 0 0 (AW 44 ad) := by
  refine met_of (by decide) (Nat.le_of_ble_eq_true rfl) ?_
  intro p e s m args below meth c ls C0 hP hl
  obtain ⟨hx, hb, hml, hown, hts, hr, hlk, hE⟩ := id C0
  obtain ⟨hK, hN, hA, hZ, hT, hTA⟩ := id hE
  have hl : lv_has ls 3 [(0, .ref (ad 27)), (1, .int a1), (2, .int a2)] := hl
  have hS : va_S (AW 44 ad) s.heap s.heap [] := va_S.rf
  unfold fX0_mark at hF
  refine lv_aload_n hx hb dX0_mark_0 rfl (lv_at hl 0 rfl) ?_
  refine get_W C0 hK hP iwX0 27 wX_27 rfl 1 (by decide) mF_X0_9 rfl rfl dX0_mark_1 ?_
  refine lv_iload_n hx hb dX0_mark_4 rfl (lv_at hl 1 rfl) ?_
  refine lv_iload_n hx hb dX0_mark_5 rfl (lv_at hl 2 rfl) ?_
  refine set_W C0 hN hK hP (wX_D hA) hS 28 wX_28 (by decide) wX_s28 nN_X0_27 ⟨Nat.le_of_ble_eq_true rfl, Nat.le_of_ble_eq_true rfl, Nat.le_of_ble_eq_true rfl, Nat.le_of_ble_eq_true rfl⟩ hl.1 (Nat.le_of_ble_eq_true rfl) dX0_mark_6 (fun H locs hP hS => ?_)
  cases hF
  exact ret_Wv C0 hP hS trivial dX0_mark_9
theorem pkX0_count : pkV yX0_count cX0_count 4 (some .int) RX0 1 := ⟨mI_X0_count, mS_X0_count, mN_X0, mC_X0_count, by decide +kernel⟩
def fX0_count_4 (mem : Mem) (z1 : Int32) : Nat → Int32 → Int32 → Option (Int32)
  | 0, _, _ => none
  | n + 1, x2, x3 =>
    ob1 (fX4_size mem) (fun r2 => if r2 ≤ x3 then (some x2) else (ob1 (fX4_mayVote mem x3) (fun r5 => if r5 = 0 then (fX0_count_4 mem z1 n x2 (x3 + 1)) else (ob1 (fX0_saidBy mem x3) (fun r9 => if r9 = z1 then (fX0_count_4 mem z1 n (x2 + 1) (x3 + 1)) else (fX0_count_4 mem z1 n x2 (x3 + 1)))))))
set_option maxHeartbeats 4000000 in
set_option maxRecDepth 100000 in
theorem lpX0_count_4 {p : Program} {l : Launch} {e : Env} {s : State} {m : MethodId} {args : Array Value} {below : List Frame} {meth : Method} {c : Code} (g : gG) (ad : Nat → Nat) (tk : Nat) (mem : Mem) (z1 : Int32) (r : Int32) (C0 : cxt (eX g ad tk) cX0_count 4 RX0 (some .int) p s m args meth c) (hP : va_P g.1 vwCl (wX g ad mem) s.heap) :
    ∀ (n : Nat) (x2 : Int32) (x3 : Int32) (ls : Array Slot), fX0_count_4 mem z1 n x2 x3 = some r → lv_has ls 4 [(0, .ref (ad 27)), (1, .int z1), (2, .int x2), (3, .int x3)] → W p l e { frames := 4, cells := 0, slots := 0, locals := 82 } s m args below meth c s.heap [] 0 0 (MQ below (qR (some (.int r)) (True)) args s 0 0 noA) (F0 m 4 ls []) := by
  obtain ⟨hx, hb, hml, hown, hts, hr, hlk, hE⟩ := id C0
  obtain ⟨hK, hN, hA, hZ, hT, hTA⟩ := id hE
  intro n
  induction n with
  | zero =>
    intro x2 x3 ls hF hl
    cases hF
  | succ n ih =>
    intro x2 x3 ls hF hl
    rw [fX0_count_4] at hF
    have hS : va_S (AW 44 ad) s.heap s.heap [] := va_S.rf
    refine lv_iload_n hx hb dX0_count_4 rfl (lv_at hl 3 rfl) ?_
    refine lv_aload_n hx hb dX0_count_5 rfl (lv_at hl 0 rfl) ?_
    refine get_W C0 hK hP iwX0 27 wX_27 rfl 0 (by decide) mF_X0_19 rfl rfl dX0_count_6 ?_
    obtain ⟨r2, h1, hF⟩ := ob_some hF
    refine cV_Ri C0 eX_st hP hS hK pkX4_size (As := []) (rest := [.int x3]) (kX4_size l g ad tk mem r2 h1) mL_X0_31 ⟨rfl, rfl, Nat.le_of_ble_eq_true rfl, Nat.le_of_ble_eq_true rfl, Nat.le_of_ble_eq_true rfl, Nat.le_of_ble_eq_true rfl⟩ 1 wX_1 rfl rfl rfl hl.1 rfl (Nat.le_of_ble_eq_true rfl) dX0_count_9 (fun _ => ?_)
    refine lv_icmp_ge (tgt := 44) hx hb dX0_count_12 (by decide) (fun c3 => ?_) (fun c3 => ?_)
    · replace hF := (if_pos c3).symm.trans hF
      refine lv_iload_n hx hb dX0_count_44 rfl (lv_at hl 2 rfl) ?_
      cases hF
      exact ret_Ri C0 trivial dX0_count_45
    · replace hF := (if_neg c3).symm.trans hF
      refine lv_aload_n hx hb dX0_count_15 rfl (lv_at hl 0 rfl) ?_
      refine get_W C0 hK hP iwX0 27 wX_27 rfl 0 (by decide) mF_X0_19 rfl rfl dX0_count_16 ?_
      refine lv_iload_n hx hb dX0_count_19 rfl (lv_at hl 3 rfl) ?_
      obtain ⟨r5, h4, hF⟩ := ob_some hF
      refine cV_Ri C0 eX_st hP hS hK pkX4_mayVote (As := [.int x3]) (rest := []) (kX4_mayVote l g ad tk mem x3 r5 h4) mL_X0_37 ⟨rfl, rfl, Nat.le_of_ble_eq_true rfl, Nat.le_of_ble_eq_true rfl, Nat.le_of_ble_eq_true rfl, Nat.le_of_ble_eq_true rfl⟩ 1 wX_1 rfl rfl rfl hl.1 rfl (Nat.le_of_ble_eq_true rfl) dX0_count_20 (fun b6 => ?_)
      refine lv_if_eq (tgt := 38) hx hb dX0_count_23 (by decide) (fun c7 => ?_) (fun c7 => ?_)
      · replace hF := (if_pos c7).symm.trans hF
        refine lv_iinc (v := x3 + 1) (lv' := [(3, .int (x3 + 1)), (0, .ref (ad 27)), (1, .int z1), (2, .int x2)]) hx hb dX0_count_38 hl (k := 3) rfl rfl (by decide) rfl (fun ls hl => ?_)
        refine lv_goto (tgt := 4) hx hb dX0_count_41 (by decide) ?_
        exact ih x2 (x3 + 1) ls hF (lv_sub hl [1, 2, 3, 0] rfl)
      · replace hF := (if_neg c7).symm.trans hF
        refine lv_aload_n hx hb dX0_count_26 rfl (lv_at hl 0 rfl) ?_
        refine lv_iload_n hx hb dX0_count_27 rfl (lv_at hl 3 rfl) ?_
        obtain ⟨r9, h8, hF⟩ := ob_some hF
        refine cV_Ri C0 eX_st hP hS hK pkX0_saidBy (As := [.int x3]) (rest := []) (kX0_saidBy l g ad tk mem x3 r9 h8) mL_X0_41 ⟨rfl, rfl, Nat.le_of_ble_eq_true rfl, Nat.le_of_ble_eq_true rfl, Nat.le_of_ble_eq_true rfl, Nat.le_of_ble_eq_true rfl⟩ 27 wX_27 rfl rfl rfl hl.1 rfl (Nat.le_of_ble_eq_true rfl) dX0_count_28 (fun _ => ?_)
        refine lv_iload_n hx hb dX0_count_31 rfl (lv_at hl 1 rfl) ?_
        refine lv_icmp_ne (tgt := 38) hx hb dX0_count_32 (by decide) (fun c10 => ?_) (fun c10 => ?_)
        · replace hF := (if_neg c10).symm.trans hF
          refine lv_iinc (v := x3 + 1) (lv' := [(3, .int (x3 + 1)), (0, .ref (ad 27)), (1, .int z1), (2, .int x2)]) hx hb dX0_count_38 hl (k := 3) rfl rfl (by decide) rfl (fun ls hl => ?_)
          refine lv_goto (tgt := 4) hx hb dX0_count_41 (by decide) ?_
          exact ih x2 (x3 + 1) ls hF (lv_sub hl [1, 2, 3, 0] rfl)
        · replace hF := (if_pos c10).symm.trans hF
          refine lv_iinc (v := x2 + 1) (lv' := [(2, .int (x2 + 1)), (0, .ref (ad 27)), (1, .int z1), (3, .int x3)]) hx hb dX0_count_35 hl (k := 2) rfl rfl (by decide) rfl (fun ls hl => ?_)
          refine lv_iinc (v := x3 + 1) (lv' := [(3, .int (x3 + 1)), (2, .int (x2 + 1)), (0, .ref (ad 27)), (1, .int z1)]) hx hb dX0_count_38 hl (k := 3) rfl rfl (by decide) rfl (fun ls hl => ?_)
          refine lv_goto (tgt := 4) hx hb dX0_count_41 (by decide) ?_
          exact ih (x2 + 1) (x3 + 1) ls hF (lv_sub hl [2, 3, 1, 0] rfl)
def fX0_count (mem : Mem) (a1 : Int32) : Option (Int32) :=
  fX0_count_4 mem a1 fu 0 0
set_option maxHeartbeats 4000000 in
set_option maxRecDepth 100000 in
theorem kX0_count (l : Launch) (g : gG) (ad : Nat → Nat) (tk : Nat) (mem : Mem) (a1 : Int32) (r : Int32) (hF : fX0_count mem a1 = some r) : Met l yX0_count (Cond.code yX0_count cX0_count 4 (some .int) :: gw) { frames := 4, cells := 0, slots := 0, locals := 82 } (pG (wX g ad mem) (eX g ad tk) g [.ref (ad 27), .int a1]) (qR (some (.int r)) (True)) 0 0 noA := by
  refine met_of (by decide) (Nat.le_of_ble_eq_true rfl) ?_
  intro p e s m args below meth c ls C0 hP hl
  obtain ⟨hx, hb, hml, hown, hts, hr, hlk, hE⟩ := id C0
  obtain ⟨hK, hN, hA, hZ, hT, hTA⟩ := id hE
  have hl : lv_has ls 4 [(0, .ref (ad 27)), (1, .int a1)] := hl
  have hS : va_S (AW 44 ad) s.heap s.heap [] := va_S.rf
  unfold fX0_count at hF
  refine lv_iconst (v := 0) hx hb dX0_count_0 (by decide) ?_
  refine lv_istore_n (lv' := [(2, .int 0), (0, .ref (ad 27)), (1, .int a1)]) hx hb dX0_count_1 rfl hl (by decide) rfl (fun ls hl => ?_)
  refine lv_iconst (v := 0) hx hb dX0_count_2 (by decide) ?_
  refine lv_istore_n (lv' := [(3, .int 0), (2, .int 0), (0, .ref (ad 27)), (1, .int a1)]) hx hb dX0_count_3 rfl hl (by decide) rfl (fun ls hl => ?_)
  exact lpX0_count_4 g ad tk mem a1 r C0 hP fu 0 0 ls hF (lv_sub hl [2, 3, 1, 0] rfl)
