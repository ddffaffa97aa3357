theorem pkX1_isHeld : pkV yX1_isHeld cX1_isHeld 1 (some .boolean) RX1 0 := ⟨mI_X1_isHeld, mS_X1_isHeld, mN_X1, mC_X1_isHeld, by decide +kernel⟩
def fX1_isHeld (mem : Mem) : Option (Int32) :=
  if mem 21 5 ≤ 0 then (some 0) else (some 1)
set_option maxHeartbeats 4000000 in
set_option maxRecDepth 100000 in
theorem kX1_isHeld (l : Launch) (g : gG) (ad : Nat → Nat) (tk : Nat) (mem : Mem) (r : Int32) (hF : fX1_isHeld mem = some r) : Met l yX1_isHeld (Cond.code yX1_isHeld cX1_isHeld 1 (some .boolean) :: gw) { frames := 1, cells := 0, slots := 0, locals := 24 } (pG (wX g ad mem) (eX g ad tk) g [.ref (ad 21)]) (qR (some (.int r)) (isB r)) 0 0 noA := by
  refine met_of (by decide) (Nat.le_of_ble_eq_true rfl) ?_
  intro p e s m args below meth c ls C0 hP hl
  obtain ⟨hx, hb, hml, hown, hts, hr, hlk, hE⟩ := id C0
  obtain ⟨hK, hN, hA, hZ, hT, hTA⟩ := id hE
  have hl : lv_has ls 1 [(0, .ref (ad 21))] := hl
  have hS : va_S (AW 44 ad) s.heap s.heap [] := va_S.rf
  unfold fX1_isHeld at hF
  refine lv_aload_n hx hb dX1_isHeld_0 rfl (lv_at hl 0 rfl) ?_
  refine get_W C0 hK hP iwX1 21 wX_21 rfl 5 (by decide) mF_X1_27 rfl rfl dX1_isHeld_1 ?_
  refine lv_if_le (tgt := 11) hx hb dX1_isHeld_4 (by decide) (fun c1 => ?_) (fun c1 => ?_)
  · replace hF := (if_pos c1).symm.trans hF
    refine lv_iconst (v := 0) hx hb dX1_isHeld_11 (by decide) ?_
    cases hF
    exact ret_Rz C0 (Or.inl rfl) (Or.inl rfl) dX1_isHeld_12
  · replace hF := (if_neg c1).symm.trans hF
    refine lv_iconst (v := 1) hx hb dX1_isHeld_7 (by decide) ?_
    refine lv_goto (tgt := 12) hx hb dX1_isHeld_8 (by decide) ?_
    cases hF
    exact ret_Rz C0 (Or.inr rfl) (Or.inr rfl) dX1_isHeld_12
theorem pkX1_behind : pkV yX1_behind cX1_behind 1 (some .int) RX1 0 := ⟨mI_X1_behind, mS_X1_behind, mN_X1, mC_X1_behind, by decide +kernel⟩
def fX1_behind (mem : Mem) : Option (Int32) :=
  some (if 0 < (mem 21 5) - 1 then (mem 21 5) - 1 else 0)
set_option maxHeartbeats 4000000 in
set_option maxRecDepth 100000 in
theorem kX1_behind (l : Launch) (g : gG) (ad : Nat → Nat) (tk : Nat) (mem : Mem) (r : Int32) (hF : fX1_behind mem = some r) : Met l yX1_behind (Cond.code yX1_behind cX1_behind 1 (some .int) :: gw) { frames := 1, cells := 0, slots := 0, locals := 24 } (pG (wX g ad mem) (eX g ad tk) g [.ref (ad 21)]) (qR (some (.int r)) (True)) 0 0 noA := by
  refine met_of (by decide) (Nat.le_of_ble_eq_true rfl) ?_
  intro p e s m args below meth c ls C0 hP hl
  obtain ⟨hx, hb, hml, hown, hts, hr, hlk, hE⟩ := id C0
  obtain ⟨hK, hN, hA, hZ, hT, hTA⟩ := id hE
  have hl : lv_has ls 1 [(0, .ref (ad 21))] := hl
  have hS : va_S (AW 44 ad) s.heap s.heap [] := va_S.rf
  unfold fX1_behind at hF
  refine lv_iconst (v := 0) hx hb dX1_behind_0 (by decide) ?_
  refine lv_aload_n hx hb dX1_behind_1 rfl (lv_at hl 0 rfl) ?_
  refine get_W C0 hK hP iwX1 21 wX_21 rfl 5 (by decide) mF_X1_27 rfl rfl dX1_behind_2 ?_
  refine lv_iconst (v := 1) hx hb dX1_behind_5 (by decide) ?_
  refine lv_isub hx hb dX1_behind_6 ?_
  refine va_mmax hx hb (hml.trans hl.1.symm) hown (hts _ mL_X1_31) (hts _ mT_J9_max_7cf53) (hts _ mN_J9) (hts _ mC_J9_max_7cf53) (Nat.le_of_ble_eq_true rfl) (Nat.le_of_ble_eq_true rfl) (Nat.le_of_ble_eq_true rfl) (Nat.le_of_ble_eq_true rfl) dX1_behind_7 ?_
  cases hF
  exact ret_Ri C0 trivial dX1_behind_10
theorem pkX1_holder : pkV yX1_holder cX1_holder 1 (some .int) RX1 0 := ⟨mI_X1_holder, mS_X1_holder, mN_X1, mC_X1_holder, by decide +kernel⟩
def fX1_holder (mem : Mem) : Option (Int32) :=
  ob1 (fX1_isHeld mem) (fun r2 => if r2 = 0 then (some (-1)) else (some (atF (mem 22) 5 ((mem 21 5) - 1))))
set_option maxHeartbeats 4000000 in
set_option maxRecDepth 100000 in
theorem kX1_holder (l : Launch) (g : gG) (ad : Nat → Nat) (tk : Nat) (mem : Mem) (r : Int32) (hF : fX1_holder mem = some r) : Met l yX1_holder (Cond.code yX1_holder cX1_holder 1 (some .int) :: gw) { frames := 2, cells := 0, slots := 0, locals := 44 } (pG (wX g ad mem) (eX g ad tk) g [.ref (ad 21)]) (qR (some (.int r)) (True)) 0 0 noA := by
  refine met_of (by decide) (Nat.le_of_ble_eq_true rfl) ?_
  intro p e s m args below meth c ls C0 hP hl
  obtain ⟨hx, hb, hml, hown, hts, hr, hlk, hE⟩ := id C0
  obtain ⟨hK, hN, hA, hZ, hT, hTA⟩ := id hE
  have hl : lv_has ls 1 [(0, .ref (ad 21))] := hl
  have hS : va_S (AW 44 ad) s.heap s.heap [] := va_S.rf
  unfold fX1_holder at hF
  refine lv_aload_n hx hb dX1_holder_0 rfl (lv_at hl 0 rfl) ?_
  obtain ⟨r2, h1, hF⟩ := ob_some hF
  refine cV_Ri C0 eX_st hP hS hK pkX1_isHeld (As := []) (rest := []) (kX1_isHeld l g ad tk mem r2 h1) mL_X1_37 ⟨rfl, rfl, Nat.le_of_ble_eq_true rfl, Nat.le_of_ble_eq_true rfl, Nat.le_of_ble_eq_true rfl, Nat.le_of_ble_eq_true rfl⟩ 21 wX_21 rfl rfl rfl hl.1 rfl (Nat.le_of_ble_eq_true rfl) dX1_holder_1 (fun b3 => ?_)
  refine lv_if_eq (tgt := 23) hx hb dX1_holder_4 (by decide) (fun c4 => ?_) (fun c4 => ?_)
  · replace hF := (if_pos c4).symm.trans hF
    refine lv_iconst (v := (-1)) hx hb dX1_holder_23 (by decide) ?_
    cases hF
    exact ret_Ri C0 trivial dX1_holder_24
  · replace hF := (if_neg c4).symm.trans hF
    refine lv_aload_n hx hb dX1_holder_7 rfl (lv_at hl 0 rfl) ?_
    refine get_W C0 hK hP iwX1 21 wX_21 rfl 0 (by decide) mF_X1_9 rfl rfl dX1_holder_8 ?_
    refine lv_aload_n hx hb dX1_holder_11 rfl (lv_at hl 0 rfl) ?_
    refine get_W C0 hK hP iwX1 21 wX_21 rfl 5 (by decide) mF_X1_27 rfl rfl dX1_holder_12 ?_
    refine lv_iconst (v := 1) hx hb dX1_holder_15 (by decide) ?_
    refine lv_isub hx hb dX1_holder_16 ?_
    refine at_W C0 hN hK hP 22 wX_22 (by decide) nN_X1_41 ⟨Nat.le_of_ble_eq_true rfl, Nat.le_of_ble_eq_true rfl, Nat.le_of_ble_eq_true rfl, Nat.le_of_ble_eq_true rfl⟩ hl.1 (Nat.le_of_ble_eq_true rfl) dX1_holder_17 ?_
    refine lv_goto (tgt := 24) hx hb dX1_holder_20 (by decide) ?_
    cases hF
    exact ret_Ri C0 trivial dX1_holder_24
theorem pkX1_sortHeld : pkV yX1_sortHeld cX1_sortHeld 1 (some .int) RX1 0 := ⟨mI_X1_sortHeld, mS_X1_sortHeld, mN_X1, mC_X1_sortHeld, by decide +kernel⟩
def fX1_sortHeld (mem : Mem) : Option (Int32) :=
  some (atF (mem 23) 5 ((mem 21 5) - 1))
set_option maxHeartbeats 4000000 in
set_option maxRecDepth 100000 in
theorem kX1_sortHeld (l : Launch) (g : gG) (ad : Nat → Nat) (tk : Nat) (mem : Mem) (r : Int32) (hF : fX1_sortHeld mem = some r) : Met l yX1_sortHeld (Cond.code yX1_sortHeld cX1_sortHeld 1 (some .int) :: gw) { frames := 2, cells := 0, slots := 0, locals := 37 } (pG (wX g ad mem) (eX g ad tk) g [.ref (ad 21)]) (qR (some (.int r)) (True)) 0 0 noA := by
  refine met_of (by decide) (Nat.le_of_ble_eq_true rfl) ?_
  intro p e s m args below meth c ls C0 hP hl
  obtain ⟨hx, hb, hml, hown, hts, hr, hlk, hE⟩ := id C0
  obtain ⟨hK, hN, hA, hZ, hT, hTA⟩ := id hE
  have hl : lv_has ls 1 [(0, .ref (ad 21))] := hl
  have hS : va_S (AW 44 ad) s.heap s.heap [] := va_S.rf
  unfold fX1_sortHeld at hF
  refine lv_aload_n hx hb dX1_sortHeld_0 rfl (lv_at hl 0 rfl) ?_
  refine get_W C0 hK hP iwX1 21 wX_21 rfl 1 (by decide) mF_X1_15 rfl rfl dX1_sortHeld_1 ?_
  refine lv_aload_n hx hb dX1_sortHeld_4 rfl (lv_at hl 0 rfl) ?_
  refine get_W C0 hK hP iwX1 21 wX_21 rfl 5 (by decide) mF_X1_27 rfl rfl dX1_sortHeld_5 ?_
  refine lv_iconst (v := 1) hx hb dX1_sortHeld_8 (by decide) ?_
  refine lv_isub hx hb dX1_sortHeld_9 ?_
  refine at_W C0 hN hK hP 23 wX_23 (by decide) nN_X1_41 ⟨Nat.le_of_ble_eq_true rfl, Nat.le_of_ble_eq_true rfl, Nat.le_of_ble_eq_true rfl, Nat.le_of_ble_eq_true rfl⟩ hl.1 (Nat.le_of_ble_eq_true rfl) dX1_sortHeld_10 ?_
  cases hF
  exact ret_Ri C0 trivial dX1_sortHeld_13
theorem pkX1_ticksLeft : pkV yX1_ticksLeft cX1_ticksLeft 1 (some .int) RX1 0 := ⟨mI_X1_ticksLeft, mS_X1_ticksLeft, mN_X1, mC_X1_ticksLeft, by decide +kernel⟩
def fX1_ticksLeft (mem : Mem) : Option (Int32) :=
  some (atF (mem 24) 5 ((mem 21 5) - 1))
set_option maxHeartbeats 4000000 in
set_option maxRecDepth 100000 in
theorem kX1_ticksLeft (l : Launch) (g : gG) (ad : Nat → Nat) (tk : Nat) (mem : Mem) (r : Int32) (hF : fX1_ticksLeft mem = some r) : Met l yX1_ticksLeft (Cond.code yX1_ticksLeft cX1_ticksLeft 1 (some .int) :: gw) { frames := 2, cells := 0, slots := 0, locals := 37 } (pG (wX g ad mem) (eX g ad tk) g [.ref (ad 21)]) (qR (some (.int r)) (True)) 0 0 noA := by
  refine met_of (by decide) (Nat.le_of_ble_eq_true rfl) ?_
  intro p e s m args below meth c ls C0 hP hl
  obtain ⟨hx, hb, hml, hown, hts, hr, hlk, hE⟩ := id C0
  obtain ⟨hK, hN, hA, hZ, hT, hTA⟩ := id hE
  have hl : lv_has ls 1 [(0, .ref (ad 21))] := hl
  have hS : va_S (AW 44 ad) s.heap s.heap [] := va_S.rf
  unfold fX1_ticksLeft at hF
  refine lv_aload_n hx hb dX1_ticksLeft_0 rfl (lv_at hl 0 rfl) ?_
  refine get_W C0 hK hP iwX1 21 wX_21 rfl 2 (by decide) mF_X1_18 rfl rfl dX1_ticksLeft_1 ?_
  refine lv_aload_n hx hb dX1_ticksLeft_4 rfl (lv_at hl 0 rfl) ?_
  refine get_W C0 hK hP iwX1 21 wX_21 rfl 5 (by decide) mF_X1_27 rfl rfl dX1_ticksLeft_5 ?_
  refine lv_iconst (v := 1) hx hb dX1_ticksLeft_8 (by decide) ?_
  refine lv_isub hx hb dX1_ticksLeft_9 ?_
  refine at_W C0 hN hK hP 24 wX_24 (by decide) nN_X1_41 ⟨Nat.le_of_ble_eq_true rfl, Nat.le_of_ble_eq_true rfl, Nat.le_of_ble_eq_true rfl, Nat.le_of_ble_eq_true rfl⟩ hl.1 (Nat.le_of_ble_eq_true rfl) dX1_ticksLeft_10 ?_
  cases hF
  exact ret_Ri C0 trivial dX1_ticksLeft_13
theorem pkX1_ticksHad : pkV yX1_ticksHad cX1_ticksHad 1 (some .int) RX1 0 := ⟨mI_X1_ticksHad, mS_X1_ticksHad, mN_X1, mC_X1_ticksHad, by decide +kernel⟩
def fX1_ticksHad (mem : Mem) : Option (Int32) :=
  some (atF (mem 25) 5 ((mem 21 5) - 1))
set_option maxHeartbeats 4000000 in
set_option maxRecDepth 100000 in
theorem kX1_ticksHad (l : Launch) (g : gG) (ad : Nat → Nat) (tk : Nat) (mem : Mem) (r : Int32) (hF : fX1_ticksHad mem = some r) : Met l yX1_ticksHad (Cond.code yX1_ticksHad cX1_ticksHad 1 (some .int) :: gw) { frames := 2, cells := 0, slots := 0, locals := 37 } (pG (wX g ad mem) (eX g ad tk) g [.ref (ad 21)]) (qR (some (.int r)) (True)) 0 0 noA := by
  refine met_of (by decide) (Nat.le_of_ble_eq_true rfl) ?_
  intro p e s m args below meth c ls C0 hP hl
  obtain ⟨hx, hb, hml, hown, hts, hr, hlk, hE⟩ := id C0
  obtain ⟨hK, hN, hA, hZ, hT, hTA⟩ := id hE
  have hl : lv_has ls 1 [(0, .ref (ad 21))] := hl
  have hS : va_S (AW 44 ad) s.heap s.heap [] := va_S.rf
  unfold fX1_ticksHad at hF
  refine lv_aload_n hx hb dX1_ticksHad_0 rfl (lv_at hl 0 rfl) ?_
  refine get_W C0 hK hP iwX1 21 wX_21 rfl 3 (by decide) mF_X1_21 rfl rfl dX1_ticksHad_1 ?_
  refine lv_aload_n hx hb dX1_ticksHad_4 rfl (lv_at hl 0 rfl) ?_
  refine get_W C0 hK hP iwX1 21 wX_21 rfl 5 (by decide) mF_X1_27 rfl rfl dX1_ticksHad_5 ?_
  refine lv_iconst (v := 1) hx hb dX1_ticksHad_8 (by decide) ?_
  refine lv_isub hx hb dX1_ticksHad_9 ?_
  refine at_W C0 hN hK hP 25 wX_25 (by decide) nN_X1_41 ⟨Nat.le_of_ble_eq_true rfl, Nat.le_of_ble_eq_true rfl, Nat.le_of_ble_eq_true rfl, Nat.le_of_ble_eq_true rfl⟩ hl.1 (Nat.le_of_ble_eq_true rfl) dX1_ticksHad_10 ?_
  cases hF
  exact ret_Ri C0 trivial dX1_ticksHad_13
theorem pkX1_limitOf : pkV yX1_limitOf cX1_limitOf 2 (some .int) RX1 1 := ⟨mI_X1_limitOf, mS_X1_limitOf, mN_X1, mC_X1_limitOf, by decide +kernel⟩
def fX1_limitOf (mem : Mem) (a1 : Int32) : Option (Int32) :=
  some (atF (mem 26) 3 a1)
set_option maxHeartbeats 4000000 in
set_option maxRecDepth 100000 in
theorem kX1_limitOf (l : Launch) (g : gG) (ad : Nat → Nat) (tk : Nat) (mem : Mem) (a1 : Int32) (r : Int32) (hF : fX1_limitOf mem a1 = some r) : Met l yX1_limitOf (Cond.code yX1_limitOf cX1_limitOf 2 (some .int) :: gw) { frames := 2, cells := 0, slots := 0, locals := 37 } (pG (wX g ad mem) (eX g ad tk) g [.ref (ad 21), .int a1]) (qR (some (.int r)) (True)) 0 0 noA := by
  refine met_of (by decide) (Nat.le_of_ble_eq_true rfl) ?_
  intro p e s m args below meth c ls C0 hP hl
  obtain ⟨hx, hb, hml, hown, hts, hr, hlk, hE⟩ := id C0
  obtain ⟨hK, hN, hA, hZ, hT, hTA⟩ := id hE
  have hl : lv_has ls 2 [(0, .ref (ad 21)), (1, .int a1)] := hl
  have hS : va_S (AW 44 ad) s.heap s.heap [] := va_S.rf
  unfold fX1_limitOf at hF
  refine lv_aload_n hx hb dX1_limitOf_0 rfl (lv_at hl 0 rfl) ?_
  refine get_W C0 hK hP iwX1 21 wX_21 rfl 4 (by decide) mF_X1_24 rfl rfl dX1_limitOf_1 ?_
  refine lv_iload_n hx hb dX1_limitOf_4 rfl (lv_at hl 1 rfl) ?_
  refine at_W C0 hN hK hP 26 wX_26 (by decide) nN_X1_41 ⟨Nat.le_of_ble_eq_true rfl, Nat.le_of_ble_eq_true rfl, Nat.le_of_ble_eq_true rfl, Nat.le_of_ble_eq_true rfl⟩ hl.1 (Nat.le_of_ble_eq_true rfl) dX1_limitOf_5 ?_
  cases hF
  exact ret_Ri C0 trivial dX1_limitOf_8
theorem pkX1_setLimit : pkV yX1_setLimit cX1_setLimit 3 (none) RX1 2 := ⟨mI_X1_setLimit, mS_X1_setLimit, mN_X1, mC_X1_setLimit, by decide +kernel⟩
def fX1_setLimit (mem : Mem) (a1 : Int32) (a2 : Int32) : Option (Mem) :=
  some (upc mem 26 (setF (mem 26) 3 a1 a2))
set_option maxHeartbeats 4000000 in
set_option maxRecDepth 100000 in
theorem kX1_setLimit (l : Launch) (g : gG) (ad : Nat → Nat) (tk : Nat) (mem : Mem) (a1 : Int32) (a2 : Int32) (mem2 : Mem) (hF : fX1_setLimit mem a1 a2 = some mem2) : Met l yX1_setLimit (Cond.code yX1_setLimit cX1_setLimit 3 (none) :: gw) { frames := 2, cells := 0, slots := 0, locals := 38 } (pG (wX g ad mem) (eX g ad tk) g [.ref (ad 21), .int a1, .int a2]) (qW (wX g ad mem2) g (AW 44 ad) (none) (True)) 0 0 (AW 44 ad) := by
  refine met_of (by decide) (Nat.le_of_ble_eq_true rfl) ?_
  intro p e s m args below meth c ls C0 hP hl
  obtain ⟨hx, hb, hml, hown, hts, hr, hlk, hE⟩ := id C0
  obtain ⟨hK, hN, hA, hZ, hT, hTA⟩ := id hE
  have hl : lv_has ls 3 [(0, .ref (ad 21)), (1, .int a1), (2, .int a2)] := hl
  have hS : va_S (AW 44 ad) s.heap s.heap [] := va_S.rf
  unfold fX1_setLimit at hF
  refine lv_aload_n hx hb dX1_setLimit_0 rfl (lv_at hl 0 rfl) ?_
  refine get_W C0 hK hP iwX1 21 wX_21 rfl 4 (by decide) mF_X1_24 rfl rfl dX1_setLimit_1 ?_
  refine lv_iload_n hx hb dX1_setLimit_4 rfl (lv_at hl 1 rfl) ?_
  refine lv_iload_n hx hb dX1_setLimit_5 rfl (lv_at hl 2 rfl) ?_
  refine set_W C0 hN hK hP (wX_D hA) hS 26 wX_26 (by decide) wX_s26 nN_X1_45 ⟨Nat.le_of_ble_eq_true rfl, Nat.le_of_ble_eq_true rfl, Nat.le_of_ble_eq_true rfl, Nat.le_of_ble_eq_true rfl⟩ hl.1 (Nat.le_of_ble_eq_true rfl) dX1_setLimit_6 (fun H locs hP hS => ?_)
  cases hF
  exact ret_Wv C0 hP hS trivial dX1_setLimit_9
theorem pkX1_push : pkV yX1_push cX1_push 4 (none) RX1 3 := ⟨mI_X1_push, mS_X1_push, mN_X1, mC_X1_push, by decide +kernel⟩
def fX1_push (mem : Mem) (a1 : Int32) (a2 : Int32) (a3 : Int32) : Option (Mem) :=
  if 4 < mem 21 5 then (some mem) else (some (up2 (upc (upc (upc (upc mem 22 (setF (mem 22) 5 (mem 21 5) a1)) 23 (setF ((upc mem 22 (setF (mem 22) 5 (mem 21 5) a1)) 23) 5 ((upc mem 22 (setF (mem 22) 5 (mem 21 5) a1)) 21 5) a2)) 24 (setF ((upc (upc mem 22 (setF (mem 22) 5 (mem 21 5) a1)) 23 (setF ((upc mem 22 (setF (mem 22) 5 (mem 21 5) a1)) 23) 5 ((upc mem 22 (setF (mem 22) 5 (mem 21 5) a1)) 21 5) a2)) 24) 5 ((upc (upc mem 22 (setF (mem 22) 5 (mem 21 5) a1)) 23 (setF ((upc mem 22 (setF (mem 22) 5 (mem 21 5) a1)) 23) 5 ((upc mem 22 (setF (mem 22) 5 (mem 21 5) a1)) 21 5) a2)) 21 5) a3)) 25 (setF ((upc (upc (upc mem 22 (setF (mem 22) 5 (mem 21 5) a1)) 23 (setF ((upc mem 22 (setF (mem 22) 5 (mem 21 5) a1)) 23) 5 ((upc mem 22 (setF (mem 22) 5 (mem 21 5) a1)) 21 5) a2)) 24 (setF ((upc (upc mem 22 (setF (mem 22) 5 (mem 21 5) a1)) 23 (setF ((upc mem 22 (setF (mem 22) 5 (mem 21 5) a1)) 23) 5 ((upc mem 22 (setF (mem 22) 5 (mem 21 5) a1)) 21 5) a2)) 24) 5 ((upc (upc mem 22 (setF (mem 22) 5 (mem 21 5) a1)) 23 (setF ((upc mem 22 (setF (mem 22) 5 (mem 21 5) a1)) 23) 5 ((upc mem 22 (setF (mem 22) 5 (mem 21 5) a1)) 21 5) a2)) 21 5) a3)) 25) 5 ((upc (upc (upc mem 22 (setF (mem 22) 5 (mem 21 5) a1)) 23 (setF ((upc mem 22 (setF (mem 22) 5 (mem 21 5) a1)) 23) 5 ((upc mem 22 (setF (mem 22) 5 (mem 21 5) a1)) 21 5) a2)) 24 (setF ((upc (upc mem 22 (setF (mem 22) 5 (mem 21 5) a1)) 23 (setF ((upc mem 22 (setF (mem 22) 5 (mem 21 5) a1)) 23) 5 ((upc mem 22 (setF (mem 22) 5 (mem 21 5) a1)) 21 5) a2)) 24) 5 ((upc (upc mem 22 (setF (mem 22) 5 (mem 21 5) a1)) 23 (setF ((upc mem 22 (setF (mem 22) 5 (mem 21 5) a1)) 23) 5 ((upc mem 22 (setF (mem 22) 5 (mem 21 5) a1)) 21 5) a2)) 21 5) a3)) 21 5) 0)) 21 5 (((upc (upc (upc (upc mem 22 (setF (mem 22) 5 (mem 21 5) a1)) 23 (setF ((upc mem 22 (setF (mem 22) 5 (mem 21 5) a1)) 23) 5 ((upc mem 22 (setF (mem 22) 5 (mem 21 5) a1)) 21 5) a2)) 24 (setF ((upc (upc mem 22 (setF (mem 22) 5 (mem 21 5) a1)) 23 (setF ((upc mem 22 (setF (mem 22) 5 (mem 21 5) a1)) 23) 5 ((upc mem 22 (setF (mem 22) 5 (mem 21 5) a1)) 21 5) a2)) 24) 5 ((upc (upc mem 22 (setF (mem 22) 5 (mem 21 5) a1)) 23 (setF ((upc mem 22 (setF (mem 22) 5 (mem 21 5) a1)) 23) 5 ((upc mem 22 (setF (mem 22) 5 (mem 21 5) a1)) 21 5) a2)) 21 5) a3)) 25 (setF ((upc (upc (upc mem 22 (setF (mem 22) 5 (mem 21 5) a1)) 23 (setF ((upc mem 22 (setF (mem 22) 5 (mem 21 5) a1)) 23) 5 ((upc mem 22 (setF (mem 22) 5 (mem 21 5) a1)) 21 5) a2)) 24 (setF ((upc (upc mem 22 (setF (mem 22) 5 (mem 21 5) a1)) 23 (setF ((upc mem 22 (setF (mem 22) 5 (mem 21 5) a1)) 23) 5 ((upc mem 22 (setF (mem 22) 5 (mem 21 5) a1)) 21 5) a2)) 24) 5 ((upc (upc mem 22 (setF (mem 22) 5 (mem 21 5) a1)) 23 (setF ((upc mem 22 (setF (mem 22) 5 (mem 21 5) a1)) 23) 5 ((upc mem 22 (setF (mem 22) 5 (mem 21 5) a1)) 21 5) a2)) 21 5) a3)) 25) 5 ((upc (upc (upc mem 22 (setF (mem 22) 5 (mem 21 5) a1)) 23 (setF ((upc mem 22 (setF (mem 22) 5 (mem 21 5) a1)) 23) 5 ((upc mem 22 (setF (mem 22) 5 (mem 21 5) a1)) 21 5) a2)) 24 (setF ((upc (upc mem 22 (setF (mem 22) 5 (mem 21 5) a1)) 23 (setF ((upc mem 22 (setF (mem 22) 5 (mem 21 5) a1)) 23) 5 ((upc mem 22 (setF (mem 22) 5 (mem 21 5) a1)) 21 5) a2)) 24) 5 ((upc (upc mem 22 (setF (mem 22) 5 (mem 21 5) a1)) 23 (setF ((upc mem 22 (setF (mem 22) 5 (mem 21 5) a1)) 23) 5 ((upc mem 22 (setF (mem 22) 5 (mem 21 5) a1)) 21 5) a2)) 21 5) a3)) 21 5) 0)) 21 5) + 1)))
set_option maxHeartbeats 4000000 in
set_option maxRecDepth 100000 in
theorem kX1_push (l : Launch) (g : gG) (ad : Nat → Nat) (tk : Nat) (mem : Mem) (a1 : Int32) (a2 : Int32) (a3 : Int32) (mem2 : Mem) (hF : fX1_push mem a1 a2 a3 = some mem2) : Met l yX1_push (Cond.code yX1_push cX1_push 4 (none) :: gw) { frames := 2, cells := 0, slots := 0, locals := 38 } (pG (wX g ad mem) (eX g ad tk) g [.ref (ad 21), .int a1, .int a2, .int a3]) (qW (wX g ad mem2) g (AW 44 ad) (none) (True)) 0 0 (AW 44 ad) := by
  refine met_of (by decide) (Nat.le_of_ble_eq_true rfl) ?_
  intro p e s m args below meth c ls C0 hP hl
  obtain ⟨hx, hb, hml, hown, hts, hr, hlk, hE⟩ := id C0
  obtain ⟨hK, hN, hA, hZ, hT, hTA⟩ := id hE
  have hl : lv_has ls 4 [(0, .ref (ad 21)), (1, .int a1), (2, .int a2), (3, .int a3)] := hl
  have hS : va_S (AW 44 ad) s.heap s.heap [] := va_S.rf
  unfold fX1_push at hF
  refine lv_aload_n hx hb dX1_push_0 rfl (lv_at hl 0 rfl) ?_
  refine get_W C0 hK hP iwX1 21 wX_21 rfl 5 (by decide) mF_X1_27 rfl rfl dX1_push_1 ?_
  refine lv_iconst (v := 4) hx hb dX1_push_4 (by decide) ?_
  refine lv_icmp_gt (tgt := 66) hx hb dX1_push_5 (by decide) (fun c1 => ?_) (fun c1 => ?_)
  · replace hF := (if_pos c1).symm.trans hF
    cases hF
    exact ret_Wv C0 hP hS trivial dX1_push_66
  · replace hF := (if_neg c1).symm.trans hF
    refine lv_aload_n hx hb dX1_push_8 rfl (lv_at hl 0 rfl) ?_
    refine get_W C0 hK hP iwX1 21 wX_21 rfl 0 (by decide) mF_X1_9 rfl rfl dX1_push_9 ?_
    refine lv_aload_n hx hb dX1_push_12 rfl (lv_at hl 0 rfl) ?_
    refine get_W C0 hK hP iwX1 21 wX_21 rfl 5 (by decide) mF_X1_27 rfl rfl dX1_push_13 ?_
    refine lv_iload_n hx hb dX1_push_16 rfl (lv_at hl 1 rfl) ?_
    refine set_W C0 hN hK hP (wX_D hA) hS 22 wX_22 (by decide) wX_s22 nN_X1_45 ⟨Nat.le_of_ble_eq_true rfl, Nat.le_of_ble_eq_true rfl, Nat.le_of_ble_eq_true rfl, Nat.le_of_ble_eq_true rfl⟩ hl.1 (Nat.le_of_ble_eq_true rfl) dX1_push_17 (fun H locs hP hS => ?_)
    refine lv_aload_n hx hb dX1_push_20 rfl (lv_at hl 0 rfl) ?_
    refine get_W C0 hK hP iwX1 21 wX_21 rfl 1 (by decide) mF_X1_15 rfl rfl dX1_push_21 ?_
    refine lv_aload_n hx hb dX1_push_24 rfl (lv_at hl 0 rfl) ?_
    refine get_W C0 hK hP iwX1 21 wX_21 rfl 5 (by decide) mF_X1_27 rfl rfl dX1_push_25 ?_
    refine lv_iload_n hx hb dX1_push_28 rfl (lv_at hl 2 rfl) ?_
    refine set_W C0 hN hK hP (wX_D hA) hS 23 wX_23 (by decide) wX_s23 nN_X1_45 ⟨Nat.le_of_ble_eq_true rfl, Nat.le_of_ble_eq_true rfl, Nat.le_of_ble_eq_true rfl, Nat.le_of_ble_eq_true rfl⟩ hl.1 (Nat.le_of_ble_eq_true rfl) dX1_push_29 (fun H locs hP hS => ?_)
    refine lv_aload_n hx hb dX1_push_32 rfl (lv_at hl 0 rfl) ?_
    refine get_W C0 hK hP iwX1 21 wX_21 rfl 2 (by decide) mF_X1_18 rfl rfl dX1_push_33 ?_
    refine lv_aload_n hx hb dX1_push_36 rfl (lv_at hl 0 rfl) ?_
    refine get_W C0 hK hP iwX1 21 wX_21 rfl 5 (by decide) mF_X1_27 rfl rfl dX1_push_37 ?_
    refine lv_iload_n hx hb dX1_push_40 rfl (lv_at hl 3 rfl) ?_
    refine set_W C0 hN hK hP (wX_D hA) hS 24 wX_24 (by decide) wX_s24 nN_X1_45 ⟨Nat.le_of_ble_eq_true rfl, Nat.le_of_ble_eq_true rfl, Nat.le_of_ble_eq_true rfl, Nat.le_of_ble_eq_true rfl⟩ hl.1 (Nat.le_of_ble_eq_true rfl) dX1_push_41 (fun H locs hP hS => ?_)
    refine lv_aload_n hx hb dX1_push_44 rfl (lv_at hl 0 rfl) ?_
    refine get_W C0 hK hP iwX1 21 wX_21 rfl 3 (by decide) mF_X1_21 rfl rfl dX1_push_45 ?_
    refine lv_aload_n hx hb dX1_push_48 rfl (lv_at hl 0 rfl) ?_
    refine get_W C0 hK hP iwX1 21 wX_21 rfl 5 (by decide) mF_X1_27 rfl rfl dX1_push_49 ?_
    refine lv_iconst (v := 0) hx hb dX1_push_52 (by decide) ?_
    refine set_W C0 hN hK hP (wX_D hA) hS 25 wX_25 (by decide) wX_s25 nN_X1_45 ⟨Nat.le_of_ble_eq_true rfl, Nat.le_of_ble_eq_true rfl, Nat.le_of_ble_eq_true rfl, Nat.le_of_ble_eq_true rfl⟩ hl.1 (Nat.le_of_ble_eq_true rfl) dX1_push_53 (fun H locs hP hS => ?_)
    refine lv_aload_n hx hb dX1_push_56 rfl (lv_at hl 0 rfl) ?_
    refine lv_dup hx hb dX1_push_57 rfl ?_
    refine get_W C0 hK hP iwX1 21 wX_21 rfl 5 (by decide) mF_X1_27 rfl rfl dX1_push_58 ?_
    refine lv_iconst (v := 1) hx hb dX1_push_61 (by decide) ?_
    refine lv_iadd hx hb dX1_push_62 ?_
    refine put_W (k := 5) C0 hK hP (wX_D hA) hS iwX1 tyX1_ok nmX1 21 wX_21 rfl (by decide) mF_X1_27 rfl rfl rfl rfl (Nat.le_of_ble_eq_true rfl) wX_s21_5 dX1_push_63 (fun H locs hP hS => ?_)
    cases hF
    exact ret_Wv C0 hP hS trivial dX1_push_66
theorem pkX1_pop : pkV yX1_pop cX1_pop 1 (none) RX1 0 := ⟨mI_X1_pop, mS_X1_pop, mN_X1, mC_X1_pop, by decide +kernel⟩
def fX1_pop (mem : Mem) : Option (Mem) :=
  if mem 21 5 ≤ 0 then (some mem) else (some (up2 mem 21 5 ((mem 21 5) - 1)))
set_option maxHeartbeats 4000000 in
set_option maxRecDepth 100000 in
theorem kX1_pop (l : Launch) (g : gG) (ad : Nat → Nat) (tk : Nat) (mem : Mem) (mem2 : Mem) (hF : fX1_pop mem = some mem2) : Met l yX1_pop (Cond.code yX1_pop cX1_pop 1 (none) :: gw) { frames := 1, cells := 0, slots := 0, locals := 24 } (pG (wX g ad mem) (eX g ad tk) g [.ref (ad 21)]) (qW (wX g ad mem2) g (AW 44 ad) (none) (True)) 0 0 (AW 44 ad) := by
  refine met_of (by decide) (Nat.le_of_ble_eq_true rfl) ?_
  intro p e s m args below meth c ls C0 hP hl
  obtain ⟨hx, hb, hml, hown, hts, hr, hlk, hE⟩ := id C0
  obtain ⟨hK, hN, hA, hZ, hT, hTA⟩ := id hE
  have hl : lv_has ls 1 [(0, .ref (ad 21))] := hl
  have hS : va_S (AW 44 ad) s.heap s.heap [] := va_S.rf
  unfold fX1_pop at hF
  refine lv_aload_n hx hb dX1_pop_0 rfl (lv_at hl 0 rfl) ?_
  refine get_W C0 hK hP iwX1 21 wX_21 rfl 5 (by decide) mF_X1_27 rfl rfl dX1_pop_1 ?_
  refine lv_if_le (tgt := 17) hx hb dX1_pop_4 (by decide) (fun c1 => ?_) (fun c1 => ?_)
  · replace hF := (if_pos c1).symm.trans hF
    cases hF
    exact ret_Wv C0 hP hS trivial dX1_pop_17
  · replace hF := (if_neg c1).symm.trans hF
    refine lv_aload_n hx hb dX1_pop_7 rfl (lv_at hl 0 rfl) ?_
    refine lv_dup hx hb dX1_pop_8 rfl ?_
    refine get_W C0 hK hP iwX1 21 wX_21 rfl 5 (by decide) mF_X1_27 rfl rfl dX1_pop_9 ?_
    refine lv_iconst (v := 1) hx hb dX1_pop_12 (by decide) ?_
    refine lv_isub hx hb dX1_pop_13 ?_
    refine put_W (k := 5) C0 hK hP (wX_D hA) hS iwX1 tyX1_ok nmX1 21 wX_21 rfl (by decide) mF_X1_27 rfl rfl rfl rfl (Nat.le_of_ble_eq_true rfl) wX_s21_5 dX1_pop_14 (fun H locs hP hS => ?_)
    cases hF
    exact ret_Wv C0 hP hS trivial dX1_pop_17
theorem pkX1_spendTick : pkV yX1_spendTick cX1_spendTick 1 (none) RX1 0 := ⟨mI_X1_spendTick, mS_X1_spendTick, mN_X1, mC_X1_spendTick, by decide +kernel⟩
def fX1_spendTick (mem : Mem) : Option (Mem) :=
  ob1 (fX1_ticksLeft mem) (fun r2 => ob1 (fX1_ticksHad (upc mem 24 (setF (mem 24) 5 ((mem 21 5) - 1) (r2 - 1)))) (fun r4 => some (upc (upc mem 24 (setF (mem 24) 5 ((mem 21 5) - 1) (r2 - 1))) 25 (setF ((upc mem 24 (setF (mem 24) 5 ((mem 21 5) - 1) (r2 - 1))) 25) 5 (((upc mem 24 (setF (mem 24) 5 ((mem 21 5) - 1) (r2 - 1))) 21 5) - 1) (r4 + 1)))))
set_option maxHeartbeats 4000000 in
set_option maxRecDepth 100000 in
theorem kX1_spendTick (l : Launch) (g : gG) (ad : Nat → Nat) (tk : Nat) (mem : Mem) (mem2 : Mem) (hF : fX1_spendTick mem = some mem2) : Met l yX1_spendTick (Cond.code yX1_spendTick cX1_spendTick 1 (none) :: gw) { frames := 3, cells := 0, slots := 0, locals := 57 } (pG (wX g ad mem) (eX g ad tk) g [.ref (ad 21)]) (qW (wX g ad mem2) g (AW 44 ad) (none) (True)) 0 0 (AW 44 ad) := by
  refine met_of (by decide) (Nat.le_of_ble_eq_true rfl) ?_
  intro p e s m args below meth c ls C0 hP hl
  obtain ⟨hx, hb, hml, hown, hts, hr, hlk, hE⟩ := id C0
  obtain ⟨hK, hN, hA, hZ, hT, hTA⟩ := id hE
  have hl : lv_has ls 1 [(0, .ref (ad 21))] := hl
  have hS : va_S (AW 44 ad) s.heap s.heap [] := va_S.rf
  unfold fX1_spendTick at hF
  refine lv_aload_n hx hb dX1_spendTick_0 rfl (lv_at hl 0 rfl) ?_
  refine get_W C0 hK hP iwX1 21 wX_21 rfl 2 (by decide) mF_X1_18 rfl rfl dX1_spendTick_1 ?_
  refine lv_aload_n hx hb dX1_spendTick_4 rfl (lv_at hl 0 rfl) ?_
  refine get_W C0 hK hP iwX1 21 wX_21 rfl 5 (by decide) mF_X1_27 rfl rfl dX1_spendTick_5 ?_
  refine lv_iconst (v := 1) hx hb dX1_spendTick_8 (by decide) ?_
  refine lv_isub hx hb dX1_spendTick_9 ?_
  refine lv_aload_n hx hb dX1_spendTick_10 rfl (lv_at hl 0 rfl) ?_
  obtain ⟨r2, h1, hF⟩ := ob_some hF
  refine cV_Ri C0 eX_st hP hS hK pkX1_ticksLeft (As := []) (rest := [.int ((mem 21 5) - 1), .ref (ad 24)]) (kX1_ticksLeft l g ad tk mem r2 h1) mL_X1_49 ⟨rfl, rfl, Nat.le_of_ble_eq_true rfl, Nat.le_of_ble_eq_true rfl, Nat.le_of_ble_eq_true rfl, Nat.le_of_ble_eq_true rfl⟩ 21 wX_21 rfl rfl rfl hl.1 rfl (Nat.le_of_ble_eq_true rfl) dX1_spendTick_11 (fun _ => ?_)
  refine lv_iconst (v := 1) hx hb dX1_spendTick_14 (by decide) ?_
  refine lv_isub hx hb dX1_spendTick_15 ?_
  refine set_W C0 hN hK hP (wX_D hA) hS 24 wX_24 (by decide) wX_s24 nN_X1_45 ⟨Nat.le_of_ble_eq_true rfl, Nat.le_of_ble_eq_true rfl, Nat.le_of_ble_eq_true rfl, Nat.le_of_ble_eq_true rfl⟩ hl.1 (Nat.le_of_ble_eq_true rfl) dX1_spendTick_16 (fun H locs hP hS => ?_)
  refine lv_aload_n hx hb dX1_spendTick_19 rfl (lv_at hl 0 rfl) ?_
  refine get_W C0 hK hP iwX1 21 wX_21 rfl 3 (by decide) mF_X1_21 rfl rfl dX1_spendTick_20 ?_
  refine lv_aload_n hx hb dX1_spendTick_23 rfl (lv_at hl 0 rfl) ?_
  refine get_W C0 hK hP iwX1 21 wX_21 rfl 5 (by decide) mF_X1_27 rfl rfl dX1_spendTick_24 ?_
  refine lv_iconst (v := 1) hx hb dX1_spendTick_27 (by decide) ?_
  refine lv_isub hx hb dX1_spendTick_28 ?_
  refine lv_aload_n hx hb dX1_spendTick_29 rfl (lv_at hl 0 rfl) ?_
  obtain ⟨r4, h3, hF⟩ := ob_some hF
  refine cV_Ri C0 eX_st hP hS hK pkX1_ticksHad (As := []) (rest := [.int (((upc mem 24 (setF (mem 24) 5 ((mem 21 5) - 1) (r2 - 1))) 21 5) - 1), .ref (ad 25)]) (kX1_ticksHad l g ad tk (upc mem 24 (setF (mem 24) 5 ((mem 21 5) - 1) (r2 - 1))) r4 h3) mL_X1_53 ⟨rfl, rfl, Nat.le_of_ble_eq_true rfl, Nat.le_of_ble_eq_true rfl, Nat.le_of_ble_eq_true rfl, Nat.le_of_ble_eq_true rfl⟩ 21 wX_21 rfl rfl rfl hl.1 rfl (Nat.le_of_ble_eq_true rfl) dX1_spendTick_30 (fun _ => ?_)
  refine lv_iconst (v := 1) hx hb dX1_spendTick_33 (by decide) ?_
  refine lv_iadd hx hb dX1_spendTick_34 ?_
  refine set_W C0 hN hK hP (wX_D hA) hS 25 wX_25 (by decide) wX_s25 nN_X1_45 ⟨Nat.le_of_ble_eq_true rfl, Nat.le_of_ble_eq_true rfl, Nat.le_of_ble_eq_true rfl, Nat.le_of_ble_eq_true rfl⟩ hl.1 (Nat.le_of_ble_eq_true rfl) dX1_spendTick_35 (fun H locs hP hS => ?_)
  cases hF
  exact ret_Wv C0 hP hS trivial dX1_spendTick_38
