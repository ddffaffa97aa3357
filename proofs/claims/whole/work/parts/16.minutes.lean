theorem pkX3_size : pkV yX3_size cX3_size 1 (some .int) RX3 0 := ⟨mI_X3_size, mS_X3_size, mN_X3, mC_X3_size, by decide +kernel⟩
def fX3_size (mem : Mem) : Option (Int32) :=
  some (if 100 < mem 29 5 then 100 else mem 29 5)
set_option maxHeartbeats 4000000 in
set_option maxRecDepth 100000 in
theorem kX3_size (l : Launch) (g : gG) (ad : Nat → Nat) (tk : Nat) (mem : Mem) (r : Int32) (hF : fX3_size mem = some r) : Met l yX3_size (Cond.code yX3_size cX3_size 1 (some .int) :: gw) { frames := 1, cells := 0, slots := 0, locals := 24 } (pG (wX g ad mem) (eX g ad tk) g [.ref (ad 29)]) (qR (some (.int r)) (True)) 0 0 noA := by
  refine met_of (by decide) (Nat.le_of_ble_eq_true rfl) ?_
  intro p e s m args below meth c ls C0 hP hl
  obtain ⟨hx, hb, hml, hown, hts, hr, hlk, hE⟩ := id C0
  obtain ⟨hK, hN, hA, hZ, hT, hTA⟩ := id hE
  have hl : lv_has ls 1 [(0, .ref (ad 29))] := hl
  have hS : va_S (AW 44 ad) s.heap s.heap [] := va_S.rf
  unfold fX3_size at hF
  refine lv_aload_n hx hb dX3_size_0 rfl (lv_at hl 0 rfl) ?_
  refine get_W C0 hK hP iwX3 29 wX_29 rfl 5 (by decide) mF_X3_27 rfl rfl dX3_size_1 ?_
  refine lv_bipush (v := 100) hx hb dX3_size_4 (by decide) ?_
  refine va_mmin hx hb (hml.trans hl.1.symm) hown (hts _ mL_X3_34) (hts _ mT_J9_min_7cf53) (hts _ mN_J9) (hts _ mC_J9_min_7cf53) (Nat.le_of_ble_eq_true rfl) (Nat.le_of_ble_eq_true rfl) (Nat.le_of_ble_eq_true rfl) (Nat.le_of_ble_eq_true rfl) dX3_size_6 ?_
  cases hF
  exact ret_Ri C0 trivial dX3_size_9
theorem pkX3_has : pkV yX3_has cX3_has 2 (some .boolean) RX3 1 := ⟨mI_X3_has, mS_X3_has, mN_X3, mC_X3_has, by decide +kernel⟩
def fX3_has (mem : Mem) (a1 : Int32) : Option (Int32) :=
  if a1 < 0 then (some 0) else (ob1 (fX3_size mem) (fun r3 => if r3 ≤ a1 then (some 0) else (some 1)))
set_option maxHeartbeats 4000000 in
set_option maxRecDepth 100000 in
theorem kX3_has (l : Launch) (g : gG) (ad : Nat → Nat) (tk : Nat) (mem : Mem) (a1 : Int32) (r : Int32) (hF : fX3_has mem a1 = some r) : Met l yX3_has (Cond.code yX3_has cX3_has 2 (some .boolean) :: gw) { frames := 2, cells := 0, slots := 0, locals := 44 } (pG (wX g ad mem) (eX g ad tk) g [.ref (ad 29), .int a1]) (qR (some (.int r)) (isB r)) 0 0 noA := by
  refine met_of (by decide) (Nat.le_of_ble_eq_true rfl) ?_
  intro p e s m args below meth c ls C0 hP hl
  obtain ⟨hx, hb, hml, hown, hts, hr, hlk, hE⟩ := id C0
  obtain ⟨hK, hN, hA, hZ, hT, hTA⟩ := id hE
  have hl : lv_has ls 2 [(0, .ref (ad 29)), (1, .int a1)] := hl
  have hS : va_S (AW 44 ad) s.heap s.heap [] := va_S.rf
  unfold fX3_has at hF
  refine lv_iload_n hx hb dX3_has_0 rfl (lv_at hl 1 rfl) ?_
  refine lv_if_lt (tgt := 16) hx hb dX3_has_1 (by decide) (fun c1 => ?_) (fun c1 => ?_)
  · replace hF := (if_pos c1).symm.trans hF
    refine lv_iconst (v := 0) hx hb dX3_has_16 (by decide) ?_
    cases hF
    exact ret_Rz C0 (Or.inl rfl) (Or.inl rfl) dX3_has_17
  · replace hF := (if_neg c1).symm.trans hF
    refine lv_iload_n hx hb dX3_has_4 rfl (lv_at hl 1 rfl) ?_
    refine lv_aload_n hx hb dX3_has_5 rfl (lv_at hl 0 rfl) ?_
    obtain ⟨r3, h2, hF⟩ := ob_some hF
    refine cV_Ri C0 eX_st hP hS hK pkX3_size (As := []) (rest := [.int a1]) (kX3_size l g ad tk mem r3 h2) mL_X3_40 ⟨rfl, rfl, Nat.le_of_ble_eq_true rfl, Nat.le_of_ble_eq_true rfl, Nat.le_of_ble_eq_true rfl, Nat.le_of_ble_eq_true rfl⟩ 29 wX_29 rfl rfl rfl hl.1 rfl (Nat.le_of_ble_eq_true rfl) dX3_has_6 (fun _ => ?_)
    refine lv_icmp_ge (tgt := 16) hx hb dX3_has_9 (by decide) (fun c4 => ?_) (fun c4 => ?_)
    · replace hF := (if_pos c4).symm.trans hF
      refine lv_iconst (v := 0) hx hb dX3_has_16 (by decide) ?_
      cases hF
      exact ret_Rz C0 (Or.inl rfl) (Or.inl rfl) dX3_has_17
    · replace hF := (if_neg c4).symm.trans hF
      refine lv_iconst (v := 1) hx hb dX3_has_12 (by decide) ?_
      refine lv_goto (tgt := 17) hx hb dX3_has_13 (by decide) ?_
      cases hF
      exact ret_Rz C0 (Or.inr rfl) (Or.inr rfl) dX3_has_17
theorem pkX3_latestCount : pkV yX3_latestCount cX3_latestCount 1 (some .int) RX3 0 := ⟨mI_X3_latestCount, mS_X3_latestCount, mN_X3, mC_X3_latestCount, by decide +kernel⟩
def fX3_latestCount (mem : Mem) : Option (Int32) :=
  some (mem 29 6)
set_option maxHeartbeats 4000000 in
set_option maxRecDepth 100000 in
theorem kX3_latestCount (l : Launch) (g : gG) (ad : Nat → Nat) (tk : Nat) (mem : Mem) (r : Int32) (hF : fX3_latestCount mem = some r) : Met l yX3_latestCount (Cond.code yX3_latestCount cX3_latestCount 1 (some .int) :: gw) { frames := 1, cells := 0, slots := 0, locals := 24 } (pG (wX g ad mem) (eX g ad tk) g [.ref (ad 29)]) (qR (some (.int r)) (True)) 0 0 noA := by
  refine met_of (by decide) (Nat.le_of_ble_eq_true rfl) ?_
  intro p e s m args below meth c ls C0 hP hl
  obtain ⟨hx, hb, hml, hown, hts, hr, hlk, hE⟩ := id C0
  obtain ⟨hK, hN, hA, hZ, hT, hTA⟩ := id hE
  have hl : lv_has ls 1 [(0, .ref (ad 29))] := hl
  have hS : va_S (AW 44 ad) s.heap s.heap [] := va_S.rf
  unfold fX3_latestCount at hF
  refine lv_aload_n hx hb dX3_latestCount_0 rfl (lv_at hl 0 rfl) ?_
  refine get_W C0 hK hP iwX3 29 wX_29 rfl 6 (by decide) mF_X3_31 rfl rfl dX3_latestCount_1 ?_
  cases hF
  exact ret_Ri C0 trivial dX3_latestCount_4
theorem pkX3_write : pkV yX3_write cX3_write 5 (none) RX3 3 := ⟨mI_X3_write, mS_X3_write, mN_X3, mC_X3_write, by decide +kernel⟩
def fX3_write (mem : Mem) (a1 : Int32) (a2 : Int32) (a3 : Int32) : Option (Mem) :=
  some (up2 (upc (upc (upc mem 30 (setF (mem 30) 100 ((mem 29 5) - (mem 29 5) / 100 * 100) a1)) 31 (setF ((upc mem 30 (setF (mem 30) 100 ((mem 29 5) - (mem 29 5) / 100 * 100) a1)) 31) 100 ((mem 29 5) - (mem 29 5) / 100 * 100) a2)) 32 (setF ((upc (upc mem 30 (setF (mem 30) 100 ((mem 29 5) - (mem 29 5) / 100 * 100) a1)) 31 (setF ((upc mem 30 (setF (mem 30) 100 ((mem 29 5) - (mem 29 5) / 100 * 100) a1)) 31) 100 ((mem 29 5) - (mem 29 5) / 100 * 100) a2)) 32) 100 ((mem 29 5) - (mem 29 5) / 100 * 100) a3)) 29 5 (((upc (upc (upc mem 30 (setF (mem 30) 100 ((mem 29 5) - (mem 29 5) / 100 * 100) a1)) 31 (setF ((upc mem 30 (setF (mem 30) 100 ((mem 29 5) - (mem 29 5) / 100 * 100) a1)) 31) 100 ((mem 29 5) - (mem 29 5) / 100 * 100) a2)) 32 (setF ((upc (upc mem 30 (setF (mem 30) 100 ((mem 29 5) - (mem 29 5) / 100 * 100) a1)) 31 (setF ((upc mem 30 (setF (mem 30) 100 ((mem 29 5) - (mem 29 5) / 100 * 100) a1)) 31) 100 ((mem 29 5) - (mem 29 5) / 100 * 100) a2)) 32) 100 ((mem 29 5) - (mem 29 5) / 100 * 100) a3)) 29 5) + 1))
set_option maxHeartbeats 4000000 in
set_option maxRecDepth 100000 in
theorem kX3_write (l : Launch) (g : gG) (ad : Nat → Nat) (tk : Nat) (mem : Mem) (a1 : Int32) (a2 : Int32) (a3 : Int32) (mem2 : Mem) (hF : fX3_write mem a1 a2 a3 = some mem2) : Met l yX3_write (Cond.code yX3_write cX3_write 5 (none) :: gw) { frames := 2, cells := 0, slots := 0, locals := 38 } (pG (wX g ad mem) (eX g ad tk) g [.ref (ad 29), .int a1, .int a2, .int a3]) (qW (wX g ad mem2) g (AW 44 ad) (none) (True)) 0 0 (AW 44 ad) := by
  refine met_of (by decide) (Nat.le_of_ble_eq_true rfl) ?_
  intro p e s m args below meth c ls C0 hP hl
  obtain ⟨hx, hb, hml, hown, hts, hr, hlk, hE⟩ := id C0
  obtain ⟨hK, hN, hA, hZ, hT, hTA⟩ := id hE
  have hl : lv_has ls 5 [(0, .ref (ad 29)), (1, .int a1), (2, .int a2), (3, .int a3)] := hl
  have hS : va_S (AW 44 ad) s.heap s.heap [] := va_S.rf
  unfold fX3_write at hF
  refine lv_aload_n hx hb dX3_write_0 rfl (lv_at hl 0 rfl) ?_
  refine get_W C0 hK hP iwX3 29 wX_29 rfl 5 (by decide) mF_X3_27 rfl rfl dX3_write_1 ?_
  refine lv_bipush (v := 100) hx hb dX3_write_4 (by decide) ?_
  refine lv_irem hx hb dX3_write_6 (by decide) ?_
  refine lv_istore (lv' := [(4, .int ((mem 29 5) - (mem 29 5) / 100 * 100)), (0, .ref (ad 29)), (1, .int a1), (2, .int a2), (3, .int a3)]) hx hb dX3_write_7 hl (by decide) rfl (fun ls hl => ?_)
  refine lv_aload_n hx hb dX3_write_9 rfl (lv_at hl 1 rfl) ?_
  refine get_W C0 hK hP iwX3 29 wX_29 rfl 0 (by decide) mF_X3_9 rfl rfl dX3_write_10 ?_
  refine lv_iload hx hb dX3_write_13 (lv_at hl 0 rfl) ?_
  refine lv_iload_n hx hb dX3_write_15 rfl (lv_at hl 2 rfl) ?_
  refine set_W C0 hN hK hP (wX_D hA) hS 30 wX_30 (by decide) wX_s30 nN_X3_44 ⟨Nat.le_of_ble_eq_true rfl, Nat.le_of_ble_eq_true rfl, Nat.le_of_ble_eq_true rfl, Nat.le_of_ble_eq_true rfl⟩ hl.1 (Nat.le_of_ble_eq_true rfl) dX3_write_16 (fun H locs hP hS => ?_)
  refine lv_aload_n hx hb dX3_write_19 rfl (lv_at hl 1 rfl) ?_
  refine get_W C0 hK hP iwX3 29 wX_29 rfl 1 (by decide) mF_X3_15 rfl rfl dX3_write_20 ?_
  refine lv_iload hx hb dX3_write_23 (lv_at hl 0 rfl) ?_
  refine lv_iload_n hx hb dX3_write_25 rfl (lv_at hl 3 rfl) ?_
  refine set_W C0 hN hK hP (wX_D hA) hS 31 wX_31 (by decide) wX_s31 nN_X3_44 ⟨Nat.le_of_ble_eq_true rfl, Nat.le_of_ble_eq_true rfl, Nat.le_of_ble_eq_true rfl, Nat.le_of_ble_eq_true rfl⟩ hl.1 (Nat.le_of_ble_eq_true rfl) dX3_write_26 (fun H locs hP hS => ?_)
  refine lv_aload_n hx hb dX3_write_29 rfl (lv_at hl 1 rfl) ?_
  refine get_W C0 hK hP iwX3 29 wX_29 rfl 2 (by decide) mF_X3_18 rfl rfl dX3_write_30 ?_
  refine lv_iload hx hb dX3_write_33 (lv_at hl 0 rfl) ?_
  refine lv_iload_n hx hb dX3_write_35 rfl (lv_at hl 4 rfl) ?_
  refine set_W C0 hN hK hP (wX_D hA) hS 32 wX_32 (by decide) wX_s32 nN_X3_44 ⟨Nat.le_of_ble_eq_true rfl, Nat.le_of_ble_eq_true rfl, Nat.le_of_ble_eq_true rfl, Nat.le_of_ble_eq_true rfl⟩ hl.1 (Nat.le_of_ble_eq_true rfl) dX3_write_36 (fun H locs hP hS => ?_)
  refine lv_aload_n hx hb dX3_write_39 rfl (lv_at hl 1 rfl) ?_
  refine lv_dup hx hb dX3_write_40 rfl ?_
  refine get_W C0 hK hP iwX3 29 wX_29 rfl 5 (by decide) mF_X3_27 rfl rfl dX3_write_41 ?_
  refine lv_iconst (v := 1) hx hb dX3_write_44 (by decide) ?_
  refine lv_iadd hx hb dX3_write_45 ?_
  refine put_W (k := 5) C0 hK hP (wX_D hA) hS iwX3 tyX3_ok nmX3 29 wX_29 rfl (by decide) mF_X3_27 rfl rfl rfl rfl (Nat.le_of_ble_eq_true rfl) wX_s29_5 dX3_write_46 (fun H locs hP hS => ?_)
  cases hF
  exact ret_Wv C0 hP hS trivial dX3_write_49
theorem pkX3_rowWritten : pkV yX3_rowWritten cX3_rowWritten 2 (some .int) RX3 1 := ⟨mI_X3_rowWritten, mS_X3_rowWritten, mN_X3, mC_X3_rowWritten, by decide +kernel⟩
def fX3_rowWritten (mem : Mem) (a1 : Int32) : Option (Int32) :=
  ob1 (fX3_size mem) (fun r2 => some (((mem 29 5) - r2) + a1))
set_option maxHeartbeats 4000000 in
set_option maxRecDepth 100000 in
theorem kX3_rowWritten (l : Launch) (g : gG) (ad : Nat → Nat) (tk : Nat) (mem : Mem) (a1 : Int32) (r : Int32) (hF : fX3_rowWritten mem a1 = some r) : Met l yX3_rowWritten (Cond.code yX3_rowWritten cX3_rowWritten 2 (some .int) :: gw) { frames := 2, cells := 0, slots := 0, locals := 44 } (pG (wX g ad mem) (eX g ad tk) g [.ref (ad 29), .int a1]) (qR (some (.int r)) (True)) 0 0 noA := by
  refine met_of (by decide) (Nat.le_of_ble_eq_true rfl) ?_
  intro p e s m args below meth c ls C0 hP hl
  obtain ⟨hx, hb, hml, hown, hts, hr, hlk, hE⟩ := id C0
  obtain ⟨hK, hN, hA, hZ, hT, hTA⟩ := id hE
  have hl : lv_has ls 2 [(0, .ref (ad 29)), (1, .int a1)] := hl
  have hS : va_S (AW 44 ad) s.heap s.heap [] := va_S.rf
  unfold fX3_rowWritten at hF
  refine lv_aload_n hx hb dX3_rowWritten_0 rfl (lv_at hl 0 rfl) ?_
  refine get_W C0 hK hP iwX3 29 wX_29 rfl 5 (by decide) mF_X3_27 rfl rfl dX3_rowWritten_1 ?_
  refine lv_aload_n hx hb dX3_rowWritten_4 rfl (lv_at hl 0 rfl) ?_
  obtain ⟨r2, h1, hF⟩ := ob_some hF
  refine cV_Ri C0 eX_st hP hS hK pkX3_size (As := []) (rest := [.int (mem 29 5)]) (kX3_size l g ad tk mem r2 h1) mL_X3_40 ⟨rfl, rfl, Nat.le_of_ble_eq_true rfl, Nat.le_of_ble_eq_true rfl, Nat.le_of_ble_eq_true rfl, Nat.le_of_ble_eq_true rfl⟩ 29 wX_29 rfl rfl rfl hl.1 rfl (Nat.le_of_ble_eq_true rfl) dX3_rowWritten_5 (fun _ => ?_)
  refine lv_isub hx hb dX3_rowWritten_8 ?_
  refine lv_iload_n hx hb dX3_rowWritten_9 rfl (lv_at hl 1 rfl) ?_
  refine lv_iadd hx hb dX3_rowWritten_10 ?_
  cases hF
  exact ret_Ri C0 trivial dX3_rowWritten_11
theorem pkX3_slotOf : pkV yX3_slotOf cX3_slotOf 2 (some .int) RX3 1 := ⟨mI_X3_slotOf, mS_X3_slotOf, mN_X3, mC_X3_slotOf, by decide +kernel⟩
def fX3_slotOf (mem : Mem) (a1 : Int32) : Option (Int32) :=
  ob1 (fX3_rowWritten mem a1) (fun r2 => some (r2 - r2 / 100 * 100))
set_option maxHeartbeats 4000000 in
set_option maxRecDepth 100000 in
theorem kX3_slotOf (l : Launch) (g : gG) (ad : Nat → Nat) (tk : Nat) (mem : Mem) (a1 : Int32) (r : Int32) (hF : fX3_slotOf mem a1 = some r) : Met l yX3_slotOf (Cond.code yX3_slotOf cX3_slotOf 2 (some .int) :: gw) { frames := 3, cells := 0, slots := 0, locals := 65 } (pG (wX g ad mem) (eX g ad tk) g [.ref (ad 29), .int a1]) (qR (some (.int r)) (True)) 0 0 noA := by
  refine met_of (by decide) (Nat.le_of_ble_eq_true rfl) ?_
  intro p e s m args below meth c ls C0 hP hl
  obtain ⟨hx, hb, hml, hown, hts, hr, hlk, hE⟩ := id C0
  obtain ⟨hK, hN, hA, hZ, hT, hTA⟩ := id hE
  have hl : lv_has ls 2 [(0, .ref (ad 29)), (1, .int a1)] := hl
  have hS : va_S (AW 44 ad) s.heap s.heap [] := va_S.rf
  unfold fX3_slotOf at hF
  refine lv_aload_n hx hb dX3_slotOf_0 rfl (lv_at hl 0 rfl) ?_
  refine lv_iload_n hx hb dX3_slotOf_1 rfl (lv_at hl 1 rfl) ?_
  obtain ⟨r2, h1, hF⟩ := ob_some hF
  refine cV_Ri C0 eX_st hP hS hK pkX3_rowWritten (As := [.int a1]) (rest := []) (kX3_rowWritten l g ad tk mem a1 r2 h1) mL_X3_56 ⟨rfl, rfl, Nat.le_of_ble_eq_true rfl, Nat.le_of_ble_eq_true rfl, Nat.le_of_ble_eq_true rfl, Nat.le_of_ble_eq_true rfl⟩ 29 wX_29 rfl rfl rfl hl.1 rfl (Nat.le_of_ble_eq_true rfl) dX3_slotOf_2 (fun _ => ?_)
  refine lv_bipush (v := 100) hx hb dX3_slotOf_5 (by decide) ?_
  refine lv_irem hx hb dX3_slotOf_7 (by decide) ?_
  cases hF
  exact ret_Ri C0 trivial dX3_slotOf_8
theorem pkX3_memberAt : pkV yX3_memberAt cX3_memberAt 2 (some .int) RX3 1 := ⟨mI_X3_memberAt, mS_X3_memberAt, mN_X3, mC_X3_memberAt, by decide +kernel⟩
def fX3_memberAt (mem : Mem) (a1 : Int32) : Option (Int32) :=
  ob1 (fX3_slotOf mem a1) (fun r2 => some (atF (mem 30) 100 r2))
set_option maxHeartbeats 4000000 in
set_option maxRecDepth 100000 in
theorem kX3_memberAt (l : Launch) (g : gG) (ad : Nat → Nat) (tk : Nat) (mem : Mem) (a1 : Int32) (r : Int32) (hF : fX3_memberAt mem a1 = some r) : Met l yX3_memberAt (Cond.code yX3_memberAt cX3_memberAt 2 (some .int) :: gw) { frames := 4, cells := 0, slots := 0, locals := 86 } (pG (wX g ad mem) (eX g ad tk) g [.ref (ad 29), .int a1]) (qR (some (.int r)) (True)) 0 0 noA := by
  refine met_of (by decide) (Nat.le_of_ble_eq_true rfl) ?_
  intro p e s m args below meth c ls C0 hP hl
  obtain ⟨hx, hb, hml, hown, hts, hr, hlk, hE⟩ := id C0
  obtain ⟨hK, hN, hA, hZ, hT, hTA⟩ := id hE
  have hl : lv_has ls 2 [(0, .ref (ad 29)), (1, .int a1)] := hl
  have hS : va_S (AW 44 ad) s.heap s.heap [] := va_S.rf
  unfold fX3_memberAt at hF
  refine lv_aload_n hx hb dX3_memberAt_0 rfl (lv_at hl 0 rfl) ?_
  refine get_W C0 hK hP iwX3 29 wX_29 rfl 0 (by decide) mF_X3_9 rfl rfl dX3_memberAt_1 ?_
  refine lv_aload_n hx hb dX3_memberAt_4 rfl (lv_at hl 0 rfl) ?_
  refine lv_iload_n hx hb dX3_memberAt_5 rfl (lv_at hl 1 rfl) ?_
  obtain ⟨r2, h1, hF⟩ := ob_some hF
  refine cV_Ri C0 eX_st hP hS hK pkX3_slotOf (As := [.int a1]) (rest := [.ref (ad 30)]) (kX3_slotOf l g ad tk mem a1 r2 h1) mL_X3_48 ⟨rfl, rfl, Nat.le_of_ble_eq_true rfl, Nat.le_of_ble_eq_true rfl, Nat.le_of_ble_eq_true rfl, Nat.le_of_ble_eq_true rfl⟩ 29 wX_29 rfl rfl rfl hl.1 rfl (Nat.le_of_ble_eq_true rfl) dX3_memberAt_6 (fun _ => ?_)
  refine at_W C0 hN hK hP 30 wX_30 (by decide) nN_X3_52 ⟨Nat.le_of_ble_eq_true rfl, Nat.le_of_ble_eq_true rfl, Nat.le_of_ble_eq_true rfl, Nat.le_of_ble_eq_true rfl⟩ hl.1 (Nat.le_of_ble_eq_true rfl) dX3_memberAt_9 ?_
  cases hF
  exact ret_Ri C0 trivial dX3_memberAt_12
theorem pkX3_sortAt : pkV yX3_sortAt cX3_sortAt 2 (some .int) RX3 1 := ⟨mI_X3_sortAt, mS_X3_sortAt, mN_X3, mC_X3_sortAt, by decide +kernel⟩
def fX3_sortAt (mem : Mem) (a1 : Int32) : Option (Int32) :=
  ob1 (fX3_slotOf mem a1) (fun r2 => some (atF (mem 31) 100 r2))
set_option maxHeartbeats 4000000 in
set_option maxRecDepth 100000 in
theorem kX3_sortAt (l : Launch) (g : gG) (ad : Nat → Nat) (tk : Nat) (mem : Mem) (a1 : Int32) (r : Int32) (hF : fX3_sortAt mem a1 = some r) : Met l yX3_sortAt (Cond.code yX3_sortAt cX3_sortAt 2 (some .int) :: gw) { frames := 4, cells := 0, slots := 0, locals := 86 } (pG (wX g ad mem) (eX g ad tk) g [.ref (ad 29), .int a1]) (qR (some (.int r)) (True)) 0 0 noA := by
  refine met_of (by decide) (Nat.le_of_ble_eq_true rfl) ?_
  intro p e s m args below meth c ls C0 hP hl
  obtain ⟨hx, hb, hml, hown, hts, hr, hlk, hE⟩ := id C0
  obtain ⟨hK, hN, hA, hZ, hT, hTA⟩ := id hE
  have hl : lv_has ls 2 [(0, .ref (ad 29)), (1, .int a1)] := hl
  have hS : va_S (AW 44 ad) s.heap s.heap [] := va_S.rf
  unfold fX3_sortAt at hF
  refine lv_aload_n hx hb dX3_sortAt_0 rfl (lv_at hl 0 rfl) ?_
  refine get_W C0 hK hP iwX3 29 wX_29 rfl 1 (by decide) mF_X3_15 rfl rfl dX3_sortAt_1 ?_
  refine lv_aload_n hx hb dX3_sortAt_4 rfl (lv_at hl 0 rfl) ?_
  refine lv_iload_n hx hb dX3_sortAt_5 rfl (lv_at hl 1 rfl) ?_
  obtain ⟨r2, h1, hF⟩ := ob_some hF
  refine cV_Ri C0 eX_st hP hS hK pkX3_slotOf (As := [.int a1]) (rest := [.ref (ad 31)]) (kX3_slotOf l g ad tk mem a1 r2 h1) mL_X3_48 ⟨rfl, rfl, Nat.le_of_ble_eq_true rfl, Nat.le_of_ble_eq_true rfl, Nat.le_of_ble_eq_true rfl, Nat.le_of_ble_eq_true rfl⟩ 29 wX_29 rfl rfl rfl hl.1 rfl (Nat.le_of_ble_eq_true rfl) dX3_sortAt_6 (fun _ => ?_)
  refine at_W C0 hN hK hP 31 wX_31 (by decide) nN_X3_52 ⟨Nat.le_of_ble_eq_true rfl, Nat.le_of_ble_eq_true rfl, Nat.le_of_ble_eq_true rfl, Nat.le_of_ble_eq_true rfl⟩ hl.1 (Nat.le_of_ble_eq_true rfl) dX3_sortAt_9 ?_
  cases hF
  exact ret_Ri C0 trivial dX3_sortAt_12
theorem pkX3_firstTicksAt : pkV yX3_firstTicksAt cX3_firstTicksAt 2 (some .int) RX3 1 := ⟨mI_X3_firstTicksAt, mS_X3_firstTicksAt, mN_X3, mC_X3_firstTicksAt, by decide +kernel⟩
def fX3_firstTicksAt (mem : Mem) (a1 : Int32) : Option (Int32) :=
  ob1 (fX3_slotOf mem a1) (fun r2 => some (atF (mem 32) 100 r2))
set_option maxHeartbeats 4000000 in
set_option maxRecDepth 100000 in
theorem kX3_firstTicksAt (l : Launch) (g : gG) (ad : Nat → Nat) (tk : Nat) (mem : Mem) (a1 : Int32) (r : Int32) (hF : fX3_firstTicksAt mem a1 = some r) : Met l yX3_firstTicksAt (Cond.code yX3_firstTicksAt cX3_firstTicksAt 2 (some .int) :: gw) { frames := 4, cells := 0, slots := 0, locals := 86 } (pG (wX g ad mem) (eX g ad tk) g [.ref (ad 29), .int a1]) (qR (some (.int r)) (True)) 0 0 noA := by
  refine met_of (by decide) (Nat.le_of_ble_eq_true rfl) ?_
  intro p e s m args below meth c ls C0 hP hl
  obtain ⟨hx, hb, hml, hown, hts, hr, hlk, hE⟩ := id C0
  obtain ⟨hK, hN, hA, hZ, hT, hTA⟩ := id hE
  have hl : lv_has ls 2 [(0, .ref (ad 29)), (1, .int a1)] := hl
  have hS : va_S (AW 44 ad) s.heap s.heap [] := va_S.rf
  unfold fX3_firstTicksAt at hF
  refine lv_aload_n hx hb dX3_firstTicksAt_0 rfl (lv_at hl 0 rfl) ?_
  refine get_W C0 hK hP iwX3 29 wX_29 rfl 2 (by decide) mF_X3_18 rfl rfl dX3_firstTicksAt_1 ?_
  refine lv_aload_n hx hb dX3_firstTicksAt_4 rfl (lv_at hl 0 rfl) ?_
  refine lv_iload_n hx hb dX3_firstTicksAt_5 rfl (lv_at hl 1 rfl) ?_
  obtain ⟨r2, h1, hF⟩ := ob_some hF
  refine cV_Ri C0 eX_st hP hS hK pkX3_slotOf (As := [.int a1]) (rest := [.ref (ad 32)]) (kX3_slotOf l g ad tk mem a1 r2 h1) mL_X3_48 ⟨rfl, rfl, Nat.le_of_ble_eq_true rfl, Nat.le_of_ble_eq_true rfl, Nat.le_of_ble_eq_true rfl, Nat.le_of_ble_eq_true rfl⟩ 29 wX_29 rfl rfl rfl hl.1 rfl (Nat.le_of_ble_eq_true rfl) dX3_firstTicksAt_6 (fun _ => ?_)
  refine at_W C0 hN hK hP 32 wX_32 (by decide) nN_X3_52 ⟨Nat.le_of_ble_eq_true rfl, Nat.le_of_ble_eq_true rfl, Nat.le_of_ble_eq_true rfl, Nat.le_of_ble_eq_true rfl⟩ hl.1 (Nat.le_of_ble_eq_true rfl) dX3_firstTicksAt_9 ?_
  cases hF
  exact ret_Ri C0 trivial dX3_firstTicksAt_12
theorem pkX3_ticksAsOf : pkV yX3_ticksAsOf cX3_ticksAsOf 5 (some .int) RX3 2 := ⟨mI_X3_ticksAsOf, mS_X3_ticksAsOf, mN_X3, mC_X3_ticksAsOf, by decide +kernel⟩
def fX3_ticksAsOf_16 (mem : Mem) (z1 : Int32) (z2 : Int32) (z3 : Int32) : Nat → Int32 → Option (Int32)
  | 0, _ => none
  | n + 1, x4 =>
    if x4 ≤ 0 then (ob1 (fX3_firstTicksAt mem z1) (fun r5 => some r5)) else (if atF (mem 33) 40 (x4 - 1) = z3 then (some (atF (mem 34) 40 (x4 - 1))) else (fX3_ticksAsOf_16 mem z1 z2 z3 n (x4 + (-1))))
set_option maxHeartbeats 4000000 in
set_option maxRecDepth 100000 in
theorem lpX3_ticksAsOf_16 {p : Program} {l : Launch} {e : Env} {s : State} {m : MethodId} {args : Array Value} {below : List Frame} {meth : Method} {c : Code} (g : gG) (ad : Nat → Nat) (tk : Nat) (mem : Mem) (z1 : Int32) (z2 : Int32) (z3 : Int32) (r : Int32) (C0 : cxt (eX g ad tk) cX3_ticksAsOf 5 RX3 (some .int) p s m args meth c) (hP : va_P g.1 vwCl (wX g ad mem) s.heap) :
    ∀ (n : Nat) (x4 : Int32) (ls : Array Slot), fX3_ticksAsOf_16 mem z1 z2 z3 n x4 = some r → lv_has ls 5 [(0, .ref (ad 29)), (1, .int z1), (2, .int z2), (3, .int z3), (4, .int x4)] → W p l e { frames := 5, cells := 0, slots := 0, locals := 107 } s m args below meth c s.heap [] 0 0 (MQ below (qR (some (.int r)) (True)) args s 0 0 noA) (F0 m 16 ls []) := by
  obtain ⟨hx, hb, hml, hown, hts, hr, hlk, hE⟩ := id C0
  obtain ⟨hK, hN, hA, hZ, hT, hTA⟩ := id hE
  intro n
  induction n with
  | zero =>
    intro x4 ls hF hl
    cases hF
  | succ n ih =>
    intro x4 ls hF hl
    rw [fX3_ticksAsOf_16] at hF
    have hS : va_S (AW 44 ad) s.heap s.heap [] := va_S.rf
    refine lv_iload hx hb dX3_ticksAsOf_16 (lv_at hl 4 rfl) ?_
    refine lv_if_le (tgt := 54) hx hb dX3_ticksAsOf_18 (by decide) (fun c3 => ?_) (fun c3 => ?_)
    · replace hF := (if_pos c3).symm.trans hF
      refine lv_aload_n hx hb dX3_ticksAsOf_54 rfl (lv_at hl 0 rfl) ?_
      refine lv_iload_n hx hb dX3_ticksAsOf_55 rfl (lv_at hl 1 rfl) ?_
      obtain ⟨r5, h4, hF⟩ := ob_some hF
      refine cV_Ri C0 eX_st hP hS hK pkX3_firstTicksAt (As := [.int z1]) (rest := []) (kX3_firstTicksAt l g ad tk mem z1 r5 h4) mL_X3_59 ⟨rfl, rfl, Nat.le_of_ble_eq_true rfl, Nat.le_of_ble_eq_true rfl, Nat.le_of_ble_eq_true rfl, Nat.le_of_ble_eq_true rfl⟩ 29 wX_29 rfl rfl rfl hl.1 rfl (Nat.le_of_ble_eq_true rfl) dX3_ticksAsOf_56 (fun _ => ?_)
      cases hF
      exact ret_Ri C0 trivial dX3_ticksAsOf_59
    · replace hF := (if_neg c3).symm.trans hF
      refine lv_aload_n hx hb dX3_ticksAsOf_21 rfl (lv_at hl 0 rfl) ?_
      refine get_W C0 hK hP iwX3 29 wX_29 rfl 3 (by decide) mF_X3_21 rfl rfl dX3_ticksAsOf_22 ?_
      refine lv_iload hx hb dX3_ticksAsOf_25 (lv_at hl 4 rfl) ?_
      refine lv_iconst (v := 1) hx hb dX3_ticksAsOf_27 (by decide) ?_
      refine lv_isub hx hb dX3_ticksAsOf_28 ?_
      refine at_W C0 hN hK hP 33 wX_33 (by decide) nN_X3_52 ⟨Nat.le_of_ble_eq_true rfl, Nat.le_of_ble_eq_true rfl, Nat.le_of_ble_eq_true rfl, Nat.le_of_ble_eq_true rfl⟩ hl.1 (Nat.le_of_ble_eq_true rfl) dX3_ticksAsOf_29 ?_
      refine lv_iload_n hx hb dX3_ticksAsOf_32 rfl (lv_at hl 3 rfl) ?_
      refine lv_icmp_ne (tgt := 48) hx hb dX3_ticksAsOf_33 (by decide) (fun c6 => ?_) (fun c6 => ?_)
      · replace hF := (if_neg c6).symm.trans hF
        refine lv_iinc (v := x4 + (-1)) (lv' := [(4, .int (x4 + (-1))), (0, .ref (ad 29)), (1, .int z1), (2, .int z2), (3, .int z3)]) hx hb dX3_ticksAsOf_48 hl (k := 4) rfl rfl (by decide) rfl (fun ls hl => ?_)
        refine lv_goto (tgt := 16) hx hb dX3_ticksAsOf_51 (by decide) ?_
        exact ih (x4 + (-1)) ls hF (lv_sub hl [1, 2, 3, 4, 0] rfl)
      · replace hF := (if_pos c6).symm.trans hF
        refine lv_aload_n hx hb dX3_ticksAsOf_36 rfl (lv_at hl 0 rfl) ?_
        refine get_W C0 hK hP iwX3 29 wX_29 rfl 4 (by decide) mF_X3_24 rfl rfl dX3_ticksAsOf_37 ?_
        refine lv_iload hx hb dX3_ticksAsOf_40 (lv_at hl 4 rfl) ?_
        refine lv_iconst (v := 1) hx hb dX3_ticksAsOf_42 (by decide) ?_
        refine lv_isub hx hb dX3_ticksAsOf_43 ?_
        refine at_W C0 hN hK hP 34 wX_34 (by decide) nN_X3_52 ⟨Nat.le_of_ble_eq_true rfl, Nat.le_of_ble_eq_true rfl, Nat.le_of_ble_eq_true rfl, Nat.le_of_ble_eq_true rfl⟩ hl.1 (Nat.le_of_ble_eq_true rfl) dX3_ticksAsOf_44 ?_
        cases hF
        exact ret_Ri C0 trivial dX3_ticksAsOf_47
def fX3_ticksAsOf (mem : Mem) (a1 : Int32) (a2 : Int32) : Option (Int32) :=
  ob1 (fX3_rowWritten mem a1) (fun r2 => fX3_ticksAsOf_16 mem a1 a2 r2 fu (if mem 29 6 < a2 then mem 29 6 else a2))
set_option maxHeartbeats 4000000 in
set_option maxRecDepth 100000 in
theorem kX3_ticksAsOf (l : Launch) (g : gG) (ad : Nat → Nat) (tk : Nat) (mem : Mem) (a1 : Int32) (a2 : Int32) (r : Int32) (hF : fX3_ticksAsOf mem a1 a2 = some r) : Met l yX3_ticksAsOf (Cond.code yX3_ticksAsOf cX3_ticksAsOf 5 (some .int) :: gw) { frames := 5, cells := 0, slots := 0, locals := 107 } (pG (wX g ad mem) (eX g ad tk) g [.ref (ad 29), .int a1, .int a2]) (qR (some (.int r)) (True)) 0 0 noA := by
  refine met_of (by decide) (Nat.le_of_ble_eq_true rfl) ?_
  intro p e s m args below meth c ls C0 hP hl
  obtain ⟨hx, hb, hml, hown, hts, hr, hlk, hE⟩ := id C0
  obtain ⟨hK, hN, hA, hZ, hT, hTA⟩ := id hE
  have hl : lv_has ls 5 [(0, .ref (ad 29)), (1, .int a1), (2, .int a2)] := hl
  have hS : va_S (AW 44 ad) s.heap s.heap [] := va_S.rf
  unfold fX3_ticksAsOf at hF
  refine lv_aload_n hx hb dX3_ticksAsOf_0 rfl (lv_at hl 0 rfl) ?_
  refine lv_iload_n hx hb dX3_ticksAsOf_1 rfl (lv_at hl 1 rfl) ?_
  obtain ⟨r2, h1, hF⟩ := ob_some hF
  refine cV_Ri C0 eX_st hP hS hK pkX3_rowWritten (As := [.int a1]) (rest := []) (kX3_rowWritten l g ad tk mem a1 r2 h1) mL_X3_56 ⟨rfl, rfl, Nat.le_of_ble_eq_true rfl, Nat.le_of_ble_eq_true rfl, Nat.le_of_ble_eq_true rfl, Nat.le_of_ble_eq_true rfl⟩ 29 wX_29 rfl rfl rfl hl.1 rfl (Nat.le_of_ble_eq_true rfl) dX3_ticksAsOf_2 (fun _ => ?_)
  refine lv_istore_n (lv' := [(3, .int r2), (0, .ref (ad 29)), (1, .int a1), (2, .int a2)]) hx hb dX3_ticksAsOf_5 rfl hl (by decide) rfl (fun ls hl => ?_)
  refine lv_iload_n hx hb dX3_ticksAsOf_6 rfl (lv_at hl 3 rfl) ?_
  refine lv_aload_n hx hb dX3_ticksAsOf_7 rfl (lv_at hl 1 rfl) ?_
  refine get_W C0 hK hP iwX3 29 wX_29 rfl 6 (by decide) mF_X3_31 rfl rfl dX3_ticksAsOf_8 ?_
  refine va_mmin hx hb (hml.trans hl.1.symm) hown (hts _ mL_X3_34) (hts _ mT_J9_min_7cf53) (hts _ mN_J9) (hts _ mC_J9_min_7cf53) (Nat.le_of_ble_eq_true rfl) (Nat.le_of_ble_eq_true rfl) (Nat.le_of_ble_eq_true rfl) (Nat.le_of_ble_eq_true rfl) dX3_ticksAsOf_11 ?_
  refine lv_istore (lv' := [(4, .int (if mem 29 6 < a2 then mem 29 6 else a2)), (3, .int r2), (0, .ref (ad 29)), (1, .int a1), (2, .int a2)]) hx hb dX3_ticksAsOf_14 hl (by decide) rfl (fun ls hl => ?_)
  exact lpX3_ticksAsOf_16 g ad tk mem a1 a2 r2 r C0 hP fu (if mem 29 6 < a2 then mem 29 6 else a2) ls hF (lv_sub hl [2, 3, 4, 1, 0] rfl)
theorem pkX3_correct : pkV yX3_correct cX3_correct 3 (none) RX3 2 := ⟨mI_X3_correct, mS_X3_correct, mN_X3, mC_X3_correct, by decide +kernel⟩
def fX3_correct (mem : Mem) (a1 : Int32) (a2 : Int32) : Option (Mem) :=
  if 40 ≤ mem 29 6 then (some mem) else (ob1 (fX3_rowWritten mem a1) (fun r3 => some (up2 (upc (upc mem 33 (setF (mem 33) 40 (mem 29 6) r3)) 34 (setF ((upc mem 33 (setF (mem 33) 40 (mem 29 6) r3)) 34) 40 ((upc mem 33 (setF (mem 33) 40 (mem 29 6) r3)) 29 6) a2)) 29 6 (((upc (upc mem 33 (setF (mem 33) 40 (mem 29 6) r3)) 34 (setF ((upc mem 33 (setF (mem 33) 40 (mem 29 6) r3)) 34) 40 ((upc mem 33 (setF (mem 33) 40 (mem 29 6) r3)) 29 6) a2)) 29 6) + 1))))
set_option maxHeartbeats 4000000 in
set_option maxRecDepth 100000 in
theorem kX3_correct (l : Launch) (g : gG) (ad : Nat → Nat) (tk : Nat) (mem : Mem) (a1 : Int32) (a2 : Int32) (mem2 : Mem) (hF : fX3_correct mem a1 a2 = some mem2) : Met l yX3_correct (Cond.code yX3_correct cX3_correct 3 (none) :: gw) { frames := 3, cells := 0, slots := 0, locals := 65 } (pG (wX g ad mem) (eX g ad tk) g [.ref (ad 29), .int a1, .int a2]) (qW (wX g ad mem2) g (AW 44 ad) (none) (True)) 0 0 (AW 44 ad) := by
  refine met_of (by decide) (Nat.le_of_ble_eq_true rfl) ?_
  intro p e s m args below meth c ls C0 hP hl
  obtain ⟨hx, hb, hml, hown, hts, hr, hlk, hE⟩ := id C0
  obtain ⟨hK, hN, hA, hZ, hT, hTA⟩ := id hE
  have hl : lv_has ls 3 [(0, .ref (ad 29)), (1, .int a1), (2, .int a2)] := hl
  have hS : va_S (AW 44 ad) s.heap s.heap [] := va_S.rf
  unfold fX3_correct at hF
  refine lv_aload_n hx hb dX3_correct_0 rfl (lv_at hl 0 rfl) ?_
  refine get_W C0 hK hP iwX3 29 wX_29 rfl 6 (by decide) mF_X3_31 rfl rfl dX3_correct_1 ?_
  refine lv_bipush (v := 40) hx hb dX3_correct_4 (by decide) ?_
  refine lv_icmp_ge (tgt := 47) hx hb dX3_correct_6 (by decide) (fun c1 => ?_) (fun c1 => ?_)
  · replace hF := (if_pos c1).symm.trans hF
    cases hF
    exact ret_Wv C0 hP hS trivial dX3_correct_47
  · replace hF := (if_neg c1).symm.trans hF
    refine lv_aload_n hx hb dX3_correct_9 rfl (lv_at hl 0 rfl) ?_
    refine get_W C0 hK hP iwX3 29 wX_29 rfl 3 (by decide) mF_X3_21 rfl rfl dX3_correct_10 ?_
    refine lv_aload_n hx hb dX3_correct_13 rfl (lv_at hl 0 rfl) ?_
    refine get_W C0 hK hP iwX3 29 wX_29 rfl 6 (by decide) mF_X3_31 rfl rfl dX3_correct_14 ?_
    refine lv_aload_n hx hb dX3_correct_17 rfl (lv_at hl 0 rfl) ?_
    refine lv_iload_n hx hb dX3_correct_18 rfl (lv_at hl 1 rfl) ?_
    obtain ⟨r3, h2, hF⟩ := ob_some hF
    refine cV_Ri C0 eX_st hP hS hK pkX3_rowWritten (As := [.int a1]) (rest := [.int (mem 29 6), .ref (ad 33)]) (kX3_rowWritten l g ad tk mem a1 r3 h2) mL_X3_56 ⟨rfl, rfl, Nat.le_of_ble_eq_true rfl, Nat.le_of_ble_eq_true rfl, Nat.le_of_ble_eq_true rfl, Nat.le_of_ble_eq_true rfl⟩ 29 wX_29 rfl rfl rfl hl.1 rfl (Nat.le_of_ble_eq_true rfl) dX3_correct_19 (fun _ => ?_)
    refine set_W C0 hN hK hP (wX_D hA) hS 33 wX_33 (by decide) wX_s33 nN_X3_44 ⟨Nat.le_of_ble_eq_true rfl, Nat.le_of_ble_eq_true rfl, Nat.le_of_ble_eq_true rfl, Nat.le_of_ble_eq_true rfl⟩ hl.1 (Nat.le_of_ble_eq_true rfl) dX3_correct_22 (fun H locs hP hS => ?_)
    refine lv_aload_n hx hb dX3_correct_25 rfl (lv_at hl 0 rfl) ?_
    refine get_W C0 hK hP iwX3 29 wX_29 rfl 4 (by decide) mF_X3_24 rfl rfl dX3_correct_26 ?_
    refine lv_aload_n hx hb dX3_correct_29 rfl (lv_at hl 0 rfl) ?_
    refine get_W C0 hK hP iwX3 29 wX_29 rfl 6 (by decide) mF_X3_31 rfl rfl dX3_correct_30 ?_
    refine lv_iload_n hx hb dX3_correct_33 rfl (lv_at hl 2 rfl) ?_
    refine set_W C0 hN hK hP (wX_D hA) hS 34 wX_34 (by decide) wX_s34 nN_X3_44 ⟨Nat.le_of_ble_eq_true rfl, Nat.le_of_ble_eq_true rfl, Nat.le_of_ble_eq_true rfl, Nat.le_of_ble_eq_true rfl⟩ hl.1 (Nat.le_of_ble_eq_true rfl) dX3_correct_34 (fun H locs hP hS => ?_)
    refine lv_aload_n hx hb dX3_correct_37 rfl (lv_at hl 0 rfl) ?_
    refine lv_dup hx hb dX3_correct_38 rfl ?_
    refine get_W C0 hK hP iwX3 29 wX_29 rfl 6 (by decide) mF_X3_31 rfl rfl dX3_correct_39 ?_
    refine lv_iconst (v := 1) hx hb dX3_correct_42 (by decide) ?_
    refine lv_iadd hx hb dX3_correct_43 ?_
    refine put_W (k := 6) C0 hK hP (wX_D hA) hS iwX3 tyX3_ok nmX3 29 wX_29 rfl (by decide) mF_X3_31 rfl rfl rfl rfl (Nat.le_of_ble_eq_true rfl) wX_s29_6 dX3_correct_44 (fun H locs hP hS => ?_)
    cases hF
    exact ret_Wv C0 hP hS trivial dX3_correct_47
theorem pkX3_ticksOfMember : pkV yX3_ticksOfMember cX3_ticksOfMember 5 (some .int) RX3 2 := ⟨mI_X3_ticksOfMember, mS_X3_ticksOfMember, mN_X3, mC_X3_ticksOfMember, by decide +kernel⟩
def fX3_ticksOfMember_5 (mem : Mem) (z1 : Int32) (z2 : Int32) : Nat → Int32 → Int32 → Option (Int32)
  | 0, _, _ => none
  | n + 1, x3, x4 =>
    ob1 (fX3_size mem) (fun r2 => if r2 ≤ x4 then (some x3) else (ob1 (fX3_memberAt mem x4) (fun r5 => if r5 = z1 then (ob1 (fX3_ticksAsOf mem x4 z2) (fun r8 => fX3_ticksOfMember_5 mem z1 z2 n (x3 + r8) (x4 + 1))) else (fX3_ticksOfMember_5 mem z1 z2 n x3 (x4 + 1)))))
set_option maxHeartbeats 4000000 in
set_option maxRecDepth 100000 in
theorem lpX3_ticksOfMember_5 {p : Program} {l : Launch} {e : Env} {s : State} {m : MethodId} {args : Array Value} {below : List Frame} {meth : Method} {c : Code} (g : gG) (ad : Nat → Nat) (tk : Nat) (mem : Mem) (z1 : Int32) (z2 : Int32) (r : Int32) (C0 : cxt (eX g ad tk) cX3_ticksOfMember 5 RX3 (some .int) p s m args meth c) (hP : va_P g.1 vwCl (wX g ad mem) s.heap) :
    ∀ (n : Nat) (x3 : Int32) (x4 : Int32) (ls : Array Slot), fX3_ticksOfMember_5 mem z1 z2 n x3 x4 = some r → lv_has ls 5 [(0, .ref (ad 29)), (1, .int z1), (2, .int z2), (3, .int x3), (4, .int x4)] → W p l e { frames := 6, cells := 0, slots := 0, locals := 131 } s m args below meth c s.heap [] 0 0 (MQ below (qR (some (.int r)) (True)) args s 0 0 noA) (F0 m 5 ls []) := by
  obtain ⟨hx, hb, hml, hown, hts, hr, hlk, hE⟩ := id C0
  obtain ⟨hK, hN, hA, hZ, hT, hTA⟩ := id hE
  intro n
  induction n with
  | zero =>
    intro x3 x4 ls hF hl
    cases hF
  | succ n ih =>
    intro x3 x4 ls hF hl
    rw [fX3_ticksOfMember_5] at hF
    have hS : va_S (AW 44 ad) s.heap s.heap [] := va_S.rf
    refine lv_iload hx hb dX3_ticksOfMember_5 (lv_at hl 4 rfl) ?_
    refine lv_aload_n hx hb dX3_ticksOfMember_7 rfl (lv_at hl 0 rfl) ?_
    obtain ⟨r2, h1, hF⟩ := ob_some hF
    refine cV_Ri C0 eX_st hP hS hK pkX3_size (As := []) (rest := [.int x4]) (kX3_size l g ad tk mem r2 h1) mL_X3_40 ⟨rfl, rfl, Nat.le_of_ble_eq_true rfl, Nat.le_of_ble_eq_true rfl, Nat.le_of_ble_eq_true rfl, Nat.le_of_ble_eq_true rfl⟩ 29 wX_29 rfl rfl rfl hl.1 rfl (Nat.le_of_ble_eq_true rfl) dX3_ticksOfMember_8 (fun _ => ?_)
    refine lv_icmp_ge (tgt := 40) hx hb dX3_ticksOfMember_11 (by decide) (fun c3 => ?_) (fun c3 => ?_)
    · replace hF := (if_pos c3).symm.trans hF
      refine lv_iload_n hx hb dX3_ticksOfMember_40 rfl (lv_at hl 3 rfl) ?_
      cases hF
      exact ret_Ri C0 trivial dX3_ticksOfMember_41
    · replace hF := (if_neg c3).symm.trans hF
      refine lv_aload_n hx hb dX3_ticksOfMember_14 rfl (lv_at hl 0 rfl) ?_
      refine lv_iload hx hb dX3_ticksOfMember_15 (lv_at hl 4 rfl) ?_
      obtain ⟨r5, h4, hF⟩ := ob_some hF
      refine cV_Ri C0 eX_st hP hS hK pkX3_memberAt (As := [.int x4]) (rest := []) (kX3_memberAt l g ad tk mem x4 r5 h4) mL_X3_62 ⟨rfl, rfl, Nat.le_of_ble_eq_true rfl, Nat.le_of_ble_eq_true rfl, Nat.le_of_ble_eq_true rfl, Nat.le_of_ble_eq_true rfl⟩ 29 wX_29 rfl rfl rfl hl.1 rfl (Nat.le_of_ble_eq_true rfl) dX3_ticksOfMember_17 (fun _ => ?_)
      refine lv_iload_n hx hb dX3_ticksOfMember_20 rfl (lv_at hl 1 rfl) ?_
      refine lv_icmp_ne (tgt := 34) hx hb dX3_ticksOfMember_21 (by decide) (fun c6 => ?_) (fun c6 => ?_)
      · replace hF := (if_neg c6).symm.trans hF
        refine lv_iinc (v := x4 + 1) (lv' := [(4, .int (x4 + 1)), (0, .ref (ad 29)), (1, .int z1), (2, .int z2), (3, .int x3)]) hx hb dX3_ticksOfMember_34 hl (k := 4) rfl rfl (by decide) rfl (fun ls hl => ?_)
        refine lv_goto (tgt := 5) hx hb dX3_ticksOfMember_37 (by decide) ?_
        exact ih x3 (x4 + 1) ls hF (lv_sub hl [1, 2, 3, 4, 0] rfl)
      · replace hF := (if_pos c6).symm.trans hF
        refine lv_iload_n hx hb dX3_ticksOfMember_24 rfl (lv_at hl 3 rfl) ?_
        refine lv_aload_n hx hb dX3_ticksOfMember_25 rfl (lv_at hl 0 rfl) ?_
        refine lv_iload hx hb dX3_ticksOfMember_26 (lv_at hl 4 rfl) ?_
        refine lv_iload_n hx hb dX3_ticksOfMember_28 rfl (lv_at hl 2 rfl) ?_
        obtain ⟨r8, h7, hF⟩ := ob_some hF
        refine cV_Ri C0 eX_st hP hS hK pkX3_ticksAsOf (As := [.int x4, .int z2]) (rest := [.int x3]) (kX3_ticksAsOf l g ad tk mem x4 z2 r8 h7) mL_X3_65 ⟨rfl, rfl, Nat.le_of_ble_eq_true rfl, Nat.le_of_ble_eq_true rfl, Nat.le_of_ble_eq_true rfl, Nat.le_of_ble_eq_true rfl⟩ 29 wX_29 rfl rfl rfl hl.1 rfl (Nat.le_of_ble_eq_true rfl) dX3_ticksOfMember_29 (fun _ => ?_)
        refine lv_iadd hx hb dX3_ticksOfMember_32 ?_
        refine lv_istore_n (lv' := [(3, .int (x3 + r8)), (0, .ref (ad 29)), (1, .int z1), (2, .int z2), (4, .int x4)]) hx hb dX3_ticksOfMember_33 rfl hl (by decide) rfl (fun ls hl => ?_)
        refine lv_iinc (v := x4 + 1) (lv' := [(4, .int (x4 + 1)), (3, .int (x3 + r8)), (0, .ref (ad 29)), (1, .int z1), (2, .int z2)]) hx hb dX3_ticksOfMember_34 hl (k := 4) rfl rfl (by decide) rfl (fun ls hl => ?_)
        refine lv_goto (tgt := 5) hx hb dX3_ticksOfMember_37 (by decide) ?_
        exact ih (x3 + r8) (x4 + 1) ls hF (lv_sub hl [2, 3, 4, 1, 0] rfl)
def fX3_ticksOfMember (mem : Mem) (a1 : Int32) (a2 : Int32) : Option (Int32) :=
  fX3_ticksOfMember_5 mem a1 a2 fu 0 0
set_option maxHeartbeats 4000000 in
set_option maxRecDepth 100000 in
theorem kX3_ticksOfMember (l : Launch) (g : gG) (ad : Nat → Nat) (tk : Nat) (mem : Mem) (a1 : Int32) (a2 : Int32) (r : Int32) (hF : fX3_ticksOfMember mem a1 a2 = some r) : Met l yX3_ticksOfMember (Cond.code yX3_ticksOfMember cX3_ticksOfMember 5 (some .int) :: gw) { frames := 6, cells := 0, slots := 0, locals := 131 } (pG (wX g ad mem) (eX g ad tk) g [.ref (ad 29), .int a1, .int a2]) (qR (some (.int r)) (True)) 0 0 noA := by
  refine met_of (by decide) (Nat.le_of_ble_eq_true rfl) ?_
  intro p e s m args below meth c ls C0 hP hl
  obtain ⟨hx, hb, hml, hown, hts, hr, hlk, hE⟩ := id C0
  obtain ⟨hK, hN, hA, hZ, hT, hTA⟩ := id hE
  have hl : lv_has ls 5 [(0, .ref (ad 29)), (1, .int a1), (2, .int a2)] := hl
  have hS : va_S (AW 44 ad) s.heap s.heap [] := va_S.rf
  unfold fX3_ticksOfMember at hF
  refine lv_iconst (v := 0) hx hb dX3_ticksOfMember_0 (by decide) ?_
  refine lv_istore_n (lv' := [(3, .int 0), (0, .ref (ad 29)), (1, .int a1), (2, .int a2)]) hx hb dX3_ticksOfMember_1 rfl hl (by decide) rfl (fun ls hl => ?_)
  refine lv_iconst (v := 0) hx hb dX3_ticksOfMember_2 (by decide) ?_
  refine lv_istore (lv' := [(4, .int 0), (3, .int 0), (0, .ref (ad 29)), (1, .int a1), (2, .int a2)]) hx hb dX3_ticksOfMember_3 hl (by decide) rfl (fun ls hl => ?_)
  exact lpX3_ticksOfMember_5 g ad tk mem a1 a2 r C0 hP fu 0 0 ls hF (lv_sub hl [2, 3, 4, 1, 0] rfl)
