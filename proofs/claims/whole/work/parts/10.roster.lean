theorem pkX4_size : pkV yX4_size cX4_size 1 (some .int) RX4 0 := ⟨mI_X4_size, mS_X4_size, mN_X4, mC_X4_size, by decide +kernel⟩
def fX4_size (mem : Mem) : Option (Int32) :=
  some (mem 1 3)
set_option maxHeartbeats 4000000 in
set_option maxRecDepth 100000 in
theorem kX4_size (l : Launch) (g : gG) (ad : Nat → Nat) (tk : Nat) (mem : Mem) (r : Int32) (hF : fX4_size mem = some r) : Met l yX4_size (Cond.code yX4_size cX4_size 1 (some .int) :: gw) { frames := 1, cells := 0, slots := 0, locals := 24 } (pG (wX g ad mem) (eX g ad tk) g [.ref (ad 1)]) (qR (some (.int r)) (True)) 0 0 noA := by
  refine met_of (by decide) (Nat.le_of_ble_eq_true rfl) ?_
  intro p e s m args below meth c ls C0 hP hl
  obtain ⟨hx, hb, hml, hown, hts, hr, hlk, hE⟩ := id C0
  obtain ⟨hK, hN, hA, hZ, hT, hTA⟩ := id hE
  have hl : lv_has ls 1 [(0, .ref (ad 1))] := hl
  have hS : va_S (AW 44 ad) s.heap s.heap [] := va_S.rf
  unfold fX4_size at hF
  refine lv_aload_n hx hb dX4_size_0 rfl (lv_at hl 0 rfl) ?_
  refine get_W C0 hK hP iwX4 1 wX_1 rfl 3 (by decide) mF_X4_22 rfl rfl dX4_size_1 ?_
  cases hF
  exact ret_Ri C0 trivial dX4_size_4
theorem pkX4_has : pkV yX4_has cX4_has 2 (some .boolean) RX4 1 := ⟨mI_X4_has, mS_X4_has, mN_X4, mC_X4_has, by decide +kernel⟩
def fX4_has (mem : Mem) (a1 : Int32) : Option (Int32) :=
  if a1 < 0 then (some 0) else (if mem 1 3 ≤ a1 then (some 0) else (some 1))
set_option maxHeartbeats 4000000 in
set_option maxRecDepth 100000 in
theorem kX4_has (l : Launch) (g : gG) (ad : Nat → Nat) (tk : Nat) (mem : Mem) (a1 : Int32) (r : Int32) (hF : fX4_has mem a1 = some r) : Met l yX4_has (Cond.code yX4_has cX4_has 2 (some .boolean) :: gw) { frames := 1, cells := 0, slots := 0, locals := 24 } (pG (wX g ad mem) (eX g ad tk) g [.ref (ad 1), .int a1]) (qR (some (.int r)) (isB r)) 0 0 noA := by
  refine met_of (by decide) (Nat.le_of_ble_eq_true rfl) ?_
  intro p e s m args below meth c ls C0 hP hl
  obtain ⟨hx, hb, hml, hown, hts, hr, hlk, hE⟩ := id C0
  obtain ⟨hK, hN, hA, hZ, hT, hTA⟩ := id hE
  have hl : lv_has ls 2 [(0, .ref (ad 1)), (1, .int a1)] := hl
  have hS : va_S (AW 44 ad) s.heap s.heap [] := va_S.rf
  unfold fX4_has at hF
  refine lv_iload_n hx hb dX4_has_0 rfl (lv_at hl 1 rfl) ?_
  refine lv_if_lt (tgt := 16) hx hb dX4_has_1 (by decide) (fun c1 => ?_) (fun c1 => ?_)
  · replace hF := (if_pos c1).symm.trans hF
    refine lv_iconst (v := 0) hx hb dX4_has_16 (by decide) ?_
    cases hF
    exact ret_Rz C0 (Or.inl rfl) (Or.inl rfl) dX4_has_17
  · replace hF := (if_neg c1).symm.trans hF
    refine lv_iload_n hx hb dX4_has_4 rfl (lv_at hl 1 rfl) ?_
    refine lv_aload_n hx hb dX4_has_5 rfl (lv_at hl 0 rfl) ?_
    refine get_W C0 hK hP iwX4 1 wX_1 rfl 3 (by decide) mF_X4_22 rfl rfl dX4_has_6 ?_
    refine lv_icmp_ge (tgt := 16) hx hb dX4_has_9 (by decide) (fun c2 => ?_) (fun c2 => ?_)
    · replace hF := (if_pos c2).symm.trans hF
      refine lv_iconst (v := 0) hx hb dX4_has_16 (by decide) ?_
      cases hF
      exact ret_Rz C0 (Or.inl rfl) (Or.inl rfl) dX4_has_17
    · replace hF := (if_neg c2).symm.trans hF
      refine lv_iconst (v := 1) hx hb dX4_has_12 (by decide) ?_
      refine lv_goto (tgt := 17) hx hb dX4_has_13 (by decide) ?_
      cases hF
      exact ret_Rz C0 (Or.inr rfl) (Or.inr rfl) dX4_has_17
theorem pkX4_kindOf : pkV yX4_kindOf cX4_kindOf 2 (some .int) RX4 1 := ⟨mI_X4_kindOf, mS_X4_kindOf, mN_X4, mC_X4_kindOf, by decide +kernel⟩
def fX4_kindOf (mem : Mem) (a1 : Int32) : Option (Int32) :=
  some (atF (mem 2) 10 a1)
set_option maxHeartbeats 4000000 in
set_option maxRecDepth 100000 in
theorem kX4_kindOf (l : Launch) (g : gG) (ad : Nat → Nat) (tk : Nat) (mem : Mem) (a1 : Int32) (r : Int32) (hF : fX4_kindOf mem a1 = some r) : Met l yX4_kindOf (Cond.code yX4_kindOf cX4_kindOf 2 (some .int) :: gw) { frames := 2, cells := 0, slots := 0, locals := 37 } (pG (wX g ad mem) (eX g ad tk) g [.ref (ad 1), .int a1]) (qR (some (.int r)) (True)) 0 0 noA := by
  refine met_of (by decide) (Nat.le_of_ble_eq_true rfl) ?_
  intro p e s m args below meth c ls C0 hP hl
  obtain ⟨hx, hb, hml, hown, hts, hr, hlk, hE⟩ := id C0
  obtain ⟨hK, hN, hA, hZ, hT, hTA⟩ := id hE
  have hl : lv_has ls 2 [(0, .ref (ad 1)), (1, .int a1)] := hl
  have hS : va_S (AW 44 ad) s.heap s.heap [] := va_S.rf
  unfold fX4_kindOf at hF
  refine lv_aload_n hx hb dX4_kindOf_0 rfl (lv_at hl 0 rfl) ?_
  refine get_W C0 hK hP iwX4 1 wX_1 rfl 0 (by decide) mF_X4_9 rfl rfl dX4_kindOf_1 ?_
  refine lv_iload_n hx hb dX4_kindOf_4 rfl (lv_at hl 1 rfl) ?_
  refine at_W C0 hN hK hP 2 wX_2 (by decide) nN_X4_34 ⟨Nat.le_of_ble_eq_true rfl, Nat.le_of_ble_eq_true rfl, Nat.le_of_ble_eq_true rfl, Nat.le_of_ble_eq_true rfl⟩ hl.1 (Nat.le_of_ble_eq_true rfl) dX4_kindOf_5 ?_
  cases hF
  exact ret_Ri C0 trivial dX4_kindOf_8
theorem pkX4_delegationOf : pkV yX4_delegationOf cX4_delegationOf 2 (some .int) RX4 1 := ⟨mI_X4_delegationOf, mS_X4_delegationOf, mN_X4, mC_X4_delegationOf, by decide +kernel⟩
def fX4_delegationOf (mem : Mem) (a1 : Int32) : Option (Int32) :=
  some (atF (mem 3) 10 a1)
set_option maxHeartbeats 4000000 in
set_option maxRecDepth 100000 in
theorem kX4_delegationOf (l : Launch) (g : gG) (ad : Nat → Nat) (tk : Nat) (mem : Mem) (a1 : Int32) (r : Int32) (hF : fX4_delegationOf mem a1 = some r) : Met l yX4_delegationOf (Cond.code yX4_delegationOf cX4_delegationOf 2 (some .int) :: gw) { frames := 2, cells := 0, slots := 0, locals := 37 } (pG (wX g ad mem) (eX g ad tk) g [.ref (ad 1), .int a1]) (qR (some (.int r)) (True)) 0 0 noA := by
  refine met_of (by decide) (Nat.le_of_ble_eq_true rfl) ?_
  intro p e s m args below meth c ls C0 hP hl
  obtain ⟨hx, hb, hml, hown, hts, hr, hlk, hE⟩ := id C0
  obtain ⟨hK, hN, hA, hZ, hT, hTA⟩ := id hE
  have hl : lv_has ls 2 [(0, .ref (ad 1)), (1, .int a1)] := hl
  have hS : va_S (AW 44 ad) s.heap s.heap [] := va_S.rf
  unfold fX4_delegationOf at hF
  refine lv_aload_n hx hb dX4_delegationOf_0 rfl (lv_at hl 0 rfl) ?_
  refine get_W C0 hK hP iwX4 1 wX_1 rfl 1 (by decide) mF_X4_15 rfl rfl dX4_delegationOf_1 ?_
  refine lv_iload_n hx hb dX4_delegationOf_4 rfl (lv_at hl 1 rfl) ?_
  refine at_W C0 hN hK hP 3 wX_3 (by decide) nN_X4_34 ⟨Nat.le_of_ble_eq_true rfl, Nat.le_of_ble_eq_true rfl, Nat.le_of_ble_eq_true rfl, Nat.le_of_ble_eq_true rfl⟩ hl.1 (Nat.le_of_ble_eq_true rfl) dX4_delegationOf_5 ?_
  cases hF
  exact ret_Ri C0 trivial dX4_delegationOf_8
theorem pkX4_isHere : pkV yX4_isHere cX4_isHere 2 (some .boolean) RX4 1 := ⟨mI_X4_isHere, mS_X4_isHere, mN_X4, mC_X4_isHere, by decide +kernel⟩
def fX4_isHere (mem : Mem) (a1 : Int32) : Option (Int32) :=
  if a1 < 0 then (some 0) else (if 10 ≤ a1 then (some 0) else (gI a1 10 (if mem 4 a1.toNatClampNeg = 0 then (some 0) else (some 1))))
set_option maxHeartbeats 4000000 in
set_option maxRecDepth 100000 in
theorem kX4_isHere (l : Launch) (g : gG) (ad : Nat → Nat) (tk : Nat) (mem : Mem) (a1 : Int32) (r : Int32) (hF : fX4_isHere mem a1 = some r) : Met l yX4_isHere (Cond.code yX4_isHere cX4_isHere 2 (some .boolean) :: gw) { frames := 1, cells := 0, slots := 0, locals := 24 } (pG (wX g ad mem) (eX g ad tk) g [.ref (ad 1), .int a1]) (qR (some (.int r)) (isB r)) 0 0 noA := by
  refine met_of (by decide) (Nat.le_of_ble_eq_true rfl) ?_
  intro p e s m args below meth c ls C0 hP hl
  obtain ⟨hx, hb, hml, hown, hts, hr, hlk, hE⟩ := id C0
  obtain ⟨hK, hN, hA, hZ, hT, hTA⟩ := id hE
  have hl : lv_has ls 2 [(0, .ref (ad 1)), (1, .int a1)] := hl
  have hS : va_S (AW 44 ad) s.heap s.heap [] := va_S.rf
  unfold fX4_isHere at hF
  refine lv_iload_n hx hb dX4_isHere_0 rfl (lv_at hl 1 rfl) ?_
  refine lv_if_lt (tgt := 26) hx hb dX4_isHere_1 (by decide) (fun c1 => ?_) (fun c1 => ?_)
  · replace hF := (if_pos c1).symm.trans hF
    refine lv_iconst (v := 0) hx hb dX4_isHere_26 (by decide) ?_
    cases hF
    exact ret_Rz C0 (Or.inl rfl) (Or.inl rfl) dX4_isHere_27
  · replace hF := (if_neg c1).symm.trans hF
    refine lv_iload_n hx hb dX4_isHere_4 rfl (lv_at hl 1 rfl) ?_
    refine lv_aload_n hx hb dX4_isHere_5 rfl (lv_at hl 0 rfl) ?_
    refine get_W C0 hK hP iwX4 1 wX_1 rfl 2 (by decide) mF_X4_18 rfl rfl dX4_isHere_6 ?_
    refine va_alen hx hb hK hP 4 1 wX_4 rfl (v := 10) rfl dX4_isHere_9 ?_
    refine lv_icmp_ge (tgt := 26) hx hb dX4_isHere_10 (by decide) (fun c2 => ?_) (fun c2 => ?_)
    · replace hF := (if_pos c2).symm.trans hF
      refine lv_iconst (v := 0) hx hb dX4_isHere_26 (by decide) ?_
      cases hF
      exact ret_Rz C0 (Or.inl rfl) (Or.inl rfl) dX4_isHere_27
    · replace hF := (if_neg c2).symm.trans hF
      refine lv_aload_n hx hb dX4_isHere_13 rfl (lv_at hl 0 rfl) ?_
      refine get_W C0 hK hP iwX4 1 wX_1 rfl 2 (by decide) mF_X4_18 rfl rfl dX4_isHere_14 ?_
      refine lv_iload_n hx hb dX4_isHere_17 rfl (lv_at hl 1 rfl) ?_
      obtain ⟨g3, hF⟩ := gI_some hF
      refine va_zald hx hb hK hP 4 1 wX_4 rfl g3 dX4_isHere_18 ?_
      refine lv_if_eq (tgt := 26) hx hb dX4_isHere_19 (by decide) (fun c4 => ?_) (fun c4 => ?_)
      · replace hF := (if_pos c4).symm.trans hF
        refine lv_iconst (v := 0) hx hb dX4_isHere_26 (by decide) ?_
        cases hF
        exact ret_Rz C0 (Or.inl rfl) (Or.inl rfl) dX4_isHere_27
      · replace hF := (if_neg c4).symm.trans hF
        refine lv_iconst (v := 1) hx hb dX4_isHere_22 (by decide) ?_
        refine lv_goto (tgt := 27) hx hb dX4_isHere_23 (by decide) ?_
        cases hF
        exact ret_Rz C0 (Or.inr rfl) (Or.inr rfl) dX4_isHere_27
theorem pkX4_setHere : pkV yX4_setHere cX4_setHere 3 (none) RX4 2 := ⟨mI_X4_setHere, mS_X4_setHere, mN_X4, mC_X4_setHere, by decide +kernel⟩
def fX4_setHere (mem : Mem) (a1 : Int32) (a2 : Int32) : Option (Mem) :=
  if a1 < 0 then (some mem) else (if 10 ≤ a1 then (some mem) else (gI a1 10 (some (up2 mem 4 a1.toNatClampNeg (vp_nar .boolean a2)))))
set_option maxHeartbeats 4000000 in
set_option maxRecDepth 100000 in
theorem kX4_setHere (l : Launch) (g : gG) (ad : Nat → Nat) (tk : Nat) (mem : Mem) (a1 : Int32) (a2 : Int32) (mem2 : Mem) (hF : fX4_setHere mem a1 a2 = some mem2) : Met l yX4_setHere (Cond.code yX4_setHere cX4_setHere 3 (none) :: gw) { frames := 1, cells := 0, slots := 0, locals := 24 } (pG (wX g ad mem) (eX g ad tk) g [.ref (ad 1), .int a1, .int a2]) (qW (wX g ad mem2) g (AW 44 ad) (none) (True)) 0 0 (AW 44 ad) := by
  refine met_of (by decide) (Nat.le_of_ble_eq_true rfl) ?_
  intro p e s m args below meth c ls C0 hP hl
  obtain ⟨hx, hb, hml, hown, hts, hr, hlk, hE⟩ := id C0
  obtain ⟨hK, hN, hA, hZ, hT, hTA⟩ := id hE
  have hl : lv_has ls 3 [(0, .ref (ad 1)), (1, .int a1), (2, .int a2)] := hl
  have hS : va_S (AW 44 ad) s.heap s.heap [] := va_S.rf
  unfold fX4_setHere at hF
  refine lv_iload_n hx hb dX4_setHere_0 rfl (lv_at hl 1 rfl) ?_
  refine lv_if_lt (tgt := 20) hx hb dX4_setHere_1 (by decide) (fun c1 => ?_) (fun c1 => ?_)
  · replace hF := (if_pos c1).symm.trans hF
    cases hF
    exact ret_Wv C0 hP hS trivial dX4_setHere_20
  · replace hF := (if_neg c1).symm.trans hF
    refine lv_iload_n hx hb dX4_setHere_4 rfl (lv_at hl 1 rfl) ?_
    refine lv_aload_n hx hb dX4_setHere_5 rfl (lv_at hl 0 rfl) ?_
    refine get_W C0 hK hP iwX4 1 wX_1 rfl 2 (by decide) mF_X4_18 rfl rfl dX4_setHere_6 ?_
    refine va_alen hx hb hK hP 4 1 wX_4 rfl (v := 10) rfl dX4_setHere_9 ?_
    refine lv_icmp_ge (tgt := 20) hx hb dX4_setHere_10 (by decide) (fun c2 => ?_) (fun c2 => ?_)
    · replace hF := (if_pos c2).symm.trans hF
      cases hF
      exact ret_Wv C0 hP hS trivial dX4_setHere_20
    · replace hF := (if_neg c2).symm.trans hF
      refine lv_aload_n hx hb dX4_setHere_13 rfl (lv_at hl 0 rfl) ?_
      refine get_W C0 hK hP iwX4 1 wX_1 rfl 2 (by decide) mF_X4_18 rfl rfl dX4_setHere_14 ?_
      refine lv_iload_n hx hb dX4_setHere_17 rfl (lv_at hl 1 rfl) ?_
      refine lv_iload_n hx hb dX4_setHere_18 rfl (lv_at hl 2 rfl) ?_
      obtain ⟨g3, hF⟩ := gI_some hF
      refine zast_W C0 hK hP (wX_D hA) hS 4 wX_4 g3 wX_s4 dX4_setHere_19 (fun H locs hP hS => ?_)
      cases hF
      exact ret_Wv C0 hP hS trivial dX4_setHere_20
theorem pkX4_enter : pkV yX4_enter cX4_enter 4 (some .int) RX4 2 := ⟨mI_X4_enter, mS_X4_enter, mN_X4, mC_X4_enter, by decide +kernel⟩
def fX4_enter (mem : Mem) (a1 : Int32) (a2 : Int32) : Option (Int32 × Mem) :=
  ob1 (fX4_setHere (up2 (upc (upc mem 2 (setF (mem 2) 10 (mem 1 3) a1)) 3 (setF ((upc mem 2 (setF (mem 2) 10 (mem 1 3) a1)) 3) 10 (mem 1 3) a2)) 1 3 (((upc (upc mem 2 (setF (mem 2) 10 (mem 1 3) a1)) 3 (setF ((upc mem 2 (setF (mem 2) 10 (mem 1 3) a1)) 3) 10 (mem 1 3) a2)) 1 3) + 1)) (mem 1 3) 1) (fun m2 => some (mem 1 3, m2))
set_option maxHeartbeats 4000000 in
set_option maxRecDepth 100000 in
theorem kX4_enter (l : Launch) (g : gG) (ad : Nat → Nat) (tk : Nat) (mem : Mem) (a1 : Int32) (a2 : Int32) (r : Int32) (mem2 : Mem) (hF : fX4_enter mem a1 a2 = some (r, mem2)) : Met l yX4_enter (Cond.code yX4_enter cX4_enter 4 (some .int) :: gw) { frames := 2, cells := 0, slots := 0, locals := 46 } (pG (wX g ad mem) (eX g ad tk) g [.ref (ad 1), .int a1, .int a2]) (qW (wX g ad mem2) g (AW 44 ad) (some (.int r)) (True)) 0 0 (AW 44 ad) := by
  refine met_of (by decide) (Nat.le_of_ble_eq_true rfl) ?_
  intro p e s m args below meth c ls C0 hP hl
  obtain ⟨hx, hb, hml, hown, hts, hr, hlk, hE⟩ := id C0
  obtain ⟨hK, hN, hA, hZ, hT, hTA⟩ := id hE
  have hl : lv_has ls 4 [(0, .ref (ad 1)), (1, .int a1), (2, .int a2)] := hl
  have hS : va_S (AW 44 ad) s.heap s.heap [] := va_S.rf
  unfold fX4_enter at hF
  refine lv_aload_n hx hb dX4_enter_0 rfl (lv_at hl 0 rfl) ?_
  refine get_W C0 hK hP iwX4 1 wX_1 rfl 3 (by decide) mF_X4_22 rfl rfl dX4_enter_1 ?_
  refine lv_istore_n (lv' := [(3, .int (mem 1 3)), (0, .ref (ad 1)), (1, .int a1), (2, .int a2)]) hx hb dX4_enter_4 rfl hl (by decide) rfl (fun ls hl => ?_)
  refine lv_aload_n hx hb dX4_enter_5 rfl (lv_at hl 1 rfl) ?_
  refine get_W C0 hK hP iwX4 1 wX_1 rfl 0 (by decide) mF_X4_9 rfl rfl dX4_enter_6 ?_
  refine lv_iload_n hx hb dX4_enter_9 rfl (lv_at hl 0 rfl) ?_
  refine lv_iload_n hx hb dX4_enter_10 rfl (lv_at hl 2 rfl) ?_
  refine set_W C0 hN hK hP (wX_D hA) hS 2 wX_2 (by decide) wX_s2 nN_X4_26 ⟨Nat.le_of_ble_eq_true rfl, Nat.le_of_ble_eq_true rfl, Nat.le_of_ble_eq_true rfl, Nat.le_of_ble_eq_true rfl⟩ hl.1 (Nat.le_of_ble_eq_true rfl) dX4_enter_11 (fun H locs hP hS => ?_)
  refine lv_aload_n hx hb dX4_enter_14 rfl (lv_at hl 1 rfl) ?_
  refine get_W C0 hK hP iwX4 1 wX_1 rfl 1 (by decide) mF_X4_15 rfl rfl dX4_enter_15 ?_
  refine lv_iload_n hx hb dX4_enter_18 rfl (lv_at hl 0 rfl) ?_
  refine lv_iload_n hx hb dX4_enter_19 rfl (lv_at hl 3 rfl) ?_
  refine set_W C0 hN hK hP (wX_D hA) hS 3 wX_3 (by decide) wX_s3 nN_X4_26 ⟨Nat.le_of_ble_eq_true rfl, Nat.le_of_ble_eq_true rfl, Nat.le_of_ble_eq_true rfl, Nat.le_of_ble_eq_true rfl⟩ hl.1 (Nat.le_of_ble_eq_true rfl) dX4_enter_20 (fun H locs hP hS => ?_)
  refine lv_aload_n hx hb dX4_enter_23 rfl (lv_at hl 1 rfl) ?_
  refine lv_dup hx hb dX4_enter_24 rfl ?_
  refine get_W C0 hK hP iwX4 1 wX_1 rfl 3 (by decide) mF_X4_22 rfl rfl dX4_enter_25 ?_
  refine lv_iconst (v := 1) hx hb dX4_enter_28 (by decide) ?_
  refine lv_iadd hx hb dX4_enter_29 ?_
  refine put_W (k := 3) C0 hK hP (wX_D hA) hS iwX4 tyX4_ok nmX4 1 wX_1 rfl (by decide) mF_X4_22 rfl rfl rfl rfl (Nat.le_of_ble_eq_true rfl) wX_s1_3 dX4_enter_30 (fun H locs hP hS => ?_)
  refine lv_aload_n hx hb dX4_enter_33 rfl (lv_at hl 1 rfl) ?_
  refine lv_iload_n hx hb dX4_enter_34 rfl (lv_at hl 0 rfl) ?_
  refine lv_iconst (v := 1) hx hb dX4_enter_35 (by decide) ?_
  obtain ⟨m2, h1, hF⟩ := ob_some hF
  refine cV_Wv C0 eX_st hP hS hK pkX4_setHere (As := [.int (mem 1 3), .int 1]) (rest := []) (kX4_setHere l g ad tk (up2 (upc (upc mem 2 (setF (mem 2) 10 (mem 1 3) a1)) 3 (setF ((upc mem 2 (setF (mem 2) 10 (mem 1 3) a1)) 3) 10 (mem 1 3) a2)) 1 3 (((upc (upc mem 2 (setF (mem 2) 10 (mem 1 3) a1)) 3 (setF ((upc mem 2 (setF (mem 2) 10 (mem 1 3) a1)) 3) 10 (mem 1 3) a2)) 1 3) + 1)) (mem 1 3) 1 m2 h1) mL_X4_30 ⟨rfl, rfl, Nat.le_of_ble_eq_true rfl, Nat.le_of_ble_eq_true rfl, Nat.le_of_ble_eq_true rfl, Nat.le_of_ble_eq_true rfl⟩ 1 wX_1 rfl rfl rfl hl.1 rfl (Nat.le_of_ble_eq_true rfl) dX4_enter_36 (fun H locs _ hP hS => ?_)
  refine lv_iload_n hx hb dX4_enter_39 rfl (lv_at hl 0 rfl) ?_
  cases hF
  exact ret_Wi C0 hP hS trivial dX4_enter_40
theorem pkX4_isOfKind : pkV yX4_isOfKind cX4_isOfKind 5 (some .boolean) RX4 2 := ⟨mI_X4_isOfKind, mS_X4_isOfKind, mN_X4, mC_X4_isOfKind, by decide +kernel⟩
def fX4_isOfKind_12 (mem : Mem) (z1 : Int32) (z2 : Int32) : Nat → Int32 → Int32 → Option (Int32)
  | 0, _, _ => none
  | n + 1, x3, x4 =>
    if 4 ≤ x4 then (if x3 = z2 then (some 1) else (some 0)) else (if x3 = z2 then (if x3 = z2 then (some 1) else (some 0)) else (fX4_isOfKind_12 mem z1 z2 n (atF kab 4 x3) (x4 + 1)))
set_option maxHeartbeats 4000000 in
set_option maxRecDepth 100000 in
theorem lpX4_isOfKind_12 {p : Program} {l : Launch} {e : Env} {s : State} {m : MethodId} {args : Array Value} {below : List Frame} {meth : Method} {c : Code} (g : gG) (ad : Nat → Nat) (tk : Nat) (mem : Mem) (z1 : Int32) (z2 : Int32) (r : Int32) (C0 : cxt (eX g ad tk) cX4_isOfKind 5 RX4 (some .boolean) p s m args meth c) (hP : va_P g.1 vwCl (wX g ad mem) s.heap) :
    ∀ (n : Nat) (x3 : Int32) (x4 : Int32) (ls : Array Slot), fX4_isOfKind_12 mem z1 z2 n x3 x4 = some r → lv_has ls 5 [(0, .ref (ad 1)), (1, .int z1), (2, .int z2), (3, .int x3), (4, .int x4)] → W p l e { frames := 2, cells := 0, slots := 0, locals := 37 } s m args below meth c s.heap [] 0 0 (MQ below (qR (some (.int r)) (isB r)) args s 0 0 noA) (F0 m 12 ls []) := by
  obtain ⟨hx, hb, hml, hown, hts, hr, hlk, hE⟩ := id C0
  obtain ⟨hK, hN, hA, hZ, hT, hTA⟩ := id hE
  intro n
  induction n with
  | zero =>
    intro x3 x4 ls hF hl
    cases hF
  | succ n ih =>
    intro x3 x4 ls hF hl
    rw [fX4_isOfKind_12] at hF
    have hS : va_S (AW 44 ad) s.heap s.heap [] := va_S.rf
    refine lv_iload hx hb dX4_isOfKind_12 (lv_at hl 4 rfl) ?_
    refine lv_iconst (v := 4) hx hb dX4_isOfKind_14 (by decide) ?_
    refine lv_icmp_ge (tgt := 37) hx hb dX4_isOfKind_15 (by decide) (fun c1 => ?_) (fun c1 => ?_)
    · replace hF := (if_pos c1).symm.trans hF
      refine lv_iload_n hx hb dX4_isOfKind_37 rfl (lv_at hl 3 rfl) ?_
      refine lv_iload_n hx hb dX4_isOfKind_38 rfl (lv_at hl 2 rfl) ?_
      refine lv_icmp_ne (tgt := 46) hx hb dX4_isOfKind_39 (by decide) (fun c2 => ?_) (fun c2 => ?_)
      · replace hF := (if_neg c2).symm.trans hF
        refine lv_iconst (v := 0) hx hb dX4_isOfKind_46 (by decide) ?_
        cases hF
        exact ret_Rz C0 (Or.inl rfl) (Or.inl rfl) dX4_isOfKind_47
      · replace hF := (if_pos c2).symm.trans hF
        refine lv_iconst (v := 1) hx hb dX4_isOfKind_42 (by decide) ?_
        refine lv_goto (tgt := 47) hx hb dX4_isOfKind_43 (by decide) ?_
        cases hF
        exact ret_Rz C0 (Or.inr rfl) (Or.inr rfl) dX4_isOfKind_47
    · replace hF := (if_neg c1).symm.trans hF
      refine lv_iload_n hx hb dX4_isOfKind_18 rfl (lv_at hl 3 rfl) ?_
      refine lv_iload_n hx hb dX4_isOfKind_19 rfl (lv_at hl 2 rfl) ?_
      refine lv_icmp_eq (tgt := 37) hx hb dX4_isOfKind_20 (by decide) (fun c3 => ?_) (fun c3 => ?_)
      · replace hF := (if_pos c3).symm.trans hF
        refine lv_iload_n hx hb dX4_isOfKind_37 rfl (lv_at hl 3 rfl) ?_
        refine lv_iload_n hx hb dX4_isOfKind_38 rfl (lv_at hl 2 rfl) ?_
        refine lv_icmp_ne (tgt := 46) hx hb dX4_isOfKind_39 (by decide) (fun c4 => ?_) (fun c4 => ?_)
        · replace hF := (if_neg c4).symm.trans hF
          refine lv_iconst (v := 0) hx hb dX4_isOfKind_46 (by decide) ?_
          cases hF
          exact ret_Rz C0 (Or.inl rfl) (Or.inl rfl) dX4_isOfKind_47
        · replace hF := (if_pos c4).symm.trans hF
          refine lv_iconst (v := 1) hx hb dX4_isOfKind_42 (by decide) ?_
          refine lv_goto (tgt := 47) hx hb dX4_isOfKind_43 (by decide) ?_
          cases hF
          exact ret_Rz C0 (Or.inr rfl) (Or.inr rfl) dX4_isOfKind_47
      · replace hF := (if_neg c3).symm.trans hF
        refine va_gets hx hb hZ hS hown (hts _ mF_X4_38) (fun _ h => h) dX4_isOfKind_23 ?_
        refine lv_iload_n hx hb dX4_isOfKind_26 rfl (lv_at hl 3 rfl) ?_
        refine at_X g C0 hN (rdT_kept hT (hS.2.1 tk (rdT_lt hT) hTA)) (by decide) nN_X4_34 ⟨Nat.le_of_ble_eq_true rfl, Nat.le_of_ble_eq_true rfl, Nat.le_of_ble_eq_true rfl, Nat.le_of_ble_eq_true rfl⟩ hl.1 (Nat.le_of_ble_eq_true rfl) dX4_isOfKind_27 ?_
        refine lv_istore_n (lv' := [(3, .int (atF kab 4 x3)), (0, .ref (ad 1)), (1, .int z1), (2, .int z2), (4, .int x4)]) hx hb dX4_isOfKind_30 rfl hl (by decide) rfl (fun ls hl => ?_)
        refine lv_iinc (v := x4 + 1) (lv' := [(4, .int (x4 + 1)), (3, .int (atF kab 4 x3)), (0, .ref (ad 1)), (1, .int z1), (2, .int z2)]) hx hb dX4_isOfKind_31 hl (k := 4) rfl rfl (by decide) rfl (fun ls hl => ?_)
        refine lv_goto (tgt := 12) hx hb dX4_isOfKind_34 (by decide) ?_
        exact ih (atF kab 4 x3) (x4 + 1) ls hF (lv_sub hl [2, 3, 4, 1, 0] rfl)
def fX4_isOfKind (mem : Mem) (a1 : Int32) (a2 : Int32) : Option (Int32) :=
  fX4_isOfKind_12 mem a1 a2 fu (atF (mem 2) 10 a1) 0
set_option maxHeartbeats 4000000 in
set_option maxRecDepth 100000 in
theorem kX4_isOfKind (l : Launch) (g : gG) (ad : Nat → Nat) (tk : Nat) (mem : Mem) (a1 : Int32) (a2 : Int32) (r : Int32) (hF : fX4_isOfKind mem a1 a2 = some r) : Met l yX4_isOfKind (Cond.code yX4_isOfKind cX4_isOfKind 5 (some .boolean) :: gw) { frames := 2, cells := 0, slots := 0, locals := 37 } (pG (wX g ad mem) (eX g ad tk) g [.ref (ad 1), .int a1, .int a2]) (qR (some (.int r)) (isB r)) 0 0 noA := by
  refine met_of (by decide) (Nat.le_of_ble_eq_true rfl) ?_
  intro p e s m args below meth c ls C0 hP hl
  obtain ⟨hx, hb, hml, hown, hts, hr, hlk, hE⟩ := id C0
  obtain ⟨hK, hN, hA, hZ, hT, hTA⟩ := id hE
  have hl : lv_has ls 5 [(0, .ref (ad 1)), (1, .int a1), (2, .int a2)] := hl
  have hS : va_S (AW 44 ad) s.heap s.heap [] := va_S.rf
  unfold fX4_isOfKind at hF
  refine lv_aload_n hx hb dX4_isOfKind_0 rfl (lv_at hl 0 rfl) ?_
  refine get_W C0 hK hP iwX4 1 wX_1 rfl 0 (by decide) mF_X4_9 rfl rfl dX4_isOfKind_1 ?_
  refine lv_iload_n hx hb dX4_isOfKind_4 rfl (lv_at hl 1 rfl) ?_
  refine at_W C0 hN hK hP 2 wX_2 (by decide) nN_X4_34 ⟨Nat.le_of_ble_eq_true rfl, Nat.le_of_ble_eq_true rfl, Nat.le_of_ble_eq_true rfl, Nat.le_of_ble_eq_true rfl⟩ hl.1 (Nat.le_of_ble_eq_true rfl) dX4_isOfKind_5 ?_
  refine lv_istore_n (lv' := [(3, .int (atF (mem 2) 10 a1)), (0, .ref (ad 1)), (1, .int a1), (2, .int a2)]) hx hb dX4_isOfKind_8 rfl hl (by decide) rfl (fun ls hl => ?_)
  refine lv_iconst (v := 0) hx hb dX4_isOfKind_9 (by decide) ?_
  refine lv_istore (lv' := [(4, .int 0), (3, .int (atF (mem 2) 10 a1)), (0, .ref (ad 1)), (1, .int a1), (2, .int a2)]) hx hb dX4_isOfKind_10 hl (by decide) rfl (fun ls hl => ?_)
  exact lpX4_isOfKind_12 g ad tk mem a1 a2 r C0 hP fu (atF (mem 2) 10 a1) 0 ls hF (lv_sub hl [2, 3, 4, 1, 0] rfl)
theorem pkX4_mayVote : pkV yX4_mayVote cX4_mayVote 2 (some .boolean) RX4 1 := ⟨mI_X4_mayVote, mS_X4_mayVote, mN_X4, mC_X4_mayVote, by decide +kernel⟩
def fX4_mayVote (mem : Mem) (a1 : Int32) : Option (Int32) :=
  ob1 (fX4_isHere mem a1) (fun r2 => if r2 = 0 then (some 0) else (ob1 (fX4_isOfKind mem a1 1) (fun r6 => if r6 = 0 then (some 1) else (some 0))))
set_option maxHeartbeats 4000000 in
set_option maxRecDepth 100000 in
theorem kX4_mayVote (l : Launch) (g : gG) (ad : Nat → Nat) (tk : Nat) (mem : Mem) (a1 : Int32) (r : Int32) (hF : fX4_mayVote mem a1 = some r) : Met l yX4_mayVote (Cond.code yX4_mayVote cX4_mayVote 2 (some .boolean) :: gw) { frames := 3, cells := 0, slots := 0, locals := 61 } (pG (wX g ad mem) (eX g ad tk) g [.ref (ad 1), .int a1]) (qR (some (.int r)) (isB r)) 0 0 noA := by
  refine met_of (by decide) (Nat.le_of_ble_eq_true rfl) ?_
  intro p e s m args below meth c ls C0 hP hl
  obtain ⟨hx, hb, hml, hown, hts, hr, hlk, hE⟩ := id C0
  obtain ⟨hK, hN, hA, hZ, hT, hTA⟩ := id hE
  have hl : lv_has ls 2 [(0, .ref (ad 1)), (1, .int a1)] := hl
  have hS : va_S (AW 44 ad) s.heap s.heap [] := va_S.rf
  unfold fX4_mayVote at hF
  refine lv_aload_n hx hb dX4_mayVote_0 rfl (lv_at hl 0 rfl) ?_
  refine lv_iload_n hx hb dX4_mayVote_1 rfl (lv_at hl 1 rfl) ?_
  obtain ⟨r2, h1, hF⟩ := ob_some hF
  refine cV_Ri C0 eX_st hP hS hK pkX4_isHere (As := [.int a1]) (rest := []) (kX4_isHere l g ad tk mem a1 r2 h1) mL_X4_41 ⟨rfl, rfl, Nat.le_of_ble_eq_true rfl, Nat.le_of_ble_eq_true rfl, Nat.le_of_ble_eq_true rfl, Nat.le_of_ble_eq_true rfl⟩ 1 wX_1 rfl rfl rfl hl.1 rfl (Nat.le_of_ble_eq_true rfl) dX4_mayVote_2 (fun b3 => ?_)
  refine lv_if_eq (tgt := 21) hx hb dX4_mayVote_5 (by decide) (fun c4 => ?_) (fun c4 => ?_)
  · replace hF := (if_pos c4).symm.trans hF
    refine lv_iconst (v := 0) hx hb dX4_mayVote_21 (by decide) ?_
    cases hF
    exact ret_Rz C0 (Or.inl rfl) (Or.inl rfl) dX4_mayVote_22
  · replace hF := (if_neg c4).symm.trans hF
    refine lv_aload_n hx hb dX4_mayVote_8 rfl (lv_at hl 0 rfl) ?_
    refine lv_iload_n hx hb dX4_mayVote_9 rfl (lv_at hl 1 rfl) ?_
    refine lv_iconst (v := 1) hx hb dX4_mayVote_10 (by decide) ?_
    obtain ⟨r6, h5, hF⟩ := ob_some hF
    refine cV_Ri C0 eX_st hP hS hK pkX4_isOfKind (As := [.int a1, .int 1]) (rest := []) (kX4_isOfKind l g ad tk mem a1 1 r6 h5) mL_X4_45 ⟨rfl, rfl, Nat.le_of_ble_eq_true rfl, Nat.le_of_ble_eq_true rfl, Nat.le_of_ble_eq_true rfl, Nat.le_of_ble_eq_true rfl⟩ 1 wX_1 rfl rfl rfl hl.1 rfl (Nat.le_of_ble_eq_true rfl) dX4_mayVote_11 (fun b7 => ?_)
    refine lv_if_ne (tgt := 21) hx hb dX4_mayVote_14 (by decide) (fun c8 => ?_) (fun c8 => ?_)
    · replace hF := (if_neg c8).symm.trans hF
      refine lv_iconst (v := 0) hx hb dX4_mayVote_21 (by decide) ?_
      cases hF
      exact ret_Rz C0 (Or.inl rfl) (Or.inl rfl) dX4_mayVote_22
    · replace hF := (if_pos c8).symm.trans hF
      refine lv_iconst (v := 1) hx hb dX4_mayVote_17 (by decide) ?_
      refine lv_goto (tgt := 22) hx hb dX4_mayVote_18 (by decide) ?_
      cases hF
      exact ret_Rz C0 (Or.inr rfl) (Or.inr rfl) dX4_mayVote_22
theorem pkX4_isPeopled : pkV yX4_isPeopled cX4_isPeopled 3 (some .boolean) RX4 1 := ⟨mI_X4_isPeopled, mS_X4_isPeopled, mN_X4, mC_X4_isPeopled, by decide +kernel⟩
def fX4_isPeopled_2 (mem : Mem) (z1 : Int32) : Nat → Int32 → Option (Int32)
  | 0, _ => none
  | n + 1, x2 =>
    if mem 1 3 ≤ x2 then (some 0) else (ob1 (fX4_delegationOf mem x2) (fun r3 => if r3 = z1 then (some 1) else (fX4_isPeopled_2 mem z1 n (x2 + 1))))
set_option maxHeartbeats 4000000 in
set_option maxRecDepth 100000 in
theorem lpX4_isPeopled_2 {p : Program} {l : Launch} {e : Env} {s : State} {m : MethodId} {args : Array Value} {below : List Frame} {meth : Method} {c : Code} (g : gG) (ad : Nat → Nat) (tk : Nat) (mem : Mem) (z1 : Int32) (r : Int32) (C0 : cxt (eX g ad tk) cX4_isPeopled 3 RX4 (some .boolean) p s m args meth c) (hP : va_P g.1 vwCl (wX g ad mem) s.heap) :
    ∀ (n : Nat) (x2 : Int32) (ls : Array Slot), fX4_isPeopled_2 mem z1 n x2 = some r → lv_has ls 3 [(0, .ref (ad 1)), (1, .int z1), (2, .int x2)] → W p l e { frames := 3, cells := 0, slots := 0, locals := 58 } s m args below meth c s.heap [] 0 0 (MQ below (qR (some (.int r)) (isB r)) args s 0 0 noA) (F0 m 2 ls []) := by
  obtain ⟨hx, hb, hml, hown, hts, hr, hlk, hE⟩ := id C0
  obtain ⟨hK, hN, hA, hZ, hT, hTA⟩ := id hE
  intro n
  induction n with
  | zero =>
    intro x2 ls hF hl
    cases hF
  | succ n ih =>
    intro x2 ls hF hl
    rw [fX4_isPeopled_2] at hF
    have hS : va_S (AW 44 ad) s.heap s.heap [] := va_S.rf
    refine lv_iload_n hx hb dX4_isPeopled_2 rfl (lv_at hl 2 rfl) ?_
    refine lv_aload_n hx hb dX4_isPeopled_3 rfl (lv_at hl 0 rfl) ?_
    refine get_W C0 hK hP iwX4 1 wX_1 rfl 3 (by decide) mF_X4_22 rfl rfl dX4_isPeopled_4 ?_
    refine lv_icmp_ge (tgt := 27) hx hb dX4_isPeopled_7 (by decide) (fun c1 => ?_) (fun c1 => ?_)
    · replace hF := (if_pos c1).symm.trans hF
      refine lv_iconst (v := 0) hx hb dX4_isPeopled_27 (by decide) ?_
      cases hF
      exact ret_Rz C0 (Or.inl rfl) (Or.inl rfl) dX4_isPeopled_28
    · replace hF := (if_neg c1).symm.trans hF
      refine lv_aload_n hx hb dX4_isPeopled_10 rfl (lv_at hl 0 rfl) ?_
      refine lv_iload_n hx hb dX4_isPeopled_11 rfl (lv_at hl 2 rfl) ?_
      obtain ⟨r3, h2, hF⟩ := ob_some hF
      refine cV_Ri C0 eX_st hP hS hK pkX4_delegationOf (As := [.int x2]) (rest := []) (kX4_delegationOf l g ad tk mem x2 r3 h2) mL_X4_49 ⟨rfl, rfl, Nat.le_of_ble_eq_true rfl, Nat.le_of_ble_eq_true rfl, Nat.le_of_ble_eq_true rfl, Nat.le_of_ble_eq_true rfl⟩ 1 wX_1 rfl rfl rfl hl.1 rfl (Nat.le_of_ble_eq_true rfl) dX4_isPeopled_12 (fun _ => ?_)
      refine lv_iload_n hx hb dX4_isPeopled_15 rfl (lv_at hl 1 rfl) ?_
      refine lv_icmp_ne (tgt := 21) hx hb dX4_isPeopled_16 (by decide) (fun c4 => ?_) (fun c4 => ?_)
      · replace hF := (if_neg c4).symm.trans hF
        refine lv_iinc (v := x2 + 1) (lv' := [(2, .int (x2 + 1)), (0, .ref (ad 1)), (1, .int z1)]) hx hb dX4_isPeopled_21 hl (k := 2) rfl rfl (by decide) rfl (fun ls hl => ?_)
        refine lv_goto (tgt := 2) hx hb dX4_isPeopled_24 (by decide) ?_
        exact ih (x2 + 1) ls hF (lv_sub hl [1, 2, 0] rfl)
      · replace hF := (if_pos c4).symm.trans hF
        refine lv_iconst (v := 1) hx hb dX4_isPeopled_19 (by decide) ?_
        cases hF
        exact ret_Rz C0 (Or.inr rfl) (Or.inr rfl) dX4_isPeopled_20
def fX4_isPeopled (mem : Mem) (a1 : Int32) : Option (Int32) :=
  fX4_isPeopled_2 mem a1 fu 0
set_option maxHeartbeats 4000000 in
set_option maxRecDepth 100000 in
theorem kX4_isPeopled (l : Launch) (g : gG) (ad : Nat → Nat) (tk : Nat) (mem : Mem) (a1 : Int32) (r : Int32) (hF : fX4_isPeopled mem a1 = some r) : Met l yX4_isPeopled (Cond.code yX4_isPeopled cX4_isPeopled 3 (some .boolean) :: gw) { frames := 3, cells := 0, slots := 0, locals := 58 } (pG (wX g ad mem) (eX g ad tk) g [.ref (ad 1), .int a1]) (qR (some (.int r)) (isB r)) 0 0 noA := by
  refine met_of (by decide) (Nat.le_of_ble_eq_true rfl) ?_
  intro p e s m args below meth c ls C0 hP hl
  obtain ⟨hx, hb, hml, hown, hts, hr, hlk, hE⟩ := id C0
  obtain ⟨hK, hN, hA, hZ, hT, hTA⟩ := id hE
  have hl : lv_has ls 3 [(0, .ref (ad 1)), (1, .int a1)] := hl
  have hS : va_S (AW 44 ad) s.heap s.heap [] := va_S.rf
  unfold fX4_isPeopled at hF
  refine lv_iconst (v := 0) hx hb dX4_isPeopled_0 (by decide) ?_
  refine lv_istore_n (lv' := [(2, .int 0), (0, .ref (ad 1)), (1, .int a1)]) hx hb dX4_isPeopled_1 rfl hl (by decide) rfl (fun ls hl => ?_)
  exact lpX4_isPeopled_2 g ad tk mem a1 r C0 hP fu 0 ls hF (lv_sub hl [1, 2, 0] rfl)
