theorem pkX8_isWithin : pkS yX8_isWithin cX8_isWithin 3 (some .boolean) 3 := ⟨mT_X8_isWithin, mN_X8, mC_X8_isWithin, by decide +kernel⟩
def fX8_isWithin (a0 : Int32) (a1 : Int32) (a2 : Int32) : Option (Int32) :=
  if a0 < a1 then (some 0) else (if a2 < a0 then (some 0) else (some 1))
set_option maxHeartbeats 4000000 in
set_option maxRecDepth 100000 in
theorem kX8_isWithin (l : Launch) (g : gG) (a0 : Int32) (a1 : Int32) (a2 : Int32) (r : Int32) (hF : fX8_isWithin a0 a1 a2 = some r) : Met l yX8_isWithin (Cond.code yX8_isWithin cX8_isWithin 3 (some .boolean) :: gw) { frames := 1, cells := 0, slots := 0, locals := 24 } (pG [] (fun _ => True) g [.int a0, .int a1, .int a2]) (qR (some (.int r)) (isB r)) 0 0 noA := by
  refine met_of (by decide) (Nat.le_of_ble_eq_true rfl) ?_
  intro p e s m args below meth c ls C0 hP hl
  obtain ⟨hx, hb, hml, hown, hts, hr, hlk, hE⟩ := id C0
  have hl : lv_has ls 3 [(0, .int a0), (1, .int a1), (2, .int a2)] := hl
  unfold fX8_isWithin at hF
  refine lv_iload_n hx hb dX8_isWithin_0 rfl (lv_at hl 0 rfl) ?_
  refine lv_iload_n hx hb dX8_isWithin_1 rfl (lv_at hl 1 rfl) ?_
  refine lv_icmp_lt (tgt := 14) hx hb dX8_isWithin_2 (by decide) (fun c1 => ?_) (fun c1 => ?_)
  · replace hF := (if_pos c1).symm.trans hF
    refine lv_iconst (v := 0) hx hb dX8_isWithin_14 (by decide) ?_
    cases hF
    exact ret_Rz C0 (Or.inl rfl) (Or.inl rfl) dX8_isWithin_15
  · replace hF := (if_neg c1).symm.trans hF
    refine lv_iload_n hx hb dX8_isWithin_5 rfl (lv_at hl 0 rfl) ?_
    refine lv_iload_n hx hb dX8_isWithin_6 rfl (lv_at hl 2 rfl) ?_
    refine lv_icmp_gt (tgt := 14) hx hb dX8_isWithin_7 (by decide) (fun c2 => ?_) (fun c2 => ?_)
    · replace hF := (if_pos c2).symm.trans hF
      refine lv_iconst (v := 0) hx hb dX8_isWithin_14 (by decide) ?_
      cases hF
      exact ret_Rz C0 (Or.inl rfl) (Or.inl rfl) dX8_isWithin_15
    · replace hF := (if_neg c2).symm.trans hF
      refine lv_iconst (v := 1) hx hb dX8_isWithin_10 (by decide) ?_
      refine lv_goto (tgt := 15) hx hb dX8_isWithin_11 (by decide) ?_
      cases hF
      exact ret_Rz C0 (Or.inr rfl) (Or.inr rfl) dX8_isWithin_15
theorem pkX8_finding : pkV yX8_finding cX8_finding 2 (some .int) RX8 1 := ⟨mI_X8_finding, mS_X8_finding, mN_X8, mC_X8_finding, by decide +kernel⟩
def fX8_finding (mem : Mem) (a1 : Int32) : Option (Int32 × Mem) :=
  some (a1, up2 mem 0 9 ((mem 0 9) + 1))
set_option maxHeartbeats 4000000 in
set_option maxRecDepth 100000 in
theorem kX8_finding (l : Launch) (g : gG) (ad : Nat → Nat) (tk : Nat) (mem : Mem) (a1 : Int32) (r : Int32) (mem2 : Mem) (hF : fX8_finding mem a1 = some (r, mem2)) : Met l yX8_finding (Cond.code yX8_finding cX8_finding 2 (some .int) :: gw) { frames := 1, cells := 0, slots := 0, locals := 24 } (pG (wX g ad mem) (eX g ad tk) g [.ref (ad 0), .int a1]) (qW (wX g ad mem2) g (AW 44 ad) (some (.int r)) (True)) 0 0 (AW 44 ad) := by
  refine met_of (by decide) (Nat.le_of_ble_eq_true rfl) ?_
  intro p e s m args below meth c ls C0 hP hl
  obtain ⟨hx, hb, hml, hown, hts, hr, hlk, hE⟩ := id C0
  obtain ⟨hK, hN, hA, hZ, hT, hTA⟩ := id hE
  have hl : lv_has ls 2 [(0, .ref (ad 0)), (1, .int a1)] := hl
  have hS : va_S (AW 44 ad) s.heap s.heap [] := va_S.rf
  unfold fX8_finding at hF
  refine lv_aload_n hx hb dX8_finding_0 rfl (lv_at hl 0 rfl) ?_
  refine lv_dup hx hb dX8_finding_1 rfl ?_
  refine get_W C0 hK hP iwX8 0 wX_0 rfl 9 (by decide) mF_X8_72 rfl rfl dX8_finding_2 ?_
  refine lv_iconst (v := 1) hx hb dX8_finding_5 (by decide) ?_
  refine lv_iadd hx hb dX8_finding_6 ?_
  refine put_W (k := 9) C0 hK hP (wX_D hA) hS iwX8 tyX8_ok nmX8 0 wX_0 rfl (by decide) mF_X8_72 rfl rfl rfl rfl (Nat.le_of_ble_eq_true rfl) wX_s0_9 dX8_finding_7 (fun H locs hP hS => ?_)
  refine lv_iload_n hx hb dX8_finding_10 rfl (lv_at hl 1 rfl) ?_
  cases hF
  exact ret_Wi C0 hP hS trivial dX8_finding_11
theorem pkX8_member : pkV yX8_member cX8_member 3 (some .int) RX8 2 := ⟨mI_X8_member, mS_X8_member, mN_X8, mC_X8_member, by decide +kernel⟩
def fX8_member (mem : Mem) (a1 : Int32) (a2 : Int32) : Option (Int32 × Mem) :=
  ob1 (fX8_isWithin a1 0 3) (fun r2 => if r2 = 0 then (ob2 (fX8_finding mem (-100001)) (fun r7 m6 => some (r7, m6))) else (ob1 (fX8_isWithin a2 0 4) (fun r9 => if r9 = 0 then (ob2 (fX8_finding mem (-100001)) (fun r23 m22 => some (r23, m22))) else (ob1 (fX4_size mem) (fun r13 => if r13 < 10 then (ob2 (fX4_enter mem a1 a2) (fun r17 m16 => some (r17, m16))) else (ob2 (fX8_finding mem (-100005)) (fun r20 m19 => some (r20, m19))))))))
set_option maxHeartbeats 4000000 in
set_option maxRecDepth 100000 in
theorem kX8_member (l : Launch) (g : gG) (ad : Nat → Nat) (tk : Nat) (mem : Mem) (a1 : Int32) (a2 : Int32) (r : Int32) (mem2 : Mem) (hF : fX8_member mem a1 a2 = some (r, mem2)) : Met l yX8_member (Cond.code yX8_member cX8_member 3 (some .int) :: gw) { frames := 3, cells := 0, slots := 0, locals := 69 } (pG (wX g ad mem) (eX g ad tk) g [.ref (ad 0), .int a1, .int a2]) (qW (wX g ad mem2) g (AW 44 ad) (some (.int r)) (True)) 0 0 (AW 44 ad) := by
  refine met_of (by decide) (Nat.le_of_ble_eq_true rfl) ?_
  intro p e s m args below meth c ls C0 hP hl
  obtain ⟨hx, hb, hml, hown, hts, hr, hlk, hE⟩ := id C0
  obtain ⟨hK, hN, hA, hZ, hT, hTA⟩ := id hE
  have hl : lv_has ls 3 [(0, .ref (ad 0)), (1, .int a1), (2, .int a2)] := hl
  have hS : va_S (AW 44 ad) s.heap s.heap [] := va_S.rf
  unfold fX8_member at hF
  refine lv_iload_n hx hb dX8_member_0 rfl (lv_at hl 1 rfl) ?_
  refine lv_iconst (v := 0) hx hb dX8_member_1 (by decide) ?_
  refine lv_iconst (v := 3) hx hb dX8_member_2 (by decide) ?_
  obtain ⟨r2, h1, hF⟩ := ob_some hF
  refine cS_Ri C0 pkX8_isWithin (As := [.int a1, .int 0, .int 3]) (rest := []) (kX8_isWithin l g a1 0 3 r2 h1) mL_X8_76 ⟨rfl, rfl, Nat.le_of_ble_eq_true rfl, Nat.le_of_ble_eq_true rfl, Nat.le_of_ble_eq_true rfl, Nat.le_of_ble_eq_true rfl⟩ rfl hl.1 rfl (Nat.le_of_ble_eq_true rfl) dX8_member_3 (fun b3 => ?_)
  refine lv_if_eq (tgt := 18) hx hb dX8_member_6 (by decide) (fun c4 => ?_) (fun c4 => ?_)
  · replace hF := (if_pos c4).symm.trans hF
    refine lv_aload_n hx hb dX8_member_18 rfl (lv_at hl 0 rfl) ?_
    refine lv_ldc hx hb hown (hts _ mK_X8_80) dX8_member_19 ?_
    obtain ⟨r7, m6, h5, hF⟩ := ob2_some hF
    refine cV_Wi C0 eX_st hP hS hK pkX8_finding (As := [.int (-100001)]) (rest := []) (kX8_finding l g ad tk mem (-100001) r7 m6 h5) mL_X8_81 ⟨rfl, rfl, Nat.le_of_ble_eq_true rfl, Nat.le_of_ble_eq_true rfl, Nat.le_of_ble_eq_true rfl, Nat.le_of_ble_eq_true rfl⟩ 0 wX_0 rfl rfl rfl hl.1 rfl (Nat.le_of_ble_eq_true rfl) dX8_member_21 (fun H locs _ hP hS => ?_)
    cases hF
    exact ret_Wi C0 hP hS trivial dX8_member_24
  · replace hF := (if_neg c4).symm.trans hF
    refine lv_iload_n hx hb dX8_member_9 rfl (lv_at hl 2 rfl) ?_
    refine lv_iconst (v := 0) hx hb dX8_member_10 (by decide) ?_
    refine lv_iconst (v := 4) hx hb dX8_member_11 (by decide) ?_
    obtain ⟨r9, h8, hF⟩ := ob_some hF
    refine cS_Ri C0 pkX8_isWithin (As := [.int a2, .int 0, .int 4]) (rest := []) (kX8_isWithin l g a2 0 4 r9 h8) mL_X8_76 ⟨rfl, rfl, Nat.le_of_ble_eq_true rfl, Nat.le_of_ble_eq_true rfl, Nat.le_of_ble_eq_true rfl, Nat.le_of_ble_eq_true rfl⟩ rfl hl.1 rfl (Nat.le_of_ble_eq_true rfl) dX8_member_12 (fun b10 => ?_)
    refine lv_if_ne (tgt := 25) hx hb dX8_member_15 (by decide) (fun c11 => ?_) (fun c11 => ?_)
    · replace hF := (if_neg c11).symm.trans hF
      refine lv_aload_n hx hb dX8_member_25 rfl (lv_at hl 0 rfl) ?_
      refine get_W C0 hK hP iwX8 0 wX_0 rfl 0 (by decide) mF_X8_10 rfl rfl dX8_member_26 ?_
      obtain ⟨r13, h12, hF⟩ := ob_some hF
      refine cV_Ri C0 eX_st hP hS hK pkX4_size (As := []) (rest := []) (kX4_size l g ad tk mem r13 h12) mL_X8_85 ⟨rfl, rfl, Nat.le_of_ble_eq_true rfl, Nat.le_of_ble_eq_true rfl, Nat.le_of_ble_eq_true rfl, Nat.le_of_ble_eq_true rfl⟩ 1 wX_1 rfl rfl rfl hl.1 rfl (Nat.le_of_ble_eq_true rfl) dX8_member_29 (fun _ => ?_)
      refine lv_bipush (v := 10) hx hb dX8_member_32 (by decide) ?_
      refine lv_icmp_lt (tgt := 44) hx hb dX8_member_34 (by decide) (fun c14 => ?_) (fun c14 => ?_)
      · replace hF := (if_pos c14).symm.trans hF
        refine lv_aload_n hx hb dX8_member_44 rfl (lv_at hl 0 rfl) ?_
        refine get_W C0 hK hP iwX8 0 wX_0 rfl 0 (by decide) mF_X8_10 rfl rfl dX8_member_45 ?_
        refine lv_iload_n hx hb dX8_member_48 rfl (lv_at hl 1 rfl) ?_
        refine lv_iload_n hx hb dX8_member_49 rfl (lv_at hl 2 rfl) ?_
        obtain ⟨r17, m16, h15, hF⟩ := ob2_some hF
        refine cV_Wi C0 eX_st hP hS hK pkX4_enter (As := [.int a1, .int a2]) (rest := []) (kX4_enter l g ad tk mem a1 a2 r17 m16 h15) mL_X8_90 ⟨rfl, rfl, Nat.le_of_ble_eq_true rfl, Nat.le_of_ble_eq_true rfl, Nat.le_of_ble_eq_true rfl, Nat.le_of_ble_eq_true rfl⟩ 1 wX_1 rfl rfl rfl hl.1 rfl (Nat.le_of_ble_eq_true rfl) dX8_member_50 (fun H locs _ hP hS => ?_)
        cases hF
        exact ret_Wi C0 hP hS trivial dX8_member_53
      · replace hF := (if_neg c14).symm.trans hF
        refine lv_aload_n hx hb dX8_member_37 rfl (lv_at hl 0 rfl) ?_
        refine lv_ldc hx hb hown (hts _ mK_X8_89) dX8_member_38 ?_
        obtain ⟨r20, m19, h18, hF⟩ := ob2_some hF
        refine cV_Wi C0 eX_st hP hS hK pkX8_finding (As := [.int (-100005)]) (rest := []) (kX8_finding l g ad tk mem (-100005) r20 m19 h18) mL_X8_81 ⟨rfl, rfl, Nat.le_of_ble_eq_true rfl, Nat.le_of_ble_eq_true rfl, Nat.le_of_ble_eq_true rfl, Nat.le_of_ble_eq_true rfl⟩ 0 wX_0 rfl rfl rfl hl.1 rfl (Nat.le_of_ble_eq_true rfl) dX8_member_40 (fun H locs _ hP hS => ?_)
        cases hF
        exact ret_Wi C0 hP hS trivial dX8_member_43
    · replace hF := (if_pos c11).symm.trans hF
      refine lv_aload_n hx hb dX8_member_18 rfl (lv_at hl 0 rfl) ?_
      refine lv_ldc hx hb hown (hts _ mK_X8_80) dX8_member_19 ?_
      obtain ⟨r23, m22, h21, hF⟩ := ob2_some hF
      refine cV_Wi C0 eX_st hP hS hK pkX8_finding (As := [.int (-100001)]) (rest := []) (kX8_finding l g ad tk mem (-100001) r23 m22 h21) mL_X8_81 ⟨rfl, rfl, Nat.le_of_ble_eq_true rfl, Nat.le_of_ble_eq_true rfl, Nat.le_of_ble_eq_true rfl, Nat.le_of_ble_eq_true rfl⟩ 0 wX_0 rfl rfl rfl hl.1 rfl (Nat.le_of_ble_eq_true rfl) dX8_member_21 (fun H locs _ hP hS => ?_)
      cases hF
      exact ret_Wi C0 hP hS trivial dX8_member_24
theorem pkX8_as : pkV yX8_as cX8_as 3 (some .int) RX8 2 := ⟨mI_X8_as, mS_X8_as, mN_X8, mC_X8_as, by decide +kernel⟩
def fX8_as (mem : Mem) (a1 : Int32) (a2 : Int32) : Option (Int32 × Mem) :=
  ob1 (fX4_has mem a1) (fun r2 => if r2 = 0 then (ob2 (fX8_finding mem (-100001)) (fun r7 m6 => some (r7, m6))) else (ob1 (fX8_isWithin a2 0 3) (fun r9 => if r9 = 0 then (ob2 (fX8_finding mem (-100001)) (fun r21 m20 => some (r21, m20))) else (ob1 (fX4_isOfKind mem a1 a2) (fun r13 => if r13 = 0 then (ob2 (fX8_finding mem (-100004)) (fun r18 m17 => some (r18, m17))) else (some (a1, mem)))))))
set_option maxHeartbeats 4000000 in
set_option maxRecDepth 100000 in
theorem kX8_as (l : Launch) (g : gG) (ad : Nat → Nat) (tk : Nat) (mem : Mem) (a1 : Int32) (a2 : Int32) (r : Int32) (mem2 : Mem) (hF : fX8_as mem a1 a2 = some (r, mem2)) : Met l yX8_as (Cond.code yX8_as cX8_as 3 (some .int) :: gw) { frames := 3, cells := 0, slots := 0, locals := 61 } (pG (wX g ad mem) (eX g ad tk) g [.ref (ad 0), .int a1, .int a2]) (qW (wX g ad mem2) g (AW 44 ad) (some (.int r)) (True)) 0 0 (AW 44 ad) := by
  refine met_of (by decide) (Nat.le_of_ble_eq_true rfl) ?_
  intro p e s m args below meth c ls C0 hP hl
  obtain ⟨hx, hb, hml, hown, hts, hr, hlk, hE⟩ := id C0
  obtain ⟨hK, hN, hA, hZ, hT, hTA⟩ := id hE
  have hl : lv_has ls 3 [(0, .ref (ad 0)), (1, .int a1), (2, .int a2)] := hl
  have hS : va_S (AW 44 ad) s.heap s.heap [] := va_S.rf
  unfold fX8_as at hF
  refine lv_aload_n hx hb dX8_as_0 rfl (lv_at hl 0 rfl) ?_
  refine get_W C0 hK hP iwX8 0 wX_0 rfl 0 (by decide) mF_X8_10 rfl rfl dX8_as_1 ?_
  refine lv_iload_n hx hb dX8_as_4 rfl (lv_at hl 1 rfl) ?_
  obtain ⟨r2, h1, hF⟩ := ob_some hF
  refine cV_Ri C0 eX_st hP hS hK pkX4_has (As := [.int a1]) (rest := []) (kX4_has l g ad tk mem a1 r2 h1) mL_X8_94 ⟨rfl, rfl, Nat.le_of_ble_eq_true rfl, Nat.le_of_ble_eq_true rfl, Nat.le_of_ble_eq_true rfl, Nat.le_of_ble_eq_true rfl⟩ 1 wX_1 rfl rfl rfl hl.1 rfl (Nat.le_of_ble_eq_true rfl) dX8_as_5 (fun b3 => ?_)
  refine lv_if_eq (tgt := 20) hx hb dX8_as_8 (by decide) (fun c4 => ?_) (fun c4 => ?_)
  · replace hF := (if_pos c4).symm.trans hF
    refine lv_aload_n hx hb dX8_as_20 rfl (lv_at hl 0 rfl) ?_
    refine lv_ldc hx hb hown (hts _ mK_X8_80) dX8_as_21 ?_
    obtain ⟨r7, m6, h5, hF⟩ := ob2_some hF
    refine cV_Wi C0 eX_st hP hS hK pkX8_finding (As := [.int (-100001)]) (rest := []) (kX8_finding l g ad tk mem (-100001) r7 m6 h5) mL_X8_81 ⟨rfl, rfl, Nat.le_of_ble_eq_true rfl, Nat.le_of_ble_eq_true rfl, Nat.le_of_ble_eq_true rfl, Nat.le_of_ble_eq_true rfl⟩ 0 wX_0 rfl rfl rfl hl.1 rfl (Nat.le_of_ble_eq_true rfl) dX8_as_23 (fun H locs _ hP hS => ?_)
    cases hF
    exact ret_Wi C0 hP hS trivial dX8_as_26
  · replace hF := (if_neg c4).symm.trans hF
    refine lv_iload_n hx hb dX8_as_11 rfl (lv_at hl 2 rfl) ?_
    refine lv_iconst (v := 0) hx hb dX8_as_12 (by decide) ?_
    refine lv_iconst (v := 3) hx hb dX8_as_13 (by decide) ?_
    obtain ⟨r9, h8, hF⟩ := ob_some hF
    refine cS_Ri C0 pkX8_isWithin (As := [.int a2, .int 0, .int 3]) (rest := []) (kX8_isWithin l g a2 0 3 r9 h8) mL_X8_76 ⟨rfl, rfl, Nat.le_of_ble_eq_true rfl, Nat.le_of_ble_eq_true rfl, Nat.le_of_ble_eq_true rfl, Nat.le_of_ble_eq_true rfl⟩ rfl hl.1 rfl (Nat.le_of_ble_eq_true rfl) dX8_as_14 (fun b10 => ?_)
    refine lv_if_ne (tgt := 27) hx hb dX8_as_17 (by decide) (fun c11 => ?_) (fun c11 => ?_)
    · replace hF := (if_neg c11).symm.trans hF
      refine lv_aload_n hx hb dX8_as_27 rfl (lv_at hl 0 rfl) ?_
      refine get_W C0 hK hP iwX8 0 wX_0 rfl 0 (by decide) mF_X8_10 rfl rfl dX8_as_28 ?_
      refine lv_iload_n hx hb dX8_as_31 rfl (lv_at hl 1 rfl) ?_
      refine lv_iload_n hx hb dX8_as_32 rfl (lv_at hl 2 rfl) ?_
      obtain ⟨r13, h12, hF⟩ := ob_some hF
      refine cV_Ri C0 eX_st hP hS hK pkX4_isOfKind (As := [.int a1, .int a2]) (rest := []) (kX4_isOfKind l g ad tk mem a1 a2 r13 h12) mL_X8_98 ⟨rfl, rfl, Nat.le_of_ble_eq_true rfl, Nat.le_of_ble_eq_true rfl, Nat.le_of_ble_eq_true rfl, Nat.le_of_ble_eq_true rfl⟩ 1 wX_1 rfl rfl rfl hl.1 rfl (Nat.le_of_ble_eq_true rfl) dX8_as_33 (fun b14 => ?_)
      refine lv_if_ne (tgt := 46) hx hb dX8_as_36 (by decide) (fun c15 => ?_) (fun c15 => ?_)
      · replace hF := (if_neg c15).symm.trans hF
        refine lv_iload_n hx hb dX8_as_46 rfl (lv_at hl 1 rfl) ?_
        cases hF
        exact ret_Wi C0 hP hS trivial dX8_as_47
      · replace hF := (if_pos c15).symm.trans hF
        refine lv_aload_n hx hb dX8_as_39 rfl (lv_at hl 0 rfl) ?_
        refine lv_ldc hx hb hown (hts _ mK_X8_102) dX8_as_40 ?_
        obtain ⟨r18, m17, h16, hF⟩ := ob2_some hF
        refine cV_Wi C0 eX_st hP hS hK pkX8_finding (As := [.int (-100004)]) (rest := []) (kX8_finding l g ad tk mem (-100004) r18 m17 h16) mL_X8_81 ⟨rfl, rfl, Nat.le_of_ble_eq_true rfl, Nat.le_of_ble_eq_true rfl, Nat.le_of_ble_eq_true rfl, Nat.le_of_ble_eq_true rfl⟩ 0 wX_0 rfl rfl rfl hl.1 rfl (Nat.le_of_ble_eq_true rfl) dX8_as_42 (fun H locs _ hP hS => ?_)
        cases hF
        exact ret_Wi C0 hP hS trivial dX8_as_45
    · replace hF := (if_pos c11).symm.trans hF
      refine lv_aload_n hx hb dX8_as_20 rfl (lv_at hl 0 rfl) ?_
      refine lv_ldc hx hb hown (hts _ mK_X8_80) dX8_as_21 ?_
      obtain ⟨r21, m20, h19, hF⟩ := ob2_some hF
      refine cV_Wi C0 eX_st hP hS hK pkX8_finding (As := [.int (-100001)]) (rest := []) (kX8_finding l g ad tk mem (-100001) r21 m20 h19) mL_X8_81 ⟨rfl, rfl, Nat.le_of_ble_eq_true rfl, Nat.le_of_ble_eq_true rfl, Nat.le_of_ble_eq_true rfl, Nat.le_of_ble_eq_true rfl⟩ 0 wX_0 rfl rfl rfl hl.1 rfl (Nat.le_of_ble_eq_true rfl) dX8_as_23 (fun H locs _ hP hS => ?_)
      cases hF
      exact ret_Wi C0 hP hS trivial dX8_as_26
theorem pkX8_present : pkV yX8_present cX8_present 3 (some .int) RX8 2 := ⟨mI_X8_present, mS_X8_present, mN_X8, mC_X8_present, by decide +kernel⟩
def fX8_present (mem : Mem) (a1 : Int32) (a2 : Int32) : Option (Int32 × Mem) :=
  ob1 (fX4_has mem a1) (fun r2 => if r2 = 0 then (ob2 (fX8_finding mem (-100001)) (fun r13 m12 => some (r13, m12))) else (ob1 (fX4_isHere mem a1) (fun r6 => if r6 = a2 then (some (0, mem)) else (ob1 (fX4_setHere mem a1 a2) (fun m10 => some (1, m10))))))
set_option maxHeartbeats 4000000 in
set_option maxRecDepth 100000 in
theorem kX8_present (l : Launch) (g : gG) (ad : Nat → Nat) (tk : Nat) (mem : Mem) (a1 : Int32) (a2 : Int32) (r : Int32) (mem2 : Mem) (hF : fX8_present mem a1 a2 = some (r, mem2)) : Met l yX8_present (Cond.code yX8_present cX8_present 3 (some .int) :: gw) { frames := 2, cells := 0, slots := 0, locals := 46 } (pG (wX g ad mem) (eX g ad tk) g [.ref (ad 0), .int a1, .int a2]) (qW (wX g ad mem2) g (AW 44 ad) (some (.int r)) (True)) 0 0 (AW 44 ad) := by
  refine met_of (by decide) (Nat.le_of_ble_eq_true rfl) ?_
  intro p e s m args below meth c ls C0 hP hl
  obtain ⟨hx, hb, hml, hown, hts, hr, hlk, hE⟩ := id C0
  obtain ⟨hK, hN, hA, hZ, hT, hTA⟩ := id hE
  have hl : lv_has ls 3 [(0, .ref (ad 0)), (1, .int a1), (2, .int a2)] := hl
  have hS : va_S (AW 44 ad) s.heap s.heap [] := va_S.rf
  unfold fX8_present at hF
  refine lv_aload_n hx hb dX8_present_0 rfl (lv_at hl 0 rfl) ?_
  refine get_W C0 hK hP iwX8 0 wX_0 rfl 0 (by decide) mF_X8_10 rfl rfl dX8_present_1 ?_
  refine lv_iload_n hx hb dX8_present_4 rfl (lv_at hl 1 rfl) ?_
  obtain ⟨r2, h1, hF⟩ := ob_some hF
  refine cV_Ri C0 eX_st hP hS hK pkX4_has (As := [.int a1]) (rest := []) (kX4_has l g ad tk mem a1 r2 h1) mL_X8_94 ⟨rfl, rfl, Nat.le_of_ble_eq_true rfl, Nat.le_of_ble_eq_true rfl, Nat.le_of_ble_eq_true rfl, Nat.le_of_ble_eq_true rfl⟩ 1 wX_1 rfl rfl rfl hl.1 rfl (Nat.le_of_ble_eq_true rfl) dX8_present_5 (fun b3 => ?_)
  refine lv_if_ne (tgt := 18) hx hb dX8_present_8 (by decide) (fun c4 => ?_) (fun c4 => ?_)
  · replace hF := (if_neg c4).symm.trans hF
    refine lv_aload_n hx hb dX8_present_18 rfl (lv_at hl 0 rfl) ?_
    refine get_W C0 hK hP iwX8 0 wX_0 rfl 0 (by decide) mF_X8_10 rfl rfl dX8_present_19 ?_
    refine lv_iload_n hx hb dX8_present_22 rfl (lv_at hl 1 rfl) ?_
    obtain ⟨r6, h5, hF⟩ := ob_some hF
    refine cV_Ri C0 eX_st hP hS hK pkX4_isHere (As := [.int a1]) (rest := []) (kX4_isHere l g ad tk mem a1 r6 h5) mL_X8_103 ⟨rfl, rfl, Nat.le_of_ble_eq_true rfl, Nat.le_of_ble_eq_true rfl, Nat.le_of_ble_eq_true rfl, Nat.le_of_ble_eq_true rfl⟩ 1 wX_1 rfl rfl rfl hl.1 rfl (Nat.le_of_ble_eq_true rfl) dX8_present_23 (fun b7 => ?_)
    refine lv_iload_n hx hb dX8_present_26 rfl (lv_at hl 2 rfl) ?_
    refine lv_icmp_ne (tgt := 32) hx hb dX8_present_27 (by decide) (fun c8 => ?_) (fun c8 => ?_)
    · replace hF := (if_neg c8).symm.trans hF
      refine lv_aload_n hx hb dX8_present_32 rfl (lv_at hl 0 rfl) ?_
      refine get_W C0 hK hP iwX8 0 wX_0 rfl 0 (by decide) mF_X8_10 rfl rfl dX8_present_33 ?_
      refine lv_iload_n hx hb dX8_present_36 rfl (lv_at hl 1 rfl) ?_
      refine lv_iload_n hx hb dX8_present_37 rfl (lv_at hl 2 rfl) ?_
      obtain ⟨m10, h9, hF⟩ := ob_some hF
      refine cV_Wv C0 eX_st hP hS hK pkX4_setHere (As := [.int a1, .int a2]) (rest := []) (kX4_setHere l g ad tk mem a1 a2 m10 h9) mL_X8_106 ⟨rfl, rfl, Nat.le_of_ble_eq_true rfl, Nat.le_of_ble_eq_true rfl, Nat.le_of_ble_eq_true rfl, Nat.le_of_ble_eq_true rfl⟩ 1 wX_1 rfl rfl rfl hl.1 rfl (Nat.le_of_ble_eq_true rfl) dX8_present_38 (fun H locs _ hP hS => ?_)
      refine lv_iconst (v := 1) hx hb dX8_present_41 (by decide) ?_
      cases hF
      exact ret_Wi C0 hP hS trivial dX8_present_42
    · replace hF := (if_pos c8).symm.trans hF
      refine lv_iconst (v := 0) hx hb dX8_present_30 (by decide) ?_
      cases hF
      exact ret_Wi C0 hP hS trivial dX8_present_31
  · replace hF := (if_pos c4).symm.trans hF
    refine lv_aload_n hx hb dX8_present_11 rfl (lv_at hl 0 rfl) ?_
    refine lv_ldc hx hb hown (hts _ mK_X8_80) dX8_present_12 ?_
    obtain ⟨r13, m12, h11, hF⟩ := ob2_some hF
    refine cV_Wi C0 eX_st hP hS hK pkX8_finding (As := [.int (-100001)]) (rest := []) (kX8_finding l g ad tk mem (-100001) r13 m12 h11) mL_X8_81 ⟨rfl, rfl, Nat.le_of_ble_eq_true rfl, Nat.le_of_ble_eq_true rfl, Nat.le_of_ble_eq_true rfl, Nat.le_of_ble_eq_true rfl⟩ 0 wX_0 rfl rfl rfl hl.1 rfl (Nat.le_of_ble_eq_true rfl) dX8_present_14 (fun H locs _ hP hS => ?_)
    cases hF
    exact ret_Wi C0 hP hS trivial dX8_present_17
theorem pkX8_of : pkV yX8_of cX8_of 3 (some .int) RX8 2 := ⟨mI_X8_of, mS_X8_of, mN_X8, mC_X8_of, by decide +kernel⟩
def fX8_of (mem : Mem) (a1 : Int32) (a2 : Int32) : Option (Int32 × Mem) :=
  ob1 (fX4_has mem a1) (fun r2 => if r2 = 0 then (ob2 (fX8_finding mem (-100001)) (fun r27 m26 => some (r27, m26))) else (if a2 = 0 then (ob1 (fX4_kindOf mem a1) (fun r7 => some (r7, mem))) else (if a2 = 1 then (ob1 (fX4_delegationOf mem a1) (fun r10 => some (r10, mem))) else (if a2 = 2 then (ob1 (fX4_isHere mem a1) (fun r13 => if r13 = 0 then (some (0, mem)) else (some (1, mem)))) else (if a2 = 3 then (ob1 (fX7_timeOf 5 mem a1) (fun r18 => some (r18, mem))) else (if a2 = 4 then (ob1 (fX7_speechesOf 5 mem a1) (fun r21 => some (r21, mem))) else (ob2 (fX8_finding mem (-100001)) (fun r24 m23 => some (r24, m23)))))))))
set_option maxHeartbeats 4000000 in
set_option maxRecDepth 100000 in
theorem kX8_of (l : Launch) (g : gG) (ad : Nat → Nat) (tk : Nat) (mem : Mem) (a1 : Int32) (a2 : Int32) (r : Int32) (mem2 : Mem) (hF : fX8_of mem a1 a2 = some (r, mem2)) : Met l yX8_of (Cond.code yX8_of cX8_of 3 (some .int) :: gw) { frames := 3, cells := 0, slots := 0, locals := 58 } (pG (wX g ad mem) (eX g ad tk) g [.ref (ad 0), .int a1, .int a2]) (qW (wX g ad mem2) g (AW 44 ad) (some (.int r)) (True)) 0 0 (AW 44 ad) := by
  refine met_of (by decide) (Nat.le_of_ble_eq_true rfl) ?_
  intro p e s m args below meth c ls C0 hP hl
  obtain ⟨hx, hb, hml, hown, hts, hr, hlk, hE⟩ := id C0
  obtain ⟨hK, hN, hA, hZ, hT, hTA⟩ := id hE
  have hl : lv_has ls 3 [(0, .ref (ad 0)), (1, .int a1), (2, .int a2)] := hl
  have hS : va_S (AW 44 ad) s.heap s.heap [] := va_S.rf
  unfold fX8_of at hF
  refine lv_aload_n hx hb dX8_of_0 rfl (lv_at hl 0 rfl) ?_
  refine get_W C0 hK hP iwX8 0 wX_0 rfl 0 (by decide) mF_X8_10 rfl rfl dX8_of_1 ?_
  refine lv_iload_n hx hb dX8_of_4 rfl (lv_at hl 1 rfl) ?_
  obtain ⟨r2, h1, hF⟩ := ob_some hF
  refine cV_Ri C0 eX_st hP hS hK pkX4_has (As := [.int a1]) (rest := []) (kX4_has l g ad tk mem a1 r2 h1) mL_X8_94 ⟨rfl, rfl, Nat.le_of_ble_eq_true rfl, Nat.le_of_ble_eq_true rfl, Nat.le_of_ble_eq_true rfl, Nat.le_of_ble_eq_true rfl⟩ 1 wX_1 rfl rfl rfl hl.1 rfl (Nat.le_of_ble_eq_true rfl) dX8_of_5 (fun b3 => ?_)
  refine lv_if_ne (tgt := 18) hx hb dX8_of_8 (by decide) (fun c4 => ?_) (fun c4 => ?_)
  · replace hF := (if_neg c4).symm.trans hF
    refine lv_iload_n hx hb dX8_of_18 rfl (lv_at hl 2 rfl) ?_
    by_cases c5 : a2 = 0
    · replace hF := (if_pos c5).symm.trans hF
      refine lv_tableIn (off := 33) (tgt := 52) hx hb dX8_of_19 (by rw [c5]; decide) (by rw [c5]; decide) (by rw [c5]; rfl) (by decide) ?_
      refine lv_aload_n hx hb dX8_of_52 rfl (lv_at hl 0 rfl) ?_
      refine get_W C0 hK hP iwX8 0 wX_0 rfl 0 (by decide) mF_X8_10 rfl rfl dX8_of_53 ?_
      refine lv_iload_n hx hb dX8_of_56 rfl (lv_at hl 1 rfl) ?_
      obtain ⟨r7, h6, hF⟩ := ob_some hF
      refine cV_Ri C0 eX_st hP hS hK pkX4_kindOf (As := [.int a1]) (rest := []) (kX4_kindOf l g ad tk mem a1 r7 h6) mL_X8_110 ⟨rfl, rfl, Nat.le_of_ble_eq_true rfl, Nat.le_of_ble_eq_true rfl, Nat.le_of_ble_eq_true rfl, Nat.le_of_ble_eq_true rfl⟩ 1 wX_1 rfl rfl rfl hl.1 rfl (Nat.le_of_ble_eq_true rfl) dX8_of_57 (fun _ => ?_)
      cases hF
      exact ret_Wi C0 hP hS trivial dX8_of_60
    replace hF := (if_neg c5).symm.trans hF
    by_cases c8 : a2 = 1
    · replace hF := (if_pos c8).symm.trans hF
      refine lv_tableIn (off := 42) (tgt := 61) hx hb dX8_of_19 (by rw [c8]; decide) (by rw [c8]; decide) (by rw [c8]; rfl) (by decide) ?_
      refine lv_aload_n hx hb dX8_of_61 rfl (lv_at hl 0 rfl) ?_
      refine get_W C0 hK hP iwX8 0 wX_0 rfl 0 (by decide) mF_X8_10 rfl rfl dX8_of_62 ?_
      refine lv_iload_n hx hb dX8_of_65 rfl (lv_at hl 1 rfl) ?_
      obtain ⟨r10, h9, hF⟩ := ob_some hF
      refine cV_Ri C0 eX_st hP hS hK pkX4_delegationOf (As := [.int a1]) (rest := []) (kX4_delegationOf l g ad tk mem a1 r10 h9) mL_X8_113 ⟨rfl, rfl, Nat.le_of_ble_eq_true rfl, Nat.le_of_ble_eq_true rfl, Nat.le_of_ble_eq_true rfl, Nat.le_of_ble_eq_true rfl⟩ 1 wX_1 rfl rfl rfl hl.1 rfl (Nat.le_of_ble_eq_true rfl) dX8_of_66 (fun _ => ?_)
      cases hF
      exact ret_Wi C0 hP hS trivial dX8_of_69
    replace hF := (if_neg c8).symm.trans hF
    by_cases c11 : a2 = 2
    · replace hF := (if_pos c11).symm.trans hF
      refine lv_tableIn (off := 51) (tgt := 70) hx hb dX8_of_19 (by rw [c11]; decide) (by rw [c11]; decide) (by rw [c11]; rfl) (by decide) ?_
      refine lv_aload_n hx hb dX8_of_70 rfl (lv_at hl 0 rfl) ?_
      refine get_W C0 hK hP iwX8 0 wX_0 rfl 0 (by decide) mF_X8_10 rfl rfl dX8_of_71 ?_
      refine lv_iload_n hx hb dX8_of_74 rfl (lv_at hl 1 rfl) ?_
      obtain ⟨r13, h12, hF⟩ := ob_some hF
      refine cV_Ri C0 eX_st hP hS hK pkX4_isHere (As := [.int a1]) (rest := []) (kX4_isHere l g ad tk mem a1 r13 h12) mL_X8_103 ⟨rfl, rfl, Nat.le_of_ble_eq_true rfl, Nat.le_of_ble_eq_true rfl, Nat.le_of_ble_eq_true rfl, Nat.le_of_ble_eq_true rfl⟩ 1 wX_1 rfl rfl rfl hl.1 rfl (Nat.le_of_ble_eq_true rfl) dX8_of_75 (fun b14 => ?_)
      refine lv_if_eq (tgt := 85) hx hb dX8_of_78 (by decide) (fun c15 => ?_) (fun c15 => ?_)
      · replace hF := (if_pos c15).symm.trans hF
        refine lv_iconst (v := 0) hx hb dX8_of_85 (by decide) ?_
        cases hF
        exact ret_Wi C0 hP hS trivial dX8_of_86
      · replace hF := (if_neg c15).symm.trans hF
        refine lv_iconst (v := 1) hx hb dX8_of_81 (by decide) ?_
        refine lv_goto (tgt := 86) hx hb dX8_of_82 (by decide) ?_
        cases hF
        exact ret_Wi C0 hP hS trivial dX8_of_86
    replace hF := (if_neg c11).symm.trans hF
    by_cases c16 : a2 = 3
    · replace hF := (if_pos c16).symm.trans hF
      refine lv_tableIn (off := 68) (tgt := 87) hx hb dX8_of_19 (by rw [c16]; decide) (by rw [c16]; decide) (by rw [c16]; rfl) (by decide) ?_
      refine lv_aload_n hx hb dX8_of_87 rfl (lv_at hl 0 rfl) ?_
      refine get_W C0 hK hP iwX8 0 wX_0 rfl 1 (by decide) mF_X8_21 rfl rfl dX8_of_88 ?_
      refine lv_iload_n hx hb dX8_of_91 rfl (lv_at hl 1 rfl) ?_
      obtain ⟨r18, h17, hF⟩ := ob_some hF
      refine cV_Ri C0 eX_st hP hS hK pkX7_timeOf (As := [.int a1]) (rest := []) (kX7_timeOf l g ad tk mem 5 (by decide) a1 r18 h17) mL_X8_116 ⟨rfl, rfl, Nat.le_of_ble_eq_true rfl, Nat.le_of_ble_eq_true rfl, Nat.le_of_ble_eq_true rfl, Nat.le_of_ble_eq_true rfl⟩ 5 wX_5 rfl rfl rfl hl.1 rfl (Nat.le_of_ble_eq_true rfl) dX8_of_92 (fun _ => ?_)
      cases hF
      exact ret_Wi C0 hP hS trivial dX8_of_95
    replace hF := (if_neg c16).symm.trans hF
    by_cases c19 : a2 = 4
    · replace hF := (if_pos c19).symm.trans hF
      refine lv_tableIn (off := 77) (tgt := 96) hx hb dX8_of_19 (by rw [c19]; decide) (by rw [c19]; decide) (by rw [c19]; rfl) (by decide) ?_
      refine lv_aload_n hx hb dX8_of_96 rfl (lv_at hl 0 rfl) ?_
      refine get_W C0 hK hP iwX8 0 wX_0 rfl 1 (by decide) mF_X8_21 rfl rfl dX8_of_97 ?_
      refine lv_iload_n hx hb dX8_of_100 rfl (lv_at hl 1 rfl) ?_
      obtain ⟨r21, h20, hF⟩ := ob_some hF
      refine cV_Ri C0 eX_st hP hS hK pkX7_speechesOf (As := [.int a1]) (rest := []) (kX7_speechesOf l g ad tk mem 5 (by decide) a1 r21 h20) mL_X8_119 ⟨rfl, rfl, Nat.le_of_ble_eq_true rfl, Nat.le_of_ble_eq_true rfl, Nat.le_of_ble_eq_true rfl, Nat.le_of_ble_eq_true rfl⟩ 5 wX_5 rfl rfl rfl hl.1 rfl (Nat.le_of_ble_eq_true rfl) dX8_of_101 (fun _ => ?_)
      cases hF
      exact ret_Wi C0 hP hS trivial dX8_of_104
    replace hF := (if_neg c19).symm.trans hF
    have tc5 := ne_toInt c5 (k := 0) rfl
    have tc8 := ne_toInt c8 (k := 1) rfl
    have tc11 := ne_toInt c11 (k := 2) rfl
    have tc16 := ne_toInt c16 (k := 3) rfl
    have tc19 := ne_toInt c19 (k := 4) rfl
    refine lv_tableOut (tgt := 105) hx hb dX8_of_19 (by omega) (by decide) ?_
    refine lv_aload_n hx hb dX8_of_105 rfl (lv_at hl 0 rfl) ?_
    refine lv_ldc hx hb hown (hts _ mK_X8_80) dX8_of_106 ?_
    obtain ⟨r24, m23, h22, hF⟩ := ob2_some hF
    refine cV_Wi C0 eX_st hP hS hK pkX8_finding (As := [.int (-100001)]) (rest := []) (kX8_finding l g ad tk mem (-100001) r24 m23 h22) mL_X8_81 ⟨rfl, rfl, Nat.le_of_ble_eq_true rfl, Nat.le_of_ble_eq_true rfl, Nat.le_of_ble_eq_true rfl, Nat.le_of_ble_eq_true rfl⟩ 0 wX_0 rfl rfl rfl hl.1 rfl (Nat.le_of_ble_eq_true rfl) dX8_of_108 (fun H locs _ hP hS => ?_)
    cases hF
    exact ret_Wi C0 hP hS trivial dX8_of_111
  · replace hF := (if_pos c4).symm.trans hF
    refine lv_aload_n hx hb dX8_of_11 rfl (lv_at hl 0 rfl) ?_
    refine lv_ldc hx hb hown (hts _ mK_X8_80) dX8_of_12 ?_
    obtain ⟨r27, m26, h25, hF⟩ := ob2_some hF
    refine cV_Wi C0 eX_st hP hS hK pkX8_finding (As := [.int (-100001)]) (rest := []) (kX8_finding l g ad tk mem (-100001) r27 m26 h25) mL_X8_81 ⟨rfl, rfl, Nat.le_of_ble_eq_true rfl, Nat.le_of_ble_eq_true rfl, Nat.le_of_ble_eq_true rfl, Nat.le_of_ble_eq_true rfl⟩ 0 wX_0 rfl rfl rfl hl.1 rfl (Nat.le_of_ble_eq_true rfl) dX8_of_14 (fun H locs _ hP hS => ?_)
    cases hF
    exact ret_Wi C0 hP hS trivial dX8_of_17
theorem pkX8_time : pkV yX8_time cX8_time 2 (some .int) RX8 1 := ⟨mI_X8_time, mS_X8_time, mN_X8, mC_X8_time, by decide +kernel⟩
def fX8_time (mem : Mem) (a1 : Int32) : Option (Int32 × Mem) :=
  ob1 (fX8_isWithin a1 0 4) (fun r2 => if r2 = 0 then (ob2 (fX8_finding mem (-100001)) (fun r9 m8 => some (r9, m8))) else (ob1 (fX7_delegationTime 5 mem a1) (fun r6 => some (r6, mem))))
set_option maxHeartbeats 4000000 in
set_option maxRecDepth 100000 in
theorem kX8_time (l : Launch) (g : gG) (ad : Nat → Nat) (tk : Nat) (mem : Mem) (a1 : Int32) (r : Int32) (mem2 : Mem) (hF : fX8_time mem a1 = some (r, mem2)) : Met l yX8_time (Cond.code yX8_time cX8_time 2 (some .int) :: gw) { frames := 3, cells := 0, slots := 0, locals := 58 } (pG (wX g ad mem) (eX g ad tk) g [.ref (ad 0), .int a1]) (qW (wX g ad mem2) g (AW 44 ad) (some (.int r)) (True)) 0 0 (AW 44 ad) := by
  refine met_of (by decide) (Nat.le_of_ble_eq_true rfl) ?_
  intro p e s m args below meth c ls C0 hP hl
  obtain ⟨hx, hb, hml, hown, hts, hr, hlk, hE⟩ := id C0
  obtain ⟨hK, hN, hA, hZ, hT, hTA⟩ := id hE
  have hl : lv_has ls 2 [(0, .ref (ad 0)), (1, .int a1)] := hl
  have hS : va_S (AW 44 ad) s.heap s.heap [] := va_S.rf
  unfold fX8_time at hF
  refine lv_iload_n hx hb dX8_time_0 rfl (lv_at hl 1 rfl) ?_
  refine lv_iconst (v := 0) hx hb dX8_time_1 (by decide) ?_
  refine lv_iconst (v := 4) hx hb dX8_time_2 (by decide) ?_
  obtain ⟨r2, h1, hF⟩ := ob_some hF
  refine cS_Ri C0 pkX8_isWithin (As := [.int a1, .int 0, .int 4]) (rest := []) (kX8_isWithin l g a1 0 4 r2 h1) mL_X8_76 ⟨rfl, rfl, Nat.le_of_ble_eq_true rfl, Nat.le_of_ble_eq_true rfl, Nat.le_of_ble_eq_true rfl, Nat.le_of_ble_eq_true rfl⟩ rfl hl.1 rfl (Nat.le_of_ble_eq_true rfl) dX8_time_3 (fun b3 => ?_)
  refine lv_if_ne (tgt := 16) hx hb dX8_time_6 (by decide) (fun c4 => ?_) (fun c4 => ?_)
  · replace hF := (if_neg c4).symm.trans hF
    refine lv_aload_n hx hb dX8_time_16 rfl (lv_at hl 0 rfl) ?_
    refine get_W C0 hK hP iwX8 0 wX_0 rfl 1 (by decide) mF_X8_21 rfl rfl dX8_time_17 ?_
    refine lv_iload_n hx hb dX8_time_20 rfl (lv_at hl 1 rfl) ?_
    obtain ⟨r6, h5, hF⟩ := ob_some hF
    refine cV_Ri C0 eX_st hP hS hK pkX7_delegationTime (As := [.int a1]) (rest := []) (kX7_delegationTime l g ad tk mem 5 (by decide) a1 r6 h5) mL_X8_122 ⟨rfl, rfl, Nat.le_of_ble_eq_true rfl, Nat.le_of_ble_eq_true rfl, Nat.le_of_ble_eq_true rfl, Nat.le_of_ble_eq_true rfl⟩ 5 wX_5 rfl rfl rfl hl.1 rfl (Nat.le_of_ble_eq_true rfl) dX8_time_21 (fun _ => ?_)
    cases hF
    exact ret_Wi C0 hP hS trivial dX8_time_24
  · replace hF := (if_pos c4).symm.trans hF
    refine lv_aload_n hx hb dX8_time_9 rfl (lv_at hl 0 rfl) ?_
    refine lv_ldc hx hb hown (hts _ mK_X8_80) dX8_time_10 ?_
    obtain ⟨r9, m8, h7, hF⟩ := ob2_some hF
    refine cV_Wi C0 eX_st hP hS hK pkX8_finding (As := [.int (-100001)]) (rest := []) (kX8_finding l g ad tk mem (-100001) r9 m8 h7) mL_X8_81 ⟨rfl, rfl, Nat.le_of_ble_eq_true rfl, Nat.le_of_ble_eq_true rfl, Nat.le_of_ble_eq_true rfl, Nat.le_of_ble_eq_true rfl⟩ 0 wX_0 rfl rfl rfl hl.1 rfl (Nat.le_of_ble_eq_true rfl) dX8_time_12 (fun H locs _ hP hS => ?_)
    cases hF
    exact ret_Wi C0 hP hS trivial dX8_time_15
theorem pkX8_isAsking : pkV yX8_isAsking cX8_isAsking 3 (some .boolean) RX8 2 := ⟨mI_X8_isAsking, mS_X8_isAsking, mN_X8, mC_X8_isAsking, by decide +kernel⟩
def fX8_isAsking (mem : Mem) (a1 : Int32) (a2 : Int32) : Option (Int32) :=
  ob1 (fX4_has mem a1) (fun r2 => if r2 = 0 then (some 0) else (ob1 (fX8_isWithin a2 0 2) (fun r6 => if r6 = 0 then (some 0) else (some 1))))
set_option maxHeartbeats 4000000 in
set_option maxRecDepth 100000 in
theorem kX8_isAsking (l : Launch) (g : gG) (ad : Nat → Nat) (tk : Nat) (mem : Mem) (a1 : Int32) (a2 : Int32) (r : Int32) (hF : fX8_isAsking mem a1 a2 = some r) : Met l yX8_isAsking (Cond.code yX8_isAsking cX8_isAsking 3 (some .boolean) :: gw) { frames := 2, cells := 0, slots := 0, locals := 46 } (pG (wX g ad mem) (eX g ad tk) g [.ref (ad 0), .int a1, .int a2]) (qR (some (.int r)) (isB r)) 0 0 noA := by
  refine met_of (by decide) (Nat.le_of_ble_eq_true rfl) ?_
  intro p e s m args below meth c ls C0 hP hl
  obtain ⟨hx, hb, hml, hown, hts, hr, hlk, hE⟩ := id C0
  obtain ⟨hK, hN, hA, hZ, hT, hTA⟩ := id hE
  have hl : lv_has ls 3 [(0, .ref (ad 0)), (1, .int a1), (2, .int a2)] := hl
  have hS : va_S (AW 44 ad) s.heap s.heap [] := va_S.rf
  unfold fX8_isAsking at hF
  refine lv_aload_n hx hb dX8_isAsking_0 rfl (lv_at hl 0 rfl) ?_
  refine get_W C0 hK hP iwX8 0 wX_0 rfl 0 (by decide) mF_X8_10 rfl rfl dX8_isAsking_1 ?_
  refine lv_iload_n hx hb dX8_isAsking_4 rfl (lv_at hl 1 rfl) ?_
  obtain ⟨r2, h1, hF⟩ := ob_some hF
  refine cV_Ri C0 eX_st hP hS hK pkX4_has (As := [.int a1]) (rest := []) (kX4_has l g ad tk mem a1 r2 h1) mL_X8_94 ⟨rfl, rfl, Nat.le_of_ble_eq_true rfl, Nat.le_of_ble_eq_true rfl, Nat.le_of_ble_eq_true rfl, Nat.le_of_ble_eq_true rfl⟩ 1 wX_1 rfl rfl rfl hl.1 rfl (Nat.le_of_ble_eq_true rfl) dX8_isAsking_5 (fun b3 => ?_)
  refine lv_if_eq (tgt := 24) hx hb dX8_isAsking_8 (by decide) (fun c4 => ?_) (fun c4 => ?_)
  · replace hF := (if_pos c4).symm.trans hF
    refine lv_iconst (v := 0) hx hb dX8_isAsking_24 (by decide) ?_
    cases hF
    exact ret_Rz C0 (Or.inl rfl) (Or.inl rfl) dX8_isAsking_25
  · replace hF := (if_neg c4).symm.trans hF
    refine lv_iload_n hx hb dX8_isAsking_11 rfl (lv_at hl 2 rfl) ?_
    refine lv_iconst (v := 0) hx hb dX8_isAsking_12 (by decide) ?_
    refine lv_iconst (v := 2) hx hb dX8_isAsking_13 (by decide) ?_
    obtain ⟨r6, h5, hF⟩ := ob_some hF
    refine cS_Ri C0 pkX8_isWithin (As := [.int a2, .int 0, .int 2]) (rest := []) (kX8_isWithin l g a2 0 2 r6 h5) mL_X8_76 ⟨rfl, rfl, Nat.le_of_ble_eq_true rfl, Nat.le_of_ble_eq_true rfl, Nat.le_of_ble_eq_true rfl, Nat.le_of_ble_eq_true rfl⟩ rfl hl.1 rfl (Nat.le_of_ble_eq_true rfl) dX8_isAsking_14 (fun b7 => ?_)
    refine lv_if_eq (tgt := 24) hx hb dX8_isAsking_17 (by decide) (fun c8 => ?_) (fun c8 => ?_)
    · replace hF := (if_pos c8).symm.trans hF
      refine lv_iconst (v := 0) hx hb dX8_isAsking_24 (by decide) ?_
      cases hF
      exact ret_Rz C0 (Or.inl rfl) (Or.inl rfl) dX8_isAsking_25
    · replace hF := (if_neg c8).symm.trans hF
      refine lv_iconst (v := 1) hx hb dX8_isAsking_20 (by decide) ?_
      refine lv_goto (tgt := 25) hx hb dX8_isAsking_21 (by decide) ?_
      cases hF
      exact ret_Rz C0 (Or.inr rfl) (Or.inr rfl) dX8_isAsking_25
theorem pkX8_ask : pkV yX8_ask cX8_ask 3 (some .int) RX8 2 := ⟨mI_X8_ask, mS_X8_ask, mN_X8, mC_X8_ask, by decide +kernel⟩
def fX8_ask (mem : Mem) (a1 : Int32) (a2 : Int32) : Option (Int32 × Mem) :=
  ob1 (fX8_isAsking mem a1 a2) (fun r2 => if r2 = 0 then (ob2 (fX8_finding mem (-100001)) (fun r23 m22 => some (r23, m22))) else (ob1 (fX7_find 5 mem a1 a2) (fun r6 => if r6 = (-1) then (ob1 (fX7_size 5 mem) (fun r9 => if r9 < 20 then (ob1 (fX7_append 5 mem a1 a2) (fun m12 => ob1 (fX7_size 5 m12) (fun r14 => some (r14, m12)))) else (ob2 (fX8_finding mem (-100005)) (fun r17 m16 => some (r17, m16))))) else (ob2 (fX8_finding mem (-100003)) (fun r20 m19 => some (r20, m19))))))
set_option maxHeartbeats 4000000 in
set_option maxRecDepth 100000 in
theorem kX8_ask (l : Launch) (g : gG) (ad : Nat → Nat) (tk : Nat) (mem : Mem) (a1 : Int32) (a2 : Int32) (r : Int32) (mem2 : Mem) (hF : fX8_ask mem a1 a2 = some (r, mem2)) : Met l yX8_ask (Cond.code yX8_ask cX8_ask 3 (some .int) :: gw) { frames := 4, cells := 0, slots := 0, locals := 81 } (pG (wX g ad mem) (eX g ad tk) g [.ref (ad 0), .int a1, .int a2]) (qW (wX g ad mem2) g (AW 44 ad) (some (.int r)) (True)) 0 0 (AW 44 ad) := by
  refine met_of (by decide) (Nat.le_of_ble_eq_true rfl) ?_
  intro p e s m args below meth c ls C0 hP hl
  obtain ⟨hx, hb, hml, hown, hts, hr, hlk, hE⟩ := id C0
  obtain ⟨hK, hN, hA, hZ, hT, hTA⟩ := id hE
  have hl : lv_has ls 3 [(0, .ref (ad 0)), (1, .int a1), (2, .int a2)] := hl
  have hS : va_S (AW 44 ad) s.heap s.heap [] := va_S.rf
  unfold fX8_ask at hF
  refine lv_aload_n hx hb dX8_ask_0 rfl (lv_at hl 0 rfl) ?_
  refine lv_iload_n hx hb dX8_ask_1 rfl (lv_at hl 1 rfl) ?_
  refine lv_iload_n hx hb dX8_ask_2 rfl (lv_at hl 2 rfl) ?_
  obtain ⟨r2, h1, hF⟩ := ob_some hF
  refine cV_Ri C0 eX_st hP hS hK pkX8_isAsking (As := [.int a1, .int a2]) (rest := []) (kX8_isAsking l g ad tk mem a1 a2 r2 h1) mL_X8_125 ⟨rfl, rfl, Nat.le_of_ble_eq_true rfl, Nat.le_of_ble_eq_true rfl, Nat.le_of_ble_eq_true rfl, Nat.le_of_ble_eq_true rfl⟩ 0 wX_0 rfl rfl rfl hl.1 rfl (Nat.le_of_ble_eq_true rfl) dX8_ask_3 (fun b3 => ?_)
  refine lv_if_ne (tgt := 16) hx hb dX8_ask_6 (by decide) (fun c4 => ?_) (fun c4 => ?_)
  · replace hF := (if_neg c4).symm.trans hF
    refine lv_aload_n hx hb dX8_ask_16 rfl (lv_at hl 0 rfl) ?_
    refine get_W C0 hK hP iwX8 0 wX_0 rfl 1 (by decide) mF_X8_21 rfl rfl dX8_ask_17 ?_
    refine lv_iload_n hx hb dX8_ask_20 rfl (lv_at hl 1 rfl) ?_
    refine lv_iload_n hx hb dX8_ask_21 rfl (lv_at hl 2 rfl) ?_
    obtain ⟨r6, h5, hF⟩ := ob_some hF
    refine cV_Ri C0 eX_st hP hS hK pkX7_find (As := [.int a1, .int a2]) (rest := []) (kX7_find l g ad tk mem 5 (by decide) a1 a2 r6 h5) mL_X8_128 ⟨rfl, rfl, Nat.le_of_ble_eq_true rfl, Nat.le_of_ble_eq_true rfl, Nat.le_of_ble_eq_true rfl, Nat.le_of_ble_eq_true rfl⟩ 5 wX_5 rfl rfl rfl hl.1 rfl (Nat.le_of_ble_eq_true rfl) dX8_ask_22 (fun _ => ?_)
    refine lv_iconst (v := (-1)) hx hb dX8_ask_25 (by decide) ?_
    refine lv_icmp_eq (tgt := 36) hx hb dX8_ask_26 (by decide) (fun c7 => ?_) (fun c7 => ?_)
    · replace hF := (if_pos c7).symm.trans hF
      refine lv_aload_n hx hb dX8_ask_36 rfl (lv_at hl 0 rfl) ?_
      refine get_W C0 hK hP iwX8 0 wX_0 rfl 1 (by decide) mF_X8_21 rfl rfl dX8_ask_37 ?_
      obtain ⟨r9, h8, hF⟩ := ob_some hF
      refine cV_Ri C0 eX_st hP hS hK pkX7_size (As := []) (rest := []) (kX7_size l g ad tk mem 5 (by decide) r9 h8) mL_X8_132 ⟨rfl, rfl, Nat.le_of_ble_eq_true rfl, Nat.le_of_ble_eq_true rfl, Nat.le_of_ble_eq_true rfl, Nat.le_of_ble_eq_true rfl⟩ 5 wX_5 rfl rfl rfl hl.1 rfl (Nat.le_of_ble_eq_true rfl) dX8_ask_40 (fun _ => ?_)
      refine lv_bipush (v := 20) hx hb dX8_ask_43 (by decide) ?_
      refine lv_icmp_lt (tgt := 55) hx hb dX8_ask_45 (by decide) (fun c10 => ?_) (fun c10 => ?_)
      · replace hF := (if_pos c10).symm.trans hF
        refine lv_aload_n hx hb dX8_ask_55 rfl (lv_at hl 0 rfl) ?_
        refine get_W C0 hK hP iwX8 0 wX_0 rfl 1 (by decide) mF_X8_21 rfl rfl dX8_ask_56 ?_
        refine lv_iload_n hx hb dX8_ask_59 rfl (lv_at hl 1 rfl) ?_
        refine lv_iload_n hx hb dX8_ask_60 rfl (lv_at hl 2 rfl) ?_
        obtain ⟨m12, h11, hF⟩ := ob_some hF
        refine cV_Wv C0 eX_st hP hS hK pkX7_append (As := [.int a1, .int a2]) (rest := []) (kX7_append l g ad tk mem 5 (by decide) a1 a2 m12 h11) mL_X8_133 ⟨rfl, rfl, Nat.le_of_ble_eq_true rfl, Nat.le_of_ble_eq_true rfl, Nat.le_of_ble_eq_true rfl, Nat.le_of_ble_eq_true rfl⟩ 5 wX_5 rfl rfl rfl hl.1 rfl (Nat.le_of_ble_eq_true rfl) dX8_ask_61 (fun H locs _ hP hS => ?_)
        refine lv_aload_n hx hb dX8_ask_64 rfl (lv_at hl 0 rfl) ?_
        refine get_W C0 hK hP iwX8 0 wX_0 rfl 1 (by decide) mF_X8_21 rfl rfl dX8_ask_65 ?_
        obtain ⟨r14, h13, hF⟩ := ob_some hF
        refine cV_Ri C0 eX_st hP hS hK pkX7_size (As := []) (rest := []) (kX7_size l g ad tk m12 5 (by decide) r14 h13) mL_X8_132 ⟨rfl, rfl, Nat.le_of_ble_eq_true rfl, Nat.le_of_ble_eq_true rfl, Nat.le_of_ble_eq_true rfl, Nat.le_of_ble_eq_true rfl⟩ 5 wX_5 rfl rfl rfl hl.1 rfl (Nat.le_of_ble_eq_true rfl) dX8_ask_68 (fun _ => ?_)
        cases hF
        exact ret_Wi C0 hP hS trivial dX8_ask_71
      · replace hF := (if_neg c10).symm.trans hF
        refine lv_aload_n hx hb dX8_ask_48 rfl (lv_at hl 0 rfl) ?_
        refine lv_ldc hx hb hown (hts _ mK_X8_89) dX8_ask_49 ?_
        obtain ⟨r17, m16, h15, hF⟩ := ob2_some hF
        refine cV_Wi C0 eX_st hP hS hK pkX8_finding (As := [.int (-100005)]) (rest := []) (kX8_finding l g ad tk mem (-100005) r17 m16 h15) mL_X8_81 ⟨rfl, rfl, Nat.le_of_ble_eq_true rfl, Nat.le_of_ble_eq_true rfl, Nat.le_of_ble_eq_true rfl, Nat.le_of_ble_eq_true rfl⟩ 0 wX_0 rfl rfl rfl hl.1 rfl (Nat.le_of_ble_eq_true rfl) dX8_ask_51 (fun H locs _ hP hS => ?_)
        cases hF
        exact ret_Wi C0 hP hS trivial dX8_ask_54
    · replace hF := (if_neg c7).symm.trans hF
      refine lv_aload_n hx hb dX8_ask_29 rfl (lv_at hl 0 rfl) ?_
      refine lv_ldc hx hb hown (hts _ mK_X8_131) dX8_ask_30 ?_
      obtain ⟨r20, m19, h18, hF⟩ := ob2_some hF
      refine cV_Wi C0 eX_st hP hS hK pkX8_finding (As := [.int (-100003)]) (rest := []) (kX8_finding l g ad tk mem (-100003) r20 m19 h18) mL_X8_81 ⟨rfl, rfl, Nat.le_of_ble_eq_true rfl, Nat.le_of_ble_eq_true rfl, Nat.le_of_ble_eq_true rfl, Nat.le_of_ble_eq_true rfl⟩ 0 wX_0 rfl rfl rfl hl.1 rfl (Nat.le_of_ble_eq_true rfl) dX8_ask_32 (fun H locs _ hP hS => ?_)
      cases hF
      exact ret_Wi C0 hP hS trivial dX8_ask_35
  · replace hF := (if_pos c4).symm.trans hF
    refine lv_aload_n hx hb dX8_ask_9 rfl (lv_at hl 0 rfl) ?_
    refine lv_ldc hx hb hown (hts _ mK_X8_80) dX8_ask_10 ?_
    obtain ⟨r23, m22, h21, hF⟩ := ob2_some hF
    refine cV_Wi C0 eX_st hP hS hK pkX8_finding (As := [.int (-100001)]) (rest := []) (kX8_finding l g ad tk mem (-100001) r23 m22 h21) mL_X8_81 ⟨rfl, rfl, Nat.le_of_ble_eq_true rfl, Nat.le_of_ble_eq_true rfl, Nat.le_of_ble_eq_true rfl, Nat.le_of_ble_eq_true rfl⟩ 0 wX_0 rfl rfl rfl hl.1 rfl (Nat.le_of_ble_eq_true rfl) dX8_ask_12 (fun H locs _ hP hS => ?_)
    cases hF
    exact ret_Wi C0 hP hS trivial dX8_ask_15
theorem pkX8_withdraw : pkV yX8_withdraw cX8_withdraw 4 (some .int) RX8 2 := ⟨mI_X8_withdraw, mS_X8_withdraw, mN_X8, mC_X8_withdraw, by decide +kernel⟩
def fX8_withdraw (mem : Mem) (a1 : Int32) (a2 : Int32) : Option (Int32 × Mem) :=
  ob1 (fX8_isAsking mem a1 a2) (fun r2 => if r2 = 0 then (ob2 (fX8_finding mem (-100001)) (fun r17 m16 => some (r17, m16))) else (ob1 (fX7_find 5 mem a1 a2) (fun r6 => if r6 = (-1) then (ob2 (fX8_finding mem (-100006)) (fun r14 m13 => some (r14, m13))) else (ob1 (fX7_drop 5 mem r6) (fun m9 => ob1 (fX7_size 5 m9) (fun r11 => some (r11, m9)))))))
set_option maxHeartbeats 4000000 in
set_option maxRecDepth 100000 in
theorem kX8_withdraw (l : Launch) (g : gG) (ad : Nat → Nat) (tk : Nat) (mem : Mem) (a1 : Int32) (a2 : Int32) (r : Int32) (mem2 : Mem) (hF : fX8_withdraw mem a1 a2 = some (r, mem2)) : Met l yX8_withdraw (Cond.code yX8_withdraw cX8_withdraw 4 (some .int) :: gw) { frames := 4, cells := 0, slots := 0, locals := 81 } (pG (wX g ad mem) (eX g ad tk) g [.ref (ad 0), .int a1, .int a2]) (qW (wX g ad mem2) g (AW 44 ad) (some (.int r)) (True)) 0 0 (AW 44 ad) := by
  refine met_of (by decide) (Nat.le_of_ble_eq_true rfl) ?_
  intro p e s m args below meth c ls C0 hP hl
  obtain ⟨hx, hb, hml, hown, hts, hr, hlk, hE⟩ := id C0
  obtain ⟨hK, hN, hA, hZ, hT, hTA⟩ := id hE
  have hl : lv_has ls 4 [(0, .ref (ad 0)), (1, .int a1), (2, .int a2)] := hl
  have hS : va_S (AW 44 ad) s.heap s.heap [] := va_S.rf
  unfold fX8_withdraw at hF
  refine lv_aload_n hx hb dX8_withdraw_0 rfl (lv_at hl 0 rfl) ?_
  refine lv_iload_n hx hb dX8_withdraw_1 rfl (lv_at hl 1 rfl) ?_
  refine lv_iload_n hx hb dX8_withdraw_2 rfl (lv_at hl 2 rfl) ?_
  obtain ⟨r2, h1, hF⟩ := ob_some hF
  refine cV_Ri C0 eX_st hP hS hK pkX8_isAsking (As := [.int a1, .int a2]) (rest := []) (kX8_isAsking l g ad tk mem a1 a2 r2 h1) mL_X8_125 ⟨rfl, rfl, Nat.le_of_ble_eq_true rfl, Nat.le_of_ble_eq_true rfl, Nat.le_of_ble_eq_true rfl, Nat.le_of_ble_eq_true rfl⟩ 0 wX_0 rfl rfl rfl hl.1 rfl (Nat.le_of_ble_eq_true rfl) dX8_withdraw_3 (fun b3 => ?_)
  refine lv_if_ne (tgt := 16) hx hb dX8_withdraw_6 (by decide) (fun c4 => ?_) (fun c4 => ?_)
  · replace hF := (if_neg c4).symm.trans hF
    refine lv_aload_n hx hb dX8_withdraw_16 rfl (lv_at hl 0 rfl) ?_
    refine get_W C0 hK hP iwX8 0 wX_0 rfl 1 (by decide) mF_X8_21 rfl rfl dX8_withdraw_17 ?_
    refine lv_iload_n hx hb dX8_withdraw_20 rfl (lv_at hl 1 rfl) ?_
    refine lv_iload_n hx hb dX8_withdraw_21 rfl (lv_at hl 2 rfl) ?_
    obtain ⟨r6, h5, hF⟩ := ob_some hF
    refine cV_Ri C0 eX_st hP hS hK pkX7_find (As := [.int a1, .int a2]) (rest := []) (kX7_find l g ad tk mem 5 (by decide) a1 a2 r6 h5) mL_X8_128 ⟨rfl, rfl, Nat.le_of_ble_eq_true rfl, Nat.le_of_ble_eq_true rfl, Nat.le_of_ble_eq_true rfl, Nat.le_of_ble_eq_true rfl⟩ 5 wX_5 rfl rfl rfl hl.1 rfl (Nat.le_of_ble_eq_true rfl) dX8_withdraw_22 (fun _ => ?_)
    refine lv_istore_n (lv' := [(3, .int r6), (0, .ref (ad 0)), (1, .int a1), (2, .int a2)]) hx hb dX8_withdraw_25 rfl hl (by decide) rfl (fun ls hl => ?_)
    refine lv_iload_n hx hb dX8_withdraw_26 rfl (lv_at hl 0 rfl) ?_
    refine lv_iconst (v := (-1)) hx hb dX8_withdraw_27 (by decide) ?_
    refine lv_icmp_ne (tgt := 38) hx hb dX8_withdraw_28 (by decide) (fun c7 => ?_) (fun c7 => ?_)
    · replace hF := (if_neg c7).symm.trans hF
      refine lv_aload_n hx hb dX8_withdraw_38 rfl (lv_at hl 1 rfl) ?_
      refine get_W C0 hK hP iwX8 0 wX_0 rfl 1 (by decide) mF_X8_21 rfl rfl dX8_withdraw_39 ?_
      refine lv_iload_n hx hb dX8_withdraw_42 rfl (lv_at hl 0 rfl) ?_
      obtain ⟨m9, h8, hF⟩ := ob_some hF
      refine cV_Wv C0 eX_st hP hS hK pkX7_drop (As := [.int r6]) (rest := []) (kX7_drop l g ad tk mem 5 (by decide) r6 m9 h8) mL_X8_138 ⟨rfl, rfl, Nat.le_of_ble_eq_true rfl, Nat.le_of_ble_eq_true rfl, Nat.le_of_ble_eq_true rfl, Nat.le_of_ble_eq_true rfl⟩ 5 wX_5 rfl rfl rfl hl.1 rfl (Nat.le_of_ble_eq_true rfl) dX8_withdraw_43 (fun H locs _ hP hS => ?_)
      refine lv_aload_n hx hb dX8_withdraw_46 rfl (lv_at hl 1 rfl) ?_
      refine get_W C0 hK hP iwX8 0 wX_0 rfl 1 (by decide) mF_X8_21 rfl rfl dX8_withdraw_47 ?_
      obtain ⟨r11, h10, hF⟩ := ob_some hF
      refine cV_Ri C0 eX_st hP hS hK pkX7_size (As := []) (rest := []) (kX7_size l g ad tk m9 5 (by decide) r11 h10) mL_X8_132 ⟨rfl, rfl, Nat.le_of_ble_eq_true rfl, Nat.le_of_ble_eq_true rfl, Nat.le_of_ble_eq_true rfl, Nat.le_of_ble_eq_true rfl⟩ 5 wX_5 rfl rfl rfl hl.1 rfl (Nat.le_of_ble_eq_true rfl) dX8_withdraw_50 (fun _ => ?_)
      cases hF
      exact ret_Wi C0 hP hS trivial dX8_withdraw_53
    · replace hF := (if_pos c7).symm.trans hF
      refine lv_aload_n hx hb dX8_withdraw_31 rfl (lv_at hl 1 rfl) ?_
      refine lv_ldc hx hb hown (hts _ mK_X8_137) dX8_withdraw_32 ?_
      obtain ⟨r14, m13, h12, hF⟩ := ob2_some hF
      refine cV_Wi C0 eX_st hP hS hK pkX8_finding (As := [.int (-100006)]) (rest := []) (kX8_finding l g ad tk mem (-100006) r14 m13 h12) mL_X8_81 ⟨rfl, rfl, Nat.le_of_ble_eq_true rfl, Nat.le_of_ble_eq_true rfl, Nat.le_of_ble_eq_true rfl, Nat.le_of_ble_eq_true rfl⟩ 0 wX_0 rfl rfl rfl hl.1 rfl (Nat.le_of_ble_eq_true rfl) dX8_withdraw_34 (fun H locs _ hP hS => ?_)
      cases hF
      exact ret_Wi C0 hP hS trivial dX8_withdraw_37
  · replace hF := (if_pos c4).symm.trans hF
    refine lv_aload_n hx hb dX8_withdraw_9 rfl (lv_at hl 0 rfl) ?_
    refine lv_ldc hx hb hown (hts _ mK_X8_80) dX8_withdraw_10 ?_
    obtain ⟨r17, m16, h15, hF⟩ := ob2_some hF
    refine cV_Wi C0 eX_st hP hS hK pkX8_finding (As := [.int (-100001)]) (rest := []) (kX8_finding l g ad tk mem (-100001) r17 m16 h15) mL_X8_81 ⟨rfl, rfl, Nat.le_of_ble_eq_true rfl, Nat.le_of_ble_eq_true rfl, Nat.le_of_ble_eq_true rfl, Nat.le_of_ble_eq_true rfl⟩ 0 wX_0 rfl rfl rfl hl.1 rfl (Nat.le_of_ble_eq_true rfl) dX8_withdraw_12 (fun H locs _ hP hS => ?_)
    cases hF
    exact ret_Wi C0 hP hS trivial dX8_withdraw_15
theorem pkX8_isKey : pkS yX8_isKey cX8_isKey 1 (some .boolean) 1 := ⟨mT_X8_isKey, mN_X8, mC_X8_isKey, by decide +kernel⟩
def fX8_isKey (a0 : Int32) : Option (Int32) :=
  ob1 (fX8_isWithin a0 1 9) (fun r2 => some r2)
set_option maxHeartbeats 4000000 in
set_option maxRecDepth 100000 in
theorem kX8_isKey (l : Launch) (g : gG) (a0 : Int32) (r : Int32) (hF : fX8_isKey a0 = some r) : Met l yX8_isKey (Cond.code yX8_isKey cX8_isKey 1 (some .boolean) :: gw) { frames := 2, cells := 0, slots := 0, locals := 46 } (pG [] (fun _ => True) g [.int a0]) (qR (some (.int r)) (isB r)) 0 0 noA := by
  refine met_of (by decide) (Nat.le_of_ble_eq_true rfl) ?_
  intro p e s m args below meth c ls C0 hP hl
  obtain ⟨hx, hb, hml, hown, hts, hr, hlk, hE⟩ := id C0
  have hl : lv_has ls 1 [(0, .int a0)] := hl
  unfold fX8_isKey at hF
  refine lv_iload_n hx hb dX8_isKey_0 rfl (lv_at hl 0 rfl) ?_
  refine lv_iconst (v := 1) hx hb dX8_isKey_1 (by decide) ?_
  refine lv_bipush (v := 9) hx hb dX8_isKey_2 (by decide) ?_
  obtain ⟨r2, h1, hF⟩ := ob_some hF
  refine cS_Ri C0 pkX8_isWithin (As := [.int a0, .int 1, .int 9]) (rest := []) (kX8_isWithin l g a0 1 9 r2 h1) mL_X8_76 ⟨rfl, rfl, Nat.le_of_ble_eq_true rfl, Nat.le_of_ble_eq_true rfl, Nat.le_of_ble_eq_true rfl, Nat.le_of_ble_eq_true rfl⟩ rfl hl.1 rfl (Nat.le_of_ble_eq_true rfl) dX8_isKey_4 (fun b3 => ?_)
  cases hF
  exact ret_Rz C0 b3 b3 dX8_isKey_7
theorem pkX8_key : pkV yX8_key cX8_key 2 (some .int) RX8 1 := ⟨mI_X8_key, mS_X8_key, mN_X8, mC_X8_key, by decide +kernel⟩
def fX8_key (mem : Mem) (a1 : Int32) : Option (Int32 × Mem) :=
  ob1 (fX8_isKey a1) (fun r2 => if r2 = 0 then (ob2 (fX8_finding mem (-100001)) (fun r24 m23 => some (r24, m23))) else (ob1 (fX5_has mem a1) (fun r6 => if r6 = 0 then (ob1 (fX5_size mem) (fun r10 => if r10 < 6 then (ob1 (fX5_append mem a1) (fun m13 => ob1 (fX5_size m13) (fun r15 => some (r15, m13)))) else (ob2 (fX8_finding mem (-100005)) (fun r18 m17 => some (r18, m17))))) else (ob2 (fX8_finding mem (-100003)) (fun r21 m20 => some (r21, m20))))))
set_option maxHeartbeats 4000000 in
set_option maxRecDepth 100000 in
theorem kX8_key (l : Launch) (g : gG) (ad : Nat → Nat) (tk : Nat) (mem : Mem) (a1 : Int32) (r : Int32) (mem2 : Mem) (hF : fX8_key mem a1 = some (r, mem2)) : Met l yX8_key (Cond.code yX8_key cX8_key 2 (some .int) :: gw) { frames := 3, cells := 0, slots := 0, locals := 66 } (pG (wX g ad mem) (eX g ad tk) g [.ref (ad 0), .int a1]) (qW (wX g ad mem2) g (AW 44 ad) (some (.int r)) (True)) 0 0 (AW 44 ad) := by
  refine met_of (by decide) (Nat.le_of_ble_eq_true rfl) ?_
  intro p e s m args below meth c ls C0 hP hl
  obtain ⟨hx, hb, hml, hown, hts, hr, hlk, hE⟩ := id C0
  obtain ⟨hK, hN, hA, hZ, hT, hTA⟩ := id hE
  have hl : lv_has ls 2 [(0, .ref (ad 0)), (1, .int a1)] := hl
  have hS : va_S (AW 44 ad) s.heap s.heap [] := va_S.rf
  unfold fX8_key at hF
  refine lv_iload_n hx hb dX8_key_0 rfl (lv_at hl 1 rfl) ?_
  obtain ⟨r2, h1, hF⟩ := ob_some hF
  refine cS_Ri C0 pkX8_isKey (As := [.int a1]) (rest := []) (kX8_isKey l g a1 r2 h1) mL_X8_142 ⟨rfl, rfl, Nat.le_of_ble_eq_true rfl, Nat.le_of_ble_eq_true rfl, Nat.le_of_ble_eq_true rfl, Nat.le_of_ble_eq_true rfl⟩ rfl hl.1 rfl (Nat.le_of_ble_eq_true rfl) dX8_key_1 (fun b3 => ?_)
  refine lv_if_ne (tgt := 14) hx hb dX8_key_4 (by decide) (fun c4 => ?_) (fun c4 => ?_)
  · replace hF := (if_neg c4).symm.trans hF
    refine lv_aload_n hx hb dX8_key_14 rfl (lv_at hl 0 rfl) ?_
    refine get_W C0 hK hP iwX8 0 wX_0 rfl 3 (by decide) mF_X8_31 rfl rfl dX8_key_15 ?_
    refine lv_iload_n hx hb dX8_key_18 rfl (lv_at hl 1 rfl) ?_
    obtain ⟨r6, h5, hF⟩ := ob_some hF
    refine cV_Ri C0 eX_st hP hS hK pkX5_has (As := [.int a1]) (rest := []) (kX5_has l g ad tk mem a1 r6 h5) mL_X8_145 ⟨rfl, rfl, Nat.le_of_ble_eq_true rfl, Nat.le_of_ble_eq_true rfl, Nat.le_of_ble_eq_true rfl, Nat.le_of_ble_eq_true rfl⟩ 17 wX_17 rfl rfl rfl hl.1 rfl (Nat.le_of_ble_eq_true rfl) dX8_key_19 (fun b7 => ?_)
    refine lv_if_eq (tgt := 32) hx hb dX8_key_22 (by decide) (fun c8 => ?_) (fun c8 => ?_)
    · replace hF := (if_pos c8).symm.trans hF
      refine lv_aload_n hx hb dX8_key_32 rfl (lv_at hl 0 rfl) ?_
      refine get_W C0 hK hP iwX8 0 wX_0 rfl 3 (by decide) mF_X8_31 rfl rfl dX8_key_33 ?_
      obtain ⟨r10, h9, hF⟩ := ob_some hF
      refine cV_Ri C0 eX_st hP hS hK pkX5_size (As := []) (rest := []) (kX5_size l g ad tk mem r10 h9) mL_X8_146 ⟨rfl, rfl, Nat.le_of_ble_eq_true rfl, Nat.le_of_ble_eq_true rfl, Nat.le_of_ble_eq_true rfl, Nat.le_of_ble_eq_true rfl⟩ 17 wX_17 rfl rfl rfl hl.1 rfl (Nat.le_of_ble_eq_true rfl) dX8_key_36 (fun _ => ?_)
      refine lv_bipush (v := 6) hx hb dX8_key_39 (by decide) ?_
      refine lv_icmp_lt (tgt := 51) hx hb dX8_key_41 (by decide) (fun c11 => ?_) (fun c11 => ?_)
      · replace hF := (if_pos c11).symm.trans hF
        refine lv_aload_n hx hb dX8_key_51 rfl (lv_at hl 0 rfl) ?_
        refine get_W C0 hK hP iwX8 0 wX_0 rfl 3 (by decide) mF_X8_31 rfl rfl dX8_key_52 ?_
        refine lv_iload_n hx hb dX8_key_55 rfl (lv_at hl 1 rfl) ?_
        obtain ⟨m13, h12, hF⟩ := ob_some hF
        refine cV_Wv C0 eX_st hP hS hK pkX5_append (As := [.int a1]) (rest := []) (kX5_append l g ad tk mem a1 m13 h12) mL_X8_147 ⟨rfl, rfl, Nat.le_of_ble_eq_true rfl, Nat.le_of_ble_eq_true rfl, Nat.le_of_ble_eq_true rfl, Nat.le_of_ble_eq_true rfl⟩ 17 wX_17 rfl rfl rfl hl.1 rfl (Nat.le_of_ble_eq_true rfl) dX8_key_56 (fun H locs _ hP hS => ?_)
        refine lv_aload_n hx hb dX8_key_59 rfl (lv_at hl 0 rfl) ?_
        refine get_W C0 hK hP iwX8 0 wX_0 rfl 3 (by decide) mF_X8_31 rfl rfl dX8_key_60 ?_
        obtain ⟨r15, h14, hF⟩ := ob_some hF
        refine cV_Ri C0 eX_st hP hS hK pkX5_size (As := []) (rest := []) (kX5_size l g ad tk m13 r15 h14) mL_X8_146 ⟨rfl, rfl, Nat.le_of_ble_eq_true rfl, Nat.le_of_ble_eq_true rfl, Nat.le_of_ble_eq_true rfl, Nat.le_of_ble_eq_true rfl⟩ 17 wX_17 rfl rfl rfl hl.1 rfl (Nat.le_of_ble_eq_true rfl) dX8_key_63 (fun _ => ?_)
        cases hF
        exact ret_Wi C0 hP hS trivial dX8_key_66
      · replace hF := (if_neg c11).symm.trans hF
        refine lv_aload_n hx hb dX8_key_44 rfl (lv_at hl 0 rfl) ?_
        refine lv_ldc hx hb hown (hts _ mK_X8_89) dX8_key_45 ?_
        obtain ⟨r18, m17, h16, hF⟩ := ob2_some hF
        refine cV_Wi C0 eX_st hP hS hK pkX8_finding (As := [.int (-100005)]) (rest := []) (kX8_finding l g ad tk mem (-100005) r18 m17 h16) mL_X8_81 ⟨rfl, rfl, Nat.le_of_ble_eq_true rfl, Nat.le_of_ble_eq_true rfl, Nat.le_of_ble_eq_true rfl, Nat.le_of_ble_eq_true rfl⟩ 0 wX_0 rfl rfl rfl hl.1 rfl (Nat.le_of_ble_eq_true rfl) dX8_key_47 (fun H locs _ hP hS => ?_)
        cases hF
        exact ret_Wi C0 hP hS trivial dX8_key_50
    · replace hF := (if_neg c8).symm.trans hF
      refine lv_aload_n hx hb dX8_key_25 rfl (lv_at hl 0 rfl) ?_
      refine lv_ldc hx hb hown (hts _ mK_X8_131) dX8_key_26 ?_
      obtain ⟨r21, m20, h19, hF⟩ := ob2_some hF
      refine cV_Wi C0 eX_st hP hS hK pkX8_finding (As := [.int (-100003)]) (rest := []) (kX8_finding l g ad tk mem (-100003) r21 m20 h19) mL_X8_81 ⟨rfl, rfl, Nat.le_of_ble_eq_true rfl, Nat.le_of_ble_eq_true rfl, Nat.le_of_ble_eq_true rfl, Nat.le_of_ble_eq_true rfl⟩ 0 wX_0 rfl rfl rfl hl.1 rfl (Nat.le_of_ble_eq_true rfl) dX8_key_28 (fun H locs _ hP hS => ?_)
      cases hF
      exact ret_Wi C0 hP hS trivial dX8_key_31
  · replace hF := (if_pos c4).symm.trans hF
    refine lv_aload_n hx hb dX8_key_7 rfl (lv_at hl 0 rfl) ?_
    refine lv_ldc hx hb hown (hts _ mK_X8_80) dX8_key_8 ?_
    obtain ⟨r24, m23, h22, hF⟩ := ob2_some hF
    refine cV_Wi C0 eX_st hP hS hK pkX8_finding (As := [.int (-100001)]) (rest := []) (kX8_finding l g ad tk mem (-100001) r24 m23 h22) mL_X8_81 ⟨rfl, rfl, Nat.le_of_ble_eq_true rfl, Nat.le_of_ble_eq_true rfl, Nat.le_of_ble_eq_true rfl, Nat.le_of_ble_eq_true rfl⟩ 0 wX_0 rfl rfl rfl hl.1 rfl (Nat.le_of_ble_eq_true rfl) dX8_key_10 (fun H locs _ hP hS => ?_)
    cases hF
    exact ret_Wi C0 hP hS trivial dX8_key_13
theorem pkX8_noKeys : pkV yX8_noKeys cX8_noKeys 2 (some .int) RX8 0 := ⟨mI_X8_noKeys, mS_X8_noKeys, mN_X8, mC_X8_noKeys, by decide +kernel⟩
def fX8_noKeys (mem : Mem) : Option (Int32 × Mem) :=
  ob1 (fX5_size mem) (fun r2 => ob1 (fX5_clear mem) (fun m4 => some (r2, m4)))
set_option maxHeartbeats 4000000 in
set_option maxRecDepth 100000 in
theorem kX8_noKeys (l : Launch) (g : gG) (ad : Nat → Nat) (tk : Nat) (mem : Mem) (r : Int32) (mem2 : Mem) (hF : fX8_noKeys mem = some (r, mem2)) : Met l yX8_noKeys (Cond.code yX8_noKeys cX8_noKeys 2 (some .int) :: gw) { frames := 2, cells := 0, slots := 0, locals := 44 } (pG (wX g ad mem) (eX g ad tk) g [.ref (ad 0)]) (qW (wX g ad mem2) g (AW 44 ad) (some (.int r)) (True)) 0 0 (AW 44 ad) := by
  refine met_of (by decide) (Nat.le_of_ble_eq_true rfl) ?_
  intro p e s m args below meth c ls C0 hP hl
  obtain ⟨hx, hb, hml, hown, hts, hr, hlk, hE⟩ := id C0
  obtain ⟨hK, hN, hA, hZ, hT, hTA⟩ := id hE
  have hl : lv_has ls 2 [(0, .ref (ad 0))] := hl
  have hS : va_S (AW 44 ad) s.heap s.heap [] := va_S.rf
  unfold fX8_noKeys at hF
  refine lv_aload_n hx hb dX8_noKeys_0 rfl (lv_at hl 0 rfl) ?_
  refine get_W C0 hK hP iwX8 0 wX_0 rfl 3 (by decide) mF_X8_31 rfl rfl dX8_noKeys_1 ?_
  obtain ⟨r2, h1, hF⟩ := ob_some hF
  refine cV_Ri C0 eX_st hP hS hK pkX5_size (As := []) (rest := []) (kX5_size l g ad tk mem r2 h1) mL_X8_146 ⟨rfl, rfl, Nat.le_of_ble_eq_true rfl, Nat.le_of_ble_eq_true rfl, Nat.le_of_ble_eq_true rfl, Nat.le_of_ble_eq_true rfl⟩ 17 wX_17 rfl rfl rfl hl.1 rfl (Nat.le_of_ble_eq_true rfl) dX8_noKeys_4 (fun _ => ?_)
  refine lv_istore_n (lv' := [(1, .int r2), (0, .ref (ad 0))]) hx hb dX8_noKeys_7 rfl hl (by decide) rfl (fun ls hl => ?_)
  refine lv_aload_n hx hb dX8_noKeys_8 rfl (lv_at hl 1 rfl) ?_
  refine get_W C0 hK hP iwX8 0 wX_0 rfl 3 (by decide) mF_X8_31 rfl rfl dX8_noKeys_9 ?_
  obtain ⟨m4, h3, hF⟩ := ob_some hF
  refine cV_Wv C0 eX_st hP hS hK pkX5_clear (As := []) (rest := []) (kX5_clear l g ad tk mem m4 h3) mL_X8_149 ⟨rfl, rfl, Nat.le_of_ble_eq_true rfl, Nat.le_of_ble_eq_true rfl, Nat.le_of_ble_eq_true rfl, Nat.le_of_ble_eq_true rfl⟩ 17 wX_17 rfl rfl rfl hl.1 rfl (Nat.le_of_ble_eq_true rfl) dX8_noKeys_12 (fun H locs _ hP hS => ?_)
  refine lv_iload_n hx hb dX8_noKeys_15 rfl (lv_at hl 0 rfl) ?_
  cases hF
  exact ret_Wi C0 hP hS trivial dX8_noKeys_16
