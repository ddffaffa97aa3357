theorem pkX8_listed : pkV yX8_listed cX8_listed 4 (some .int) RX8 2 := ⟨mI_X8_listed, mS_X8_listed, mN_X8, mC_X8_listed, by decide +kernel⟩
def fX8_listed (mem : Mem) (a1 : Int32) (a2 : Int32) : Option (Int32 × Mem) :=
  ob1 (fX2_lay mem) (fun m2 => ob1 (fX2_size m2) (fun r4 => ob1 (fX8_isWithin a1 0 (r4 - 1)) (fun r6 => if r6 = 0 then (ob2 (fX8_finding m2 (-100006)) (fun r18 m17 => some (r18, m17))) else (ob1 (fX2_askingAt m2 a1) (fun r10 => if a2 = 0 then (ob1 (fX7_memberAt 5 m2 r10) (fun r13 => some (r13, m2))) else (ob1 (fX7_sortAt 5 m2 r10) (fun r15 => some (r15, m2))))))))
set_option maxHeartbeats 4000000 in
set_option maxRecDepth 100000 in
theorem kX8_listed (l : Launch) (g : gG) (ad : Nat → Nat) (tk : Nat) (mem : Mem) (a1 : Int32) (a2 : Int32) (r : Int32) (mem2 : Mem) (hF : fX8_listed mem a1 a2 = some (r, mem2)) : Met l yX8_listed (Cond.code yX8_listed cX8_listed 4 (some .int) :: gw) { frames := 6, cells := 0, slots := 0, locals := 134 } (pG (wX g ad mem) (eX g ad tk) g [.ref (ad 0), .int a1, .int a2]) (qW (wX g ad mem2) g (AW 44 ad) (some (.int r)) (True)) 0 0 (AW 44 ad) := by
  refine met_of (by decide) (Nat.le_of_ble_eq_true rfl) ?_
  intro p e s m args below meth c ls C0 hP hl
  obtain ⟨hx, hb, hml, hown, hts, hr, hlk, hE⟩ := id C0
  obtain ⟨hK, hN, hA, hZ, hT, hTA⟩ := id hE
  have hl : lv_has ls 4 [(0, .ref (ad 0)), (1, .int a1), (2, .int a2)] := hl
  have hS : va_S (AW 44 ad) s.heap s.heap [] := va_S.rf
  unfold fX8_listed at hF
  refine lv_aload_n hx hb dX8_listed_0 rfl (lv_at hl 0 rfl) ?_
  refine get_W C0 hK hP iwX8 0 wX_0 rfl 4 (by decide) mF_X8_40 rfl rfl dX8_listed_1 ?_
  obtain ⟨m2, h1, hF⟩ := ob_some hF
  refine cV_Wv C0 eX_st hP hS hK pkX2_lay (As := []) (rest := []) (kX2_lay l g ad tk mem m2 h1) mL_X8_152 ⟨rfl, rfl, Nat.le_of_ble_eq_true rfl, Nat.le_of_ble_eq_true rfl, Nat.le_of_ble_eq_true rfl, Nat.le_of_ble_eq_true rfl⟩ 19 wX_19 rfl rfl rfl hl.1 rfl (Nat.le_of_ble_eq_true rfl) dX8_listed_4 (fun H locs _ hP hS => ?_)
  refine lv_iload_n hx hb dX8_listed_7 rfl (lv_at hl 1 rfl) ?_
  refine lv_iconst (v := 0) hx hb dX8_listed_8 (by decide) ?_
  refine lv_aload_n hx hb dX8_listed_9 rfl (lv_at hl 0 rfl) ?_
  refine get_W C0 hK hP iwX8 0 wX_0 rfl 4 (by decide) mF_X8_40 rfl rfl dX8_listed_10 ?_
  obtain ⟨r4, h3, hF⟩ := ob_some hF
  refine cV_Ri C0 eX_st hP hS hK pkX2_size (As := []) (rest := [.int 0, .int a1]) (kX2_size l g ad tk m2 r4 h3) mL_X8_155 ⟨rfl, rfl, Nat.le_of_ble_eq_true rfl, Nat.le_of_ble_eq_true rfl, Nat.le_of_ble_eq_true rfl, Nat.le_of_ble_eq_true rfl⟩ 19 wX_19 rfl rfl rfl hl.1 rfl (Nat.le_of_ble_eq_true rfl) dX8_listed_13 (fun _ => ?_)
  refine lv_iconst (v := 1) hx hb dX8_listed_16 (by decide) ?_
  refine lv_isub hx hb dX8_listed_17 ?_
  obtain ⟨r6, h5, hF⟩ := ob_some hF
  refine cS_Ri C0 pkX8_isWithin (As := [.int a1, .int 0, .int (r4 - 1)]) (rest := []) (kX8_isWithin l g a1 0 (r4 - 1) r6 h5) mL_X8_76 ⟨rfl, rfl, Nat.le_of_ble_eq_true rfl, Nat.le_of_ble_eq_true rfl, Nat.le_of_ble_eq_true rfl, Nat.le_of_ble_eq_true rfl⟩ rfl hl.1 rfl (Nat.le_of_ble_eq_true rfl) dX8_listed_18 (fun b7 => ?_)
  refine lv_if_ne (tgt := 31) hx hb dX8_listed_21 (by decide) (fun c8 => ?_) (fun c8 => ?_)
  · replace hF := (if_neg c8).symm.trans hF
    refine lv_aload_n hx hb dX8_listed_31 rfl (lv_at hl 0 rfl) ?_
    refine get_W C0 hK hP iwX8 0 wX_0 rfl 4 (by decide) mF_X8_40 rfl rfl dX8_listed_32 ?_
    refine lv_iload_n hx hb dX8_listed_35 rfl (lv_at hl 1 rfl) ?_
    obtain ⟨r10, h9, hF⟩ := ob_some hF
    refine cV_Ri C0 eX_st hP hS hK pkX2_askingAt (As := [.int a1]) (rest := []) (kX2_askingAt l g ad tk m2 a1 r10 h9) mL_X8_156 ⟨rfl, rfl, Nat.le_of_ble_eq_true rfl, Nat.le_of_ble_eq_true rfl, Nat.le_of_ble_eq_true rfl, Nat.le_of_ble_eq_true rfl⟩ 19 wX_19 rfl rfl rfl hl.1 rfl (Nat.le_of_ble_eq_true rfl) dX8_listed_36 (fun _ => ?_)
    refine lv_istore_n (lv' := [(3, .int r10), (0, .ref (ad 0)), (1, .int a1), (2, .int a2)]) hx hb dX8_listed_39 rfl hl (by decide) rfl (fun ls hl => ?_)
    refine lv_iload_n hx hb dX8_listed_40 rfl (lv_at hl 3 rfl) ?_
    refine lv_if_eq (tgt := 55) hx hb dX8_listed_41 (by decide) (fun c11 => ?_) (fun c11 => ?_)
    · replace hF := (if_pos c11).symm.trans hF
      refine lv_aload_n hx hb dX8_listed_55 rfl (lv_at hl 1 rfl) ?_
      refine get_W C0 hK hP iwX8 0 wX_0 rfl 1 (by decide) mF_X8_21 rfl rfl dX8_listed_56 ?_
      refine lv_iload_n hx hb dX8_listed_59 rfl (lv_at hl 0 rfl) ?_
      obtain ⟨r13, h12, hF⟩ := ob_some hF
      refine cV_Ri C0 eX_st hP hS hK pkX7_memberAt (As := [.int r10]) (rest := []) (kX7_memberAt l g ad tk m2 5 (by decide) r10 r13 h12) mL_X8_162 ⟨rfl, rfl, Nat.le_of_ble_eq_true rfl, Nat.le_of_ble_eq_true rfl, Nat.le_of_ble_eq_true rfl, Nat.le_of_ble_eq_true rfl⟩ 5 wX_5 rfl rfl rfl hl.1 rfl (Nat.le_of_ble_eq_true rfl) dX8_listed_60 (fun _ => ?_)
      cases hF
      exact ret_Wi C0 hP hS trivial dX8_listed_63
    · replace hF := (if_neg c11).symm.trans hF
      refine lv_aload_n hx hb dX8_listed_44 rfl (lv_at hl 1 rfl) ?_
      refine get_W C0 hK hP iwX8 0 wX_0 rfl 1 (by decide) mF_X8_21 rfl rfl dX8_listed_45 ?_
      refine lv_iload_n hx hb dX8_listed_48 rfl (lv_at hl 0 rfl) ?_
      obtain ⟨r15, h14, hF⟩ := ob_some hF
      refine cV_Ri C0 eX_st hP hS hK pkX7_sortAt (As := [.int r10]) (rest := []) (kX7_sortAt l g ad tk m2 5 (by decide) r10 r15 h14) mL_X8_159 ⟨rfl, rfl, Nat.le_of_ble_eq_true rfl, Nat.le_of_ble_eq_true rfl, Nat.le_of_ble_eq_true rfl, Nat.le_of_ble_eq_true rfl⟩ 5 wX_5 rfl rfl rfl hl.1 rfl (Nat.le_of_ble_eq_true rfl) dX8_listed_49 (fun _ => ?_)
      refine lv_goto (tgt := 63) hx hb dX8_listed_52 (by decide) ?_
      cases hF
      exact ret_Wi C0 hP hS trivial dX8_listed_63
  · replace hF := (if_pos c8).symm.trans hF
    refine lv_aload_n hx hb dX8_listed_24 rfl (lv_at hl 0 rfl) ?_
    refine lv_ldc hx hb hown (hts _ mK_X8_137) dX8_listed_25 ?_
    obtain ⟨r18, m17, h16, hF⟩ := ob2_some hF
    refine cV_Wi C0 eX_st hP hS hK pkX8_finding (As := [.int (-100006)]) (rest := []) (kX8_finding l g ad tk m2 (-100006) r18 m17 h16) mL_X8_81 ⟨rfl, rfl, Nat.le_of_ble_eq_true rfl, Nat.le_of_ble_eq_true rfl, Nat.le_of_ble_eq_true rfl, Nat.le_of_ble_eq_true rfl⟩ 0 wX_0 rfl rfl rfl hl.1 rfl (Nat.le_of_ble_eq_true rfl) dX8_listed_27 (fun H locs _ hP hS => ?_)
    cases hF
    exact ret_Wi C0 hP hS trivial dX8_listed_30
theorem pkX8_place : pkV yX8_place cX8_place 4 (some .int) RX8 2 := ⟨mI_X8_place, mS_X8_place, mN_X8, mC_X8_place, by decide +kernel⟩
def fX8_place (mem : Mem) (a1 : Int32) (a2 : Int32) : Option (Int32 × Mem) :=
  ob1 (fX8_isAsking mem a1 a2) (fun r2 => if r2 = 0 then (ob2 (fX8_finding mem (-100001)) (fun r24 m23 => some (r24, m23))) else (ob1 (fX7_find 5 mem a1 a2) (fun r6 => if r6 = (-1) then (ob2 (fX8_finding mem (-100006)) (fun r10 m9 => some (r10, m9))) else (ob1 (fX4_isHere mem a1) (fun r12 => if r12 = 0 then (ob2 (fX8_finding mem (-100006)) (fun r21 m20 => some (r21, m20))) else (ob1 (fX2_lay mem) (fun m16 => ob1 (fX2_placeOf m16 r6) (fun r18 => some (r18, m16)))))))))
set_option maxHeartbeats 4000000 in
set_option maxRecDepth 100000 in
theorem kX8_place (l : Launch) (g : gG) (ad : Nat → Nat) (tk : Nat) (mem : Mem) (a1 : Int32) (a2 : Int32) (r : Int32) (mem2 : Mem) (hF : fX8_place mem a1 a2 = some (r, mem2)) : Met l yX8_place (Cond.code yX8_place cX8_place 4 (some .int) :: gw) { frames := 6, cells := 0, slots := 0, locals := 134 } (pG (wX g ad mem) (eX g ad tk) g [.ref (ad 0), .int a1, .int a2]) (qW (wX g ad mem2) g (AW 44 ad) (some (.int r)) (True)) 0 0 (AW 44 ad) := by
  refine met_of (by decide) (Nat.le_of_ble_eq_true rfl) ?_
  intro p e s m args below meth c ls C0 hP hl
  obtain ⟨hx, hb, hml, hown, hts, hr, hlk, hE⟩ := id C0
  obtain ⟨hK, hN, hA, hZ, hT, hTA⟩ := id hE
  have hl : lv_has ls 4 [(0, .ref (ad 0)), (1, .int a1), (2, .int a2)] := hl
  have hS : va_S (AW 44 ad) s.heap s.heap [] := va_S.rf
  unfold fX8_place at hF
  refine lv_aload_n hx hb dX8_place_0 rfl (lv_at hl 0 rfl) ?_
  refine lv_iload_n hx hb dX8_place_1 rfl (lv_at hl 1 rfl) ?_
  refine lv_iload_n hx hb dX8_place_2 rfl (lv_at hl 2 rfl) ?_
  obtain ⟨r2, h1, hF⟩ := ob_some hF
  refine cV_Ri C0 eX_st hP hS hK pkX8_isAsking (As := [.int a1, .int a2]) (rest := []) (kX8_isAsking l g ad tk mem a1 a2 r2 h1) mL_X8_125 ⟨rfl, rfl, Nat.le_of_ble_eq_true rfl, Nat.le_of_ble_eq_true rfl, Nat.le_of_ble_eq_true rfl, Nat.le_of_ble_eq_true rfl⟩ 0 wX_0 rfl rfl rfl hl.1 rfl (Nat.le_of_ble_eq_true rfl) dX8_place_3 (fun b3 => ?_)
  refine lv_if_ne (tgt := 16) hx hb dX8_place_6 (by decide) (fun c4 => ?_) (fun c4 => ?_)
  · replace hF := (if_neg c4).symm.trans hF
    refine lv_aload_n hx hb dX8_place_16 rfl (lv_at hl 0 rfl) ?_
    refine get_W C0 hK hP iwX8 0 wX_0 rfl 1 (by decide) mF_X8_21 rfl rfl dX8_place_17 ?_
    refine lv_iload_n hx hb dX8_place_20 rfl (lv_at hl 1 rfl) ?_
    refine lv_iload_n hx hb dX8_place_21 rfl (lv_at hl 2 rfl) ?_
    obtain ⟨r6, h5, hF⟩ := ob_some hF
    refine cV_Ri C0 eX_st hP hS hK pkX7_find (As := [.int a1, .int a2]) (rest := []) (kX7_find l g ad tk mem 5 (by decide) a1 a2 r6 h5) mL_X8_128 ⟨rfl, rfl, Nat.le_of_ble_eq_true rfl, Nat.le_of_ble_eq_true rfl, Nat.le_of_ble_eq_true rfl, Nat.le_of_ble_eq_true rfl⟩ 5 wX_5 rfl rfl rfl hl.1 rfl (Nat.le_of_ble_eq_true rfl) dX8_place_22 (fun _ => ?_)
    refine lv_istore_n (lv' := [(3, .int r6), (0, .ref (ad 0)), (1, .int a1), (2, .int a2)]) hx hb dX8_place_25 rfl hl (by decide) rfl (fun ls hl => ?_)
    refine lv_iload_n hx hb dX8_place_26 rfl (lv_at hl 0 rfl) ?_
    refine lv_iconst (v := (-1)) hx hb dX8_place_27 (by decide) ?_
    refine lv_icmp_eq (tgt := 42) hx hb dX8_place_28 (by decide) (fun c7 => ?_) (fun c7 => ?_)
    · replace hF := (if_pos c7).symm.trans hF
      refine lv_aload_n hx hb dX8_place_42 rfl (lv_at hl 1 rfl) ?_
      refine lv_ldc hx hb hown (hts _ mK_X8_137) dX8_place_43 ?_
      obtain ⟨r10, m9, h8, hF⟩ := ob2_some hF
      refine cV_Wi C0 eX_st hP hS hK pkX8_finding (As := [.int (-100006)]) (rest := []) (kX8_finding l g ad tk mem (-100006) r10 m9 h8) mL_X8_81 ⟨rfl, rfl, Nat.le_of_ble_eq_true rfl, Nat.le_of_ble_eq_true rfl, Nat.le_of_ble_eq_true rfl, Nat.le_of_ble_eq_true rfl⟩ 0 wX_0 rfl rfl rfl hl.1 rfl (Nat.le_of_ble_eq_true rfl) dX8_place_45 (fun H locs _ hP hS => ?_)
      cases hF
      exact ret_Wi C0 hP hS trivial dX8_place_48
    · replace hF := (if_neg c7).symm.trans hF
      refine lv_aload_n hx hb dX8_place_31 rfl (lv_at hl 1 rfl) ?_
      refine get_W C0 hK hP iwX8 0 wX_0 rfl 0 (by decide) mF_X8_10 rfl rfl dX8_place_32 ?_
      refine lv_iload_n hx hb dX8_place_35 rfl (lv_at hl 2 rfl) ?_
      obtain ⟨r12, h11, hF⟩ := ob_some hF
      refine cV_Ri C0 eX_st hP hS hK pkX4_isHere (As := [.int a1]) (rest := []) (kX4_isHere l g ad tk mem a1 r12 h11) mL_X8_103 ⟨rfl, rfl, Nat.le_of_ble_eq_true rfl, Nat.le_of_ble_eq_true rfl, Nat.le_of_ble_eq_true rfl, Nat.le_of_ble_eq_true rfl⟩ 1 wX_1 rfl rfl rfl hl.1 rfl (Nat.le_of_ble_eq_true rfl) dX8_place_36 (fun b13 => ?_)
      refine lv_if_ne (tgt := 49) hx hb dX8_place_39 (by decide) (fun c14 => ?_) (fun c14 => ?_)
      · replace hF := (if_neg c14).symm.trans hF
        refine lv_aload_n hx hb dX8_place_49 rfl (lv_at hl 1 rfl) ?_
        refine get_W C0 hK hP iwX8 0 wX_0 rfl 4 (by decide) mF_X8_40 rfl rfl dX8_place_50 ?_
        obtain ⟨m16, h15, hF⟩ := ob_some hF
        refine cV_Wv C0 eX_st hP hS hK pkX2_lay (As := []) (rest := []) (kX2_lay l g ad tk mem m16 h15) mL_X8_152 ⟨rfl, rfl, Nat.le_of_ble_eq_true rfl, Nat.le_of_ble_eq_true rfl, Nat.le_of_ble_eq_true rfl, Nat.le_of_ble_eq_true rfl⟩ 19 wX_19 rfl rfl rfl hl.1 rfl (Nat.le_of_ble_eq_true rfl) dX8_place_53 (fun H locs _ hP hS => ?_)
        refine lv_aload_n hx hb dX8_place_56 rfl (lv_at hl 1 rfl) ?_
        refine get_W C0 hK hP iwX8 0 wX_0 rfl 4 (by decide) mF_X8_40 rfl rfl dX8_place_57 ?_
        refine lv_iload_n hx hb dX8_place_60 rfl (lv_at hl 0 rfl) ?_
        obtain ⟨r18, h17, hF⟩ := ob_some hF
        refine cV_Ri C0 eX_st hP hS hK pkX2_placeOf (As := [.int r6]) (rest := []) (kX2_placeOf l g ad tk m16 r6 r18 h17) mL_X8_165 ⟨rfl, rfl, Nat.le_of_ble_eq_true rfl, Nat.le_of_ble_eq_true rfl, Nat.le_of_ble_eq_true rfl, Nat.le_of_ble_eq_true rfl⟩ 19 wX_19 rfl rfl rfl hl.1 rfl (Nat.le_of_ble_eq_true rfl) dX8_place_61 (fun _ => ?_)
        cases hF
        exact ret_Wi C0 hP hS trivial dX8_place_64
      · replace hF := (if_pos c14).symm.trans hF
        refine lv_aload_n hx hb dX8_place_42 rfl (lv_at hl 1 rfl) ?_
        refine lv_ldc hx hb hown (hts _ mK_X8_137) dX8_place_43 ?_
        obtain ⟨r21, m20, h19, hF⟩ := ob2_some hF
        refine cV_Wi C0 eX_st hP hS hK pkX8_finding (As := [.int (-100006)]) (rest := []) (kX8_finding l g ad tk mem (-100006) r21 m20 h19) mL_X8_81 ⟨rfl, rfl, Nat.le_of_ble_eq_true rfl, Nat.le_of_ble_eq_true rfl, Nat.le_of_ble_eq_true rfl, Nat.le_of_ble_eq_true rfl⟩ 0 wX_0 rfl rfl rfl hl.1 rfl (Nat.le_of_ble_eq_true rfl) dX8_place_45 (fun H locs _ hP hS => ?_)
        cases hF
        exact ret_Wi C0 hP hS trivial dX8_place_48
  · replace hF := (if_pos c4).symm.trans hF
    refine lv_aload_n hx hb dX8_place_9 rfl (lv_at hl 0 rfl) ?_
    refine lv_ldc hx hb hown (hts _ mK_X8_80) dX8_place_10 ?_
    obtain ⟨r24, m23, h22, hF⟩ := ob2_some hF
    refine cV_Wi C0 eX_st hP hS hK pkX8_finding (As := [.int (-100001)]) (rest := []) (kX8_finding l g ad tk mem (-100001) r24 m23 h22) mL_X8_81 ⟨rfl, rfl, Nat.le_of_ble_eq_true rfl, Nat.le_of_ble_eq_true rfl, Nat.le_of_ble_eq_true rfl, Nat.le_of_ble_eq_true rfl⟩ 0 wX_0 rfl rfl rfl hl.1 rfl (Nat.le_of_ble_eq_true rfl) dX8_place_12 (fun H locs _ hP hS => ?_)
    cases hF
    exact ret_Wi C0 hP hS trivial dX8_place_15
theorem pkX8_ticksFor : pkV yX8_ticksFor cX8_ticksFor 4 (some .int) RX8 2 := ⟨mI_X8_ticksFor, mS_X8_ticksFor, mN_X8, mC_X8_ticksFor, by decide +kernel⟩
def fX8_ticksFor (mem : Mem) (a1 : Int32) (a2 : Int32) : Option (Int32) :=
  ob1 (fX1_limitOf mem a2) (fun r2 => ob1 (fX4_isOfKind mem a1 3) (fun r4 => if r4 = 0 then (some r2) else (some (2 * r2))))
set_option maxHeartbeats 4000000 in
set_option maxRecDepth 100000 in
theorem kX8_ticksFor (l : Launch) (g : gG) (ad : Nat → Nat) (tk : Nat) (mem : Mem) (a1 : Int32) (a2 : Int32) (r : Int32) (hF : fX8_ticksFor mem a1 a2 = some r) : Met l yX8_ticksFor (Cond.code yX8_ticksFor cX8_ticksFor 4 (some .int) :: gw) { frames := 3, cells := 0, slots := 0, locals := 61 } (pG (wX g ad mem) (eX g ad tk) g [.ref (ad 0), .int a1, .int a2]) (qR (some (.int r)) (True)) 0 0 noA := by
  refine met_of (by decide) (Nat.le_of_ble_eq_true rfl) ?_
  intro p e s m args below meth c ls C0 hP hl
  obtain ⟨hx, hb, hml, hown, hts, hr, hlk, hE⟩ := id C0
  obtain ⟨hK, hN, hA, hZ, hT, hTA⟩ := id hE
  have hl : lv_has ls 4 [(0, .ref (ad 0)), (1, .int a1), (2, .int a2)] := hl
  have hS : va_S (AW 44 ad) s.heap s.heap [] := va_S.rf
  unfold fX8_ticksFor at hF
  refine lv_aload_n hx hb dX8_ticksFor_0 rfl (lv_at hl 0 rfl) ?_
  refine get_W C0 hK hP iwX8 0 wX_0 rfl 5 (by decide) mF_X8_47 rfl rfl dX8_ticksFor_1 ?_
  refine lv_iload_n hx hb dX8_ticksFor_4 rfl (lv_at hl 2 rfl) ?_
  obtain ⟨r2, h1, hF⟩ := ob_some hF
  refine cV_Ri C0 eX_st hP hS hK pkX1_limitOf (As := [.int a2]) (rest := []) (kX1_limitOf l g ad tk mem a2 r2 h1) mL_X8_212 ⟨rfl, rfl, Nat.le_of_ble_eq_true rfl, Nat.le_of_ble_eq_true rfl, Nat.le_of_ble_eq_true rfl, Nat.le_of_ble_eq_true rfl⟩ 21 wX_21 rfl rfl rfl hl.1 rfl (Nat.le_of_ble_eq_true rfl) dX8_ticksFor_5 (fun _ => ?_)
  refine lv_istore_n (lv' := [(3, .int r2), (0, .ref (ad 0)), (1, .int a1), (2, .int a2)]) hx hb dX8_ticksFor_8 rfl hl (by decide) rfl (fun ls hl => ?_)
  refine lv_aload_n hx hb dX8_ticksFor_9 rfl (lv_at hl 1 rfl) ?_
  refine get_W C0 hK hP iwX8 0 wX_0 rfl 0 (by decide) mF_X8_10 rfl rfl dX8_ticksFor_10 ?_
  refine lv_iload_n hx hb dX8_ticksFor_13 rfl (lv_at hl 2 rfl) ?_
  refine lv_iconst (v := 3) hx hb dX8_ticksFor_14 (by decide) ?_
  obtain ⟨r4, h3, hF⟩ := ob_some hF
  refine cV_Ri C0 eX_st hP hS hK pkX4_isOfKind (As := [.int a1, .int 3]) (rest := []) (kX4_isOfKind l g ad tk mem a1 3 r4 h3) mL_X8_98 ⟨rfl, rfl, Nat.le_of_ble_eq_true rfl, Nat.le_of_ble_eq_true rfl, Nat.le_of_ble_eq_true rfl, Nat.le_of_ble_eq_true rfl⟩ 1 wX_1 rfl rfl rfl hl.1 rfl (Nat.le_of_ble_eq_true rfl) dX8_ticksFor_15 (fun b5 => ?_)
  refine lv_if_eq (tgt := 27) hx hb dX8_ticksFor_18 (by decide) (fun c6 => ?_) (fun c6 => ?_)
  · replace hF := (if_pos c6).symm.trans hF
    refine lv_iload_n hx hb dX8_ticksFor_27 rfl (lv_at hl 0 rfl) ?_
    cases hF
    exact ret_Ri C0 trivial dX8_ticksFor_28
  · replace hF := (if_neg c6).symm.trans hF
    refine lv_iconst (v := 2) hx hb dX8_ticksFor_21 (by decide) ?_
    refine lv_iload_n hx hb dX8_ticksFor_22 rfl (lv_at hl 0 rfl) ?_
    refine lv_imul hx hb dX8_ticksFor_23 ?_
    refine lv_goto (tgt := 28) hx hb dX8_ticksFor_24 (by decide) ?_
    cases hF
    exact ret_Ri C0 trivial dX8_ticksFor_28
theorem pkX8_wait : pkV yX8_wait cX8_wait 5 (some .int) RX8 1 := ⟨mI_X8_wait, mS_X8_wait, mN_X8, mC_X8_wait, by decide +kernel⟩
def fX8_wait_62 (z1 : Int32) : Nat → Mem → Int32 → Option (Int32 × Mem)
  | 0, _, _ => none
  | n + 1, mem, x2 =>
    if 100 ≤ x2 then (ob2 (fX8_finding mem (-100008)) (fun r20 m19 => some (r20, m19))) else (ob1 (fX5_firstOf 11 mem 0) (fun r22 => ob1 (fX7_memberAt 11 mem r22) (fun r24 => if r24 = z1 then (some (x2, mem)) else (ob1 (fX7_take 11 mem r22) (fun m27 => ob1 (fX8_ticksFor m27 r24 0) (fun r29 => ob1 (fX7_addTime 11 m27 r24 r29) (fun m31 => ob1 (fX7_append 11 m31 r24 0) (fun m33 => fX8_wait_62 z1 n m33 (x2 + 1)))))))))
set_option maxHeartbeats 4000000 in
set_option maxRecDepth 100000 in
theorem lpX8_wait_62 {p : Program} {l : Launch} {e : Env} {s : State} {m : MethodId} {args : Array Value} {below : List Frame} {meth : Method} {c : Code} (g : gG) (ad : Nat → Nat) (tk : Nat) (z1 : Int32) (r : Int32) (mem2 : Mem) (C0 : cxt (eX g ad tk) cX8_wait 5 RX8 (some .int) p s m args meth c) :
    ∀ (n : Nat) (mem : Mem) (x2 : Int32) (H : Heap) (locs : List Loc) (ls : Array Slot), fX8_wait_62 z1 n mem x2 = some (r, mem2) → va_P g.1 vwCl (wX g ad mem) H → va_S (AW 44 ad) s.heap H locs → lv_has ls 5 [(0, .ref (ad 0)), (1, .int z1), (2, .int x2)] → W p l e { frames := 6, cells := 0, slots := 0, locals := 137 } s m args below meth c H locs 0 0 (MQ below (qW (wX g ad mem2) g (AW 44 ad) (some (.int r)) (True)) args s 0 0 (AW 44 ad)) (F0 m 62 ls []) := by
  obtain ⟨hx, hb, hml, hown, hts, hr, hlk, hE⟩ := id C0
  obtain ⟨hK, hN, hA, hZ, hT, hTA⟩ := id hE
  intro n
  induction n with
  | zero =>
    intro mem x2 H locs ls hF hP hS hl
    cases hF
  | succ n ih =>
    intro mem x2 H locs ls hF hP hS hl
    rw [fX8_wait_62] at hF
    refine lv_iload_n hx hb dX8_wait_62 rfl (lv_at hl 2 rfl) ?_
    refine lv_bipush (v := 100) hx hb dX8_wait_63 (by decide) ?_
    refine lv_icmp_ge (tgt := 139) hx hb dX8_wait_65 (by decide) (fun c17 => ?_) (fun c17 => ?_)
    · replace hF := (if_pos c17).symm.trans hF
      refine lv_aload_n hx hb dX8_wait_139 rfl (lv_at hl 0 rfl) ?_
      refine lv_ldc hx hb hown (hts _ mK_X8_185) dX8_wait_140 ?_
      obtain ⟨r20, m19, h18, hF⟩ := ob2_some hF
      refine cV_Wi C0 eX_st hP hS hK pkX8_finding (As := [.int (-100008)]) (rest := []) (kX8_finding l g ad tk mem (-100008) r20 m19 h18) mL_X8_81 ⟨rfl, rfl, Nat.le_of_ble_eq_true rfl, Nat.le_of_ble_eq_true rfl, Nat.le_of_ble_eq_true rfl, Nat.le_of_ble_eq_true rfl⟩ 0 wX_0 rfl rfl rfl hl.1 rfl (Nat.le_of_ble_eq_true rfl) dX8_wait_142 (fun H locs _ hP hS => ?_)
      cases hF
      exact ret_Wi C0 hP hS trivial dX8_wait_145
    · replace hF := (if_neg c17).symm.trans hF
      refine lv_aload_n hx hb dX8_wait_68 rfl (lv_at hl 0 rfl) ?_
      refine get_W C0 hK hP iwX8 0 wX_0 rfl 3 (by decide) mF_X8_31 rfl rfl dX8_wait_69 ?_
      refine lv_aload_n hx hb dX8_wait_72 rfl (lv_at hl 0 rfl) ?_
      refine get_W C0 hK hP iwX8 0 wX_0 rfl 2 (by decide) mF_X8_25 rfl rfl dX8_wait_73 ?_
      refine lv_iconst (v := 0) hx hb dX8_wait_76 (by decide) ?_
      obtain ⟨r22, h21, hF⟩ := ob_some hF
      refine cV_Ri C0 eX_st hP hS hK pkX5_firstOf (As := [.ref (ad 11), .int 0]) (rest := []) (kX5_firstOf l g ad tk mem 11 (by decide) 0 r22 h21) mL_X8_172 ⟨rfl, rfl, Nat.le_of_ble_eq_true rfl, Nat.le_of_ble_eq_true rfl, Nat.le_of_ble_eq_true rfl, Nat.le_of_ble_eq_true rfl⟩ 17 wX_17 rfl rfl rfl hl.1 rfl (Nat.le_of_ble_eq_true rfl) dX8_wait_77 (fun _ => ?_)
      refine lv_istore_n (lv' := [(3, .int r22), (0, .ref (ad 0)), (1, .int z1), (2, .int x2)]) hx hb dX8_wait_80 rfl hl (by decide) rfl (fun ls hl => ?_)
      refine lv_aload_n hx hb dX8_wait_81 rfl (lv_at hl 1 rfl) ?_
      refine get_W C0 hK hP iwX8 0 wX_0 rfl 2 (by decide) mF_X8_25 rfl rfl dX8_wait_82 ?_
      refine lv_iload_n hx hb dX8_wait_85 rfl (lv_at hl 0 rfl) ?_
      obtain ⟨r24, h23, hF⟩ := ob_some hF
      refine cV_Ri C0 eX_st hP hS hK pkX7_memberAt (As := [.int r22]) (rest := []) (kX7_memberAt l g ad tk mem 11 (by decide) r22 r24 h23) mL_X8_162 ⟨rfl, rfl, Nat.le_of_ble_eq_true rfl, Nat.le_of_ble_eq_true rfl, Nat.le_of_ble_eq_true rfl, Nat.le_of_ble_eq_true rfl⟩ 11 wX_11 rfl rfl rfl hl.1 rfl (Nat.le_of_ble_eq_true rfl) dX8_wait_86 (fun _ => ?_)
      refine lv_istore (lv' := [(4, .int r24), (3, .int r22), (0, .ref (ad 0)), (1, .int z1), (2, .int x2)]) hx hb dX8_wait_89 hl (by decide) rfl (fun ls hl => ?_)
      refine lv_iload hx hb dX8_wait_91 (lv_at hl 0 rfl) ?_
      refine lv_iload_n hx hb dX8_wait_93 rfl (lv_at hl 3 rfl) ?_
      refine lv_icmp_ne (tgt := 99) hx hb dX8_wait_94 (by decide) (fun c25 => ?_) (fun c25 => ?_)
      · replace hF := (if_neg c25).symm.trans hF
        refine lv_aload_n hx hb dX8_wait_99 rfl (lv_at hl 2 rfl) ?_
        refine get_W C0 hK hP iwX8 0 wX_0 rfl 2 (by decide) mF_X8_25 rfl rfl dX8_wait_100 ?_
        refine lv_iload_n hx hb dX8_wait_103 rfl (lv_at hl 1 rfl) ?_
        obtain ⟨m27, h26, hF⟩ := ob_some hF
        refine cV_Wv C0 eX_st hP hS hK pkX7_take (As := [.int r22]) (rest := []) (kX7_take l g ad tk mem 11 (by decide) r22 m27 h26) mL_X8_176 ⟨rfl, rfl, Nat.le_of_ble_eq_true rfl, Nat.le_of_ble_eq_true rfl, Nat.le_of_ble_eq_true rfl, Nat.le_of_ble_eq_true rfl⟩ 11 wX_11 rfl rfl rfl hl.1 rfl (Nat.le_of_ble_eq_true rfl) dX8_wait_104 (fun H locs _ hP hS => ?_)
        refine lv_aload_n hx hb dX8_wait_107 rfl (lv_at hl 2 rfl) ?_
        refine get_W C0 hK hP iwX8 0 wX_0 rfl 2 (by decide) mF_X8_25 rfl rfl dX8_wait_108 ?_
        refine lv_iload hx hb dX8_wait_111 (lv_at hl 0 rfl) ?_
        refine lv_aload_n hx hb dX8_wait_113 rfl (lv_at hl 2 rfl) ?_
        refine lv_iload hx hb dX8_wait_114 (lv_at hl 0 rfl) ?_
        refine lv_iconst (v := 0) hx hb dX8_wait_116 (by decide) ?_
        obtain ⟨r29, h28, hF⟩ := ob_some hF
        refine cV_Ri C0 eX_st hP hS hK pkX8_ticksFor (As := [.int r24, .int 0]) (rest := [.int r24, .ref (ad 11)]) (kX8_ticksFor l g ad tk m27 r24 0 r29 h28) mL_X8_179 ⟨rfl, rfl, Nat.le_of_ble_eq_true rfl, Nat.le_of_ble_eq_true rfl, Nat.le_of_ble_eq_true rfl, Nat.le_of_ble_eq_true rfl⟩ 0 wX_0 rfl rfl rfl hl.1 rfl (Nat.le_of_ble_eq_true rfl) dX8_wait_117 (fun _ => ?_)
        obtain ⟨m31, h30, hF⟩ := ob_some hF
        refine cV_Wv C0 eX_st hP hS hK pkX7_addTime (As := [.int r24, .int r29]) (rest := []) (kX7_addTime l g ad tk m27 11 (by decide) r24 r29 m31 h30) mL_X8_182 ⟨rfl, rfl, Nat.le_of_ble_eq_true rfl, Nat.le_of_ble_eq_true rfl, Nat.le_of_ble_eq_true rfl, Nat.le_of_ble_eq_true rfl⟩ 11 wX_11 rfl rfl rfl hl.1 rfl (Nat.le_of_ble_eq_true rfl) dX8_wait_120 (fun H locs _ hP hS => ?_)
        refine lv_aload_n hx hb dX8_wait_123 rfl (lv_at hl 2 rfl) ?_
        refine get_W C0 hK hP iwX8 0 wX_0 rfl 2 (by decide) mF_X8_25 rfl rfl dX8_wait_124 ?_
        refine lv_iload hx hb dX8_wait_127 (lv_at hl 0 rfl) ?_
        refine lv_iconst (v := 0) hx hb dX8_wait_129 (by decide) ?_
        obtain ⟨m33, h32, hF⟩ := ob_some hF
        refine cV_Wv C0 eX_st hP hS hK pkX7_append (As := [.int r24, .int 0]) (rest := []) (kX7_append l g ad tk m31 11 (by decide) r24 0 m33 h32) mL_X8_133 ⟨rfl, rfl, Nat.le_of_ble_eq_true rfl, Nat.le_of_ble_eq_true rfl, Nat.le_of_ble_eq_true rfl, Nat.le_of_ble_eq_true rfl⟩ 11 wX_11 rfl rfl rfl hl.1 rfl (Nat.le_of_ble_eq_true rfl) dX8_wait_130 (fun H locs _ hP hS => ?_)
        refine lv_iinc (v := x2 + 1) (lv' := [(2, .int (x2 + 1)), (4, .int r24), (3, .int r22), (0, .ref (ad 0)), (1, .int z1)]) hx hb dX8_wait_133 hl (k := 4) rfl rfl (by decide) rfl (fun ls hl => ?_)
        refine lv_goto (tgt := 62) hx hb dX8_wait_136 (by decide) ?_
        exact ih m33 (x2 + 1) _ _ ls hF hP hS (lv_sub hl [3, 4, 0] rfl)
      · replace hF := (if_pos c25).symm.trans hF
        refine lv_iload_n hx hb dX8_wait_97 rfl (lv_at hl 4 rfl) ?_
        cases hF
        exact ret_Wi C0 hP hS trivial dX8_wait_98
def fX8_wait (mem : Mem) (a1 : Int32) : Option (Int32 × Mem) :=
  ob1 (fX4_has mem a1) (fun r2 => if r2 = 0 then (ob2 (fX8_finding mem (-100001)) (fun r39 m38 => some (r39, m38))) else (ob1 (fX7_find 5 mem a1 0) (fun r6 => if r6 = (-1) then (ob2 (fX8_finding mem (-100006)) (fun r10 m9 => some (r10, m9))) else (ob1 (fX4_isHere mem a1) (fun r12 => if r12 = 0 then (ob2 (fX8_finding mem (-100006)) (fun r36 m35 => some (r36, m35))) else (ob1 (fX7_become 11 5 mem) (fun m16 => fX8_wait_62 a1 fu m16 0)))))))
set_option maxHeartbeats 4000000 in
set_option maxRecDepth 100000 in
theorem kX8_wait (l : Launch) (g : gG) (ad : Nat → Nat) (tk : Nat) (mem : Mem) (a1 : Int32) (r : Int32) (mem2 : Mem) (hF : fX8_wait mem a1 = some (r, mem2)) : Met l yX8_wait (Cond.code yX8_wait cX8_wait 5 (some .int) :: gw) { frames := 6, cells := 0, slots := 0, locals := 137 } (pG (wX g ad mem) (eX g ad tk) g [.ref (ad 0), .int a1]) (qW (wX g ad mem2) g (AW 44 ad) (some (.int r)) (True)) 0 0 (AW 44 ad) := by
  refine met_of (by decide) (Nat.le_of_ble_eq_true rfl) ?_
  intro p e s m args below meth c ls C0 hP hl
  obtain ⟨hx, hb, hml, hown, hts, hr, hlk, hE⟩ := id C0
  obtain ⟨hK, hN, hA, hZ, hT, hTA⟩ := id hE
  have hl : lv_has ls 5 [(0, .ref (ad 0)), (1, .int a1)] := hl
  have hS : va_S (AW 44 ad) s.heap s.heap [] := va_S.rf
  unfold fX8_wait at hF
  refine lv_aload_n hx hb dX8_wait_0 rfl (lv_at hl 0 rfl) ?_
  refine get_W C0 hK hP iwX8 0 wX_0 rfl 0 (by decide) mF_X8_10 rfl rfl dX8_wait_1 ?_
  refine lv_iload_n hx hb dX8_wait_4 rfl (lv_at hl 1 rfl) ?_
  obtain ⟨r2, h1, hF⟩ := ob_some hF
  refine cV_Ri C0 eX_st hP hS hK pkX4_has (As := [.int a1]) (rest := []) (kX4_has l g ad tk mem a1 r2 h1) mL_X8_94 ⟨rfl, rfl, Nat.le_of_ble_eq_true rfl, Nat.le_of_ble_eq_true rfl, Nat.le_of_ble_eq_true rfl, Nat.le_of_ble_eq_true rfl⟩ 1 wX_1 rfl rfl rfl hl.1 rfl (Nat.le_of_ble_eq_true rfl) dX8_wait_5 (fun b3 => ?_)
  refine lv_if_ne (tgt := 18) hx hb dX8_wait_8 (by decide) (fun c4 => ?_) (fun c4 => ?_)
  · replace hF := (if_neg c4).symm.trans hF
    refine lv_aload_n hx hb dX8_wait_18 rfl (lv_at hl 0 rfl) ?_
    refine get_W C0 hK hP iwX8 0 wX_0 rfl 1 (by decide) mF_X8_21 rfl rfl dX8_wait_19 ?_
    refine lv_iload_n hx hb dX8_wait_22 rfl (lv_at hl 1 rfl) ?_
    refine lv_iconst (v := 0) hx hb dX8_wait_23 (by decide) ?_
    obtain ⟨r6, h5, hF⟩ := ob_some hF
    refine cV_Ri C0 eX_st hP hS hK pkX7_find (As := [.int a1, .int 0]) (rest := []) (kX7_find l g ad tk mem 5 (by decide) a1 0 r6 h5) mL_X8_128 ⟨rfl, rfl, Nat.le_of_ble_eq_true rfl, Nat.le_of_ble_eq_true rfl, Nat.le_of_ble_eq_true rfl, Nat.le_of_ble_eq_true rfl⟩ 5 wX_5 rfl rfl rfl hl.1 rfl (Nat.le_of_ble_eq_true rfl) dX8_wait_24 (fun _ => ?_)
    refine lv_iconst (v := (-1)) hx hb dX8_wait_27 (by decide) ?_
    refine lv_icmp_eq (tgt := 42) hx hb dX8_wait_28 (by decide) (fun c7 => ?_) (fun c7 => ?_)
    · replace hF := (if_pos c7).symm.trans hF
      refine lv_aload_n hx hb dX8_wait_42 rfl (lv_at hl 0 rfl) ?_
      refine lv_ldc hx hb hown (hts _ mK_X8_137) dX8_wait_43 ?_
      obtain ⟨r10, m9, h8, hF⟩ := ob2_some hF
      refine cV_Wi C0 eX_st hP hS hK pkX8_finding (As := [.int (-100006)]) (rest := []) (kX8_finding l g ad tk mem (-100006) r10 m9 h8) mL_X8_81 ⟨rfl, rfl, Nat.le_of_ble_eq_true rfl, Nat.le_of_ble_eq_true rfl, Nat.le_of_ble_eq_true rfl, Nat.le_of_ble_eq_true rfl⟩ 0 wX_0 rfl rfl rfl hl.1 rfl (Nat.le_of_ble_eq_true rfl) dX8_wait_45 (fun H locs _ hP hS => ?_)
      cases hF
      exact ret_Wi C0 hP hS trivial dX8_wait_48
    · replace hF := (if_neg c7).symm.trans hF
      refine lv_aload_n hx hb dX8_wait_31 rfl (lv_at hl 0 rfl) ?_
      refine get_W C0 hK hP iwX8 0 wX_0 rfl 0 (by decide) mF_X8_10 rfl rfl dX8_wait_32 ?_
      refine lv_iload_n hx hb dX8_wait_35 rfl (lv_at hl 1 rfl) ?_
      obtain ⟨r12, h11, hF⟩ := ob_some hF
      refine cV_Ri C0 eX_st hP hS hK pkX4_isHere (As := [.int a1]) (rest := []) (kX4_isHere l g ad tk mem a1 r12 h11) mL_X8_103 ⟨rfl, rfl, Nat.le_of_ble_eq_true rfl, Nat.le_of_ble_eq_true rfl, Nat.le_of_ble_eq_true rfl, Nat.le_of_ble_eq_true rfl⟩ 1 wX_1 rfl rfl rfl hl.1 rfl (Nat.le_of_ble_eq_true rfl) dX8_wait_36 (fun b13 => ?_)
      refine lv_if_ne (tgt := 49) hx hb dX8_wait_39 (by decide) (fun c14 => ?_) (fun c14 => ?_)
      · replace hF := (if_neg c14).symm.trans hF
        refine lv_aload_n hx hb dX8_wait_49 rfl (lv_at hl 0 rfl) ?_
        refine get_W C0 hK hP iwX8 0 wX_0 rfl 2 (by decide) mF_X8_25 rfl rfl dX8_wait_50 ?_
        refine lv_aload_n hx hb dX8_wait_53 rfl (lv_at hl 0 rfl) ?_
        refine get_W C0 hK hP iwX8 0 wX_0 rfl 1 (by decide) mF_X8_21 rfl rfl dX8_wait_54 ?_
        obtain ⟨m16, h15, hF⟩ := ob_some hF
        refine cV_Wv C0 eX_st hP hS hK pkX7_become (As := [.ref (ad 5)]) (rest := []) (kX7_become l g ad tk mem 11 (by decide) 5 (by decide) (by decide) m16 h15) mL_X8_168 ⟨rfl, rfl, Nat.le_of_ble_eq_true rfl, Nat.le_of_ble_eq_true rfl, Nat.le_of_ble_eq_true rfl, Nat.le_of_ble_eq_true rfl⟩ 11 wX_11 rfl rfl rfl hl.1 rfl (Nat.le_of_ble_eq_true rfl) dX8_wait_57 (fun H locs _ hP hS => ?_)
        refine lv_iconst (v := 0) hx hb dX8_wait_60 (by decide) ?_
        refine lv_istore_n (lv' := [(2, .int 0), (0, .ref (ad 0)), (1, .int a1)]) hx hb dX8_wait_61 rfl hl (by decide) rfl (fun ls hl => ?_)
        exact lpX8_wait_62 g ad tk a1 r mem2 C0 fu m16 0 _ _ ls hF hP hS (lv_sub hl [1, 2, 0] rfl)
      · replace hF := (if_pos c14).symm.trans hF
        refine lv_aload_n hx hb dX8_wait_42 rfl (lv_at hl 0 rfl) ?_
        refine lv_ldc hx hb hown (hts _ mK_X8_137) dX8_wait_43 ?_
        obtain ⟨r36, m35, h34, hF⟩ := ob2_some hF
        refine cV_Wi C0 eX_st hP hS hK pkX8_finding (As := [.int (-100006)]) (rest := []) (kX8_finding l g ad tk mem (-100006) r36 m35 h34) mL_X8_81 ⟨rfl, rfl, Nat.le_of_ble_eq_true rfl, Nat.le_of_ble_eq_true rfl, Nat.le_of_ble_eq_true rfl, Nat.le_of_ble_eq_true rfl⟩ 0 wX_0 rfl rfl rfl hl.1 rfl (Nat.le_of_ble_eq_true rfl) dX8_wait_45 (fun H locs _ hP hS => ?_)
        cases hF
        exact ret_Wi C0 hP hS trivial dX8_wait_48
  · replace hF := (if_pos c4).symm.trans hF
    refine lv_aload_n hx hb dX8_wait_11 rfl (lv_at hl 0 rfl) ?_
    refine lv_ldc hx hb hown (hts _ mK_X8_80) dX8_wait_12 ?_
    obtain ⟨r39, m38, h37, hF⟩ := ob2_some hF
    refine cV_Wi C0 eX_st hP hS hK pkX8_finding (As := [.int (-100001)]) (rest := []) (kX8_finding l g ad tk mem (-100001) r39 m38 h37) mL_X8_81 ⟨rfl, rfl, Nat.le_of_ble_eq_true rfl, Nat.le_of_ble_eq_true rfl, Nat.le_of_ble_eq_true rfl, Nat.le_of_ble_eq_true rfl⟩ 0 wX_0 rfl rfl rfl hl.1 rfl (Nat.le_of_ble_eq_true rfl) dX8_wait_14 (fun H locs _ hP hS => ?_)
    cases hF
    exact ret_Wi C0 hP hS trivial dX8_wait_17
theorem pkX8_fits : pkV yX8_fits cX8_fits 8 (some .int) RX8 2 := ⟨mI_X8_fits, mS_X8_fits, mN_X8, mC_X8_fits, by decide +kernel⟩
def fX8_fits_33 (mem : Mem) (z1 : Int32) (z2 : Int32) : Nat → Int32 → Int32 → Int32 → Option (Int32 × Mem)
  | 0, _, _, _ => none
  | n + 1, x3, x4, x5 =>
    ob1 (fX2_size mem) (fun r8 => if r8 ≤ x5 then (some (x4, mem)) else (ob1 (fX2_askingAt mem x5) (fun r11 => ob1 (fX7_memberAt 5 mem r11) (fun r13 => ob1 (fX7_sortAt 5 mem r11) (fun r15 => ob1 (fX8_ticksFor mem r13 r15) (fun r17 => if x3 < r17 then (if z2 = 0 then (some (x4, mem)) else (fX8_fits_33 mem z1 z2 n x3 x4 (x5 + 1))) else (fX8_fits_33 mem z1 z2 n (x3 - r17) (x4 + 1) (x5 + 1))))))))
set_option maxHeartbeats 4000000 in
set_option maxRecDepth 100000 in
theorem lpX8_fits_33 {p : Program} {l : Launch} {e : Env} {s : State} {m : MethodId} {args : Array Value} {below : List Frame} {meth : Method} {c : Code} (g : gG) (ad : Nat → Nat) (tk : Nat) (mem : Mem) (z1 : Int32) (z2 : Int32) (r : Int32) (mem2 : Mem) (C0 : cxt (eX g ad tk) cX8_fits 8 RX8 (some .int) p s m args meth c) :
    ∀ (n : Nat) (x3 : Int32) (x4 : Int32) (x5 : Int32) (H : Heap) (locs : List Loc) (ls : Array Slot), fX8_fits_33 mem z1 z2 n x3 x4 x5 = some (r, mem2) → va_P g.1 vwCl (wX g ad mem) H → va_S (AW 44 ad) s.heap H locs → lv_has ls 8 [(0, .ref (ad 0)), (1, .int z1), (2, .int z2), (3, .int x3), (4, .int x4), (5, .int x5)] → W p l e { frames := 6, cells := 0, slots := 0, locals := 134 } s m args below meth c H locs 0 0 (MQ below (qW (wX g ad mem2) g (AW 44 ad) (some (.int r)) (True)) args s 0 0 (AW 44 ad)) (F0 m 33 ls []) := by
  obtain ⟨hx, hb, hml, hown, hts, hr, hlk, hE⟩ := id C0
  obtain ⟨hK, hN, hA, hZ, hT, hTA⟩ := id hE
  intro n
  induction n with
  | zero =>
    intro x3 x4 x5 H locs ls hF hP hS hl
    cases hF
  | succ n ih =>
    intro x3 x4 x5 H locs ls hF hP hS hl
    rw [fX8_fits_33] at hF
    refine lv_iload hx hb dX8_fits_33 (lv_at hl 5 rfl) ?_
    refine lv_aload_n hx hb dX8_fits_35 rfl (lv_at hl 0 rfl) ?_
    refine get_W C0 hK hP iwX8 0 wX_0 rfl 4 (by decide) mF_X8_40 rfl rfl dX8_fits_36 ?_
    obtain ⟨r8, h7, hF⟩ := ob_some hF
    refine cV_Ri C0 eX_st hP hS hK pkX2_size (As := []) (rest := [.int x5]) (kX2_size l g ad tk mem r8 h7) mL_X8_155 ⟨rfl, rfl, Nat.le_of_ble_eq_true rfl, Nat.le_of_ble_eq_true rfl, Nat.le_of_ble_eq_true rfl, Nat.le_of_ble_eq_true rfl⟩ 19 wX_19 rfl rfl rfl hl.1 rfl (Nat.le_of_ble_eq_true rfl) dX8_fits_39 (fun _ => ?_)
    refine lv_icmp_ge (tgt := 110) hx hb dX8_fits_42 (by decide) (fun c9 => ?_) (fun c9 => ?_)
    · replace hF := (if_pos c9).symm.trans hF
      refine lv_iload hx hb dX8_fits_110 (lv_at hl 4 rfl) ?_
      cases hF
      exact ret_Wi C0 hP hS trivial dX8_fits_112
    · replace hF := (if_neg c9).symm.trans hF
      refine lv_aload_n hx hb dX8_fits_45 rfl (lv_at hl 0 rfl) ?_
      refine get_W C0 hK hP iwX8 0 wX_0 rfl 4 (by decide) mF_X8_40 rfl rfl dX8_fits_46 ?_
      refine lv_iload hx hb dX8_fits_49 (lv_at hl 5 rfl) ?_
      obtain ⟨r11, h10, hF⟩ := ob_some hF
      refine cV_Ri C0 eX_st hP hS hK pkX2_askingAt (As := [.int x5]) (rest := []) (kX2_askingAt l g ad tk mem x5 r11 h10) mL_X8_156 ⟨rfl, rfl, Nat.le_of_ble_eq_true rfl, Nat.le_of_ble_eq_true rfl, Nat.le_of_ble_eq_true rfl, Nat.le_of_ble_eq_true rfl⟩ 19 wX_19 rfl rfl rfl hl.1 rfl (Nat.le_of_ble_eq_true rfl) dX8_fits_51 (fun _ => ?_)
      refine lv_istore (lv' := [(6, .int r11), (0, .ref (ad 0)), (1, .int z1), (2, .int z2), (3, .int x3), (4, .int x4), (5, .int x5)]) hx hb dX8_fits_54 hl (by decide) rfl (fun ls hl => ?_)
      refine lv_aload_n hx hb dX8_fits_56 rfl (lv_at hl 1 rfl) ?_
      refine lv_aload_n hx hb dX8_fits_57 rfl (lv_at hl 1 rfl) ?_
      refine get_W C0 hK hP iwX8 0 wX_0 rfl 1 (by decide) mF_X8_21 rfl rfl dX8_fits_58 ?_
      refine lv_iload hx hb dX8_fits_61 (lv_at hl 0 rfl) ?_
      obtain ⟨r13, h12, hF⟩ := ob_some hF
      refine cV_Ri C0 eX_st hP hS hK pkX7_memberAt (As := [.int r11]) (rest := [.ref (ad 0)]) (kX7_memberAt l g ad tk mem 5 (by decide) r11 r13 h12) mL_X8_162 ⟨rfl, rfl, Nat.le_of_ble_eq_true rfl, Nat.le_of_ble_eq_true rfl, Nat.le_of_ble_eq_true rfl, Nat.le_of_ble_eq_true rfl⟩ 5 wX_5 rfl rfl rfl hl.1 rfl (Nat.le_of_ble_eq_true rfl) dX8_fits_63 (fun _ => ?_)
      refine lv_aload_n hx hb dX8_fits_66 rfl (lv_at hl 1 rfl) ?_
      refine get_W C0 hK hP iwX8 0 wX_0 rfl 1 (by decide) mF_X8_21 rfl rfl dX8_fits_67 ?_
      refine lv_iload hx hb dX8_fits_70 (lv_at hl 0 rfl) ?_
      obtain ⟨r15, h14, hF⟩ := ob_some hF
      refine cV_Ri C0 eX_st hP hS hK pkX7_sortAt (As := [.int r11]) (rest := [.int r13, .ref (ad 0)]) (kX7_sortAt l g ad tk mem 5 (by decide) r11 r15 h14) mL_X8_159 ⟨rfl, rfl, Nat.le_of_ble_eq_true rfl, Nat.le_of_ble_eq_true rfl, Nat.le_of_ble_eq_true rfl, Nat.le_of_ble_eq_true rfl⟩ 5 wX_5 rfl rfl rfl hl.1 rfl (Nat.le_of_ble_eq_true rfl) dX8_fits_72 (fun _ => ?_)
      obtain ⟨r17, h16, hF⟩ := ob_some hF
      refine cV_Ri C0 eX_st hP hS hK pkX8_ticksFor (As := [.int r13, .int r15]) (rest := []) (kX8_ticksFor l g ad tk mem r13 r15 r17 h16) mL_X8_179 ⟨rfl, rfl, Nat.le_of_ble_eq_true rfl, Nat.le_of_ble_eq_true rfl, Nat.le_of_ble_eq_true rfl, Nat.le_of_ble_eq_true rfl⟩ 0 wX_0 rfl rfl rfl hl.1 rfl (Nat.le_of_ble_eq_true rfl) dX8_fits_75 (fun _ => ?_)
      refine lv_istore (lv' := [(7, .int r17), (6, .int r11), (0, .ref (ad 0)), (1, .int z1), (2, .int z2), (3, .int x3), (4, .int x4), (5, .int x5)]) hx hb dX8_fits_78 hl (by decide) rfl (fun ls hl => ?_)
      refine lv_iload hx hb dX8_fits_80 (lv_at hl 0 rfl) ?_
      refine lv_iload_n hx hb dX8_fits_82 rfl (lv_at hl 5 rfl) ?_
      refine lv_icmp_gt (tgt := 97) hx hb dX8_fits_83 (by decide) (fun c18 => ?_) (fun c18 => ?_)
      · replace hF := (if_pos c18).symm.trans hF
        refine lv_iload_n hx hb dX8_fits_97 rfl (lv_at hl 4 rfl) ?_
        refine lv_if_ne (tgt := 104) hx hb dX8_fits_98 (by decide) (fun c19 => ?_) (fun c19 => ?_)
        · replace hF := (if_neg c19).symm.trans hF
          refine lv_iinc (v := x5 + 1) (lv' := [(5, .int (x5 + 1)), (7, .int r17), (6, .int r11), (0, .ref (ad 0)), (1, .int z1), (2, .int z2), (3, .int x3), (4, .int x4)]) hx hb dX8_fits_104 hl (k := 7) rfl rfl (by decide) rfl (fun ls hl => ?_)
          refine lv_goto (tgt := 33) hx hb dX8_fits_107 (by decide) ?_
          exact ih x3 x4 (x5 + 1) _ _ ls hF hP hS (lv_sub hl [3, 4, 5, 6, 7, 0] rfl)
        · replace hF := (if_pos c19).symm.trans hF
          refine lv_iload hx hb dX8_fits_101 (lv_at hl 6 rfl) ?_
          cases hF
          exact ret_Wi C0 hP hS trivial dX8_fits_103
      · replace hF := (if_neg c18).symm.trans hF
        refine lv_iload_n hx hb dX8_fits_86 rfl (lv_at hl 5 rfl) ?_
        refine lv_iload hx hb dX8_fits_87 (lv_at hl 0 rfl) ?_
        refine lv_isub hx hb dX8_fits_89 ?_
        refine lv_istore_n (lv' := [(3, .int (x3 - r17)), (7, .int r17), (6, .int r11), (0, .ref (ad 0)), (1, .int z1), (2, .int z2), (4, .int x4), (5, .int x5)]) hx hb dX8_fits_90 rfl hl (by decide) rfl (fun ls hl => ?_)
        refine lv_iinc (v := x4 + 1) (lv' := [(4, .int (x4 + 1)), (3, .int (x3 - r17)), (7, .int r17), (6, .int r11), (0, .ref (ad 0)), (1, .int z1), (2, .int z2), (5, .int x5)]) hx hb dX8_fits_91 hl (k := 6) rfl rfl (by decide) rfl (fun ls hl => ?_)
        refine lv_goto (tgt := 104) hx hb dX8_fits_94 (by decide) ?_
        refine lv_iinc (v := x5 + 1) (lv' := [(5, .int (x5 + 1)), (4, .int (x4 + 1)), (3, .int (x3 - r17)), (7, .int r17), (6, .int r11), (0, .ref (ad 0)), (1, .int z1), (2, .int z2)]) hx hb dX8_fits_104 hl (k := 7) rfl rfl (by decide) rfl (fun ls hl => ?_)
        refine lv_goto (tgt := 33) hx hb dX8_fits_107 (by decide) ?_
        exact ih (x3 - r17) (x4 + 1) (x5 + 1) _ _ ls hF hP hS (lv_sub hl [5, 6, 7, 2, 1, 0] rfl)
def fX8_fits (mem : Mem) (a1 : Int32) (a2 : Int32) : Option (Int32 × Mem) :=
  ob1 (fX8_isWithin a1 0 1000) (fun r2 => if r2 = 0 then (ob2 (fX8_finding mem (-100001)) (fun r22 m21 => some (r22, m21))) else (ob1 (fX2_lay mem) (fun m6 => fX8_fits_33 m6 a1 a2 fu a1 0 0)))
set_option maxHeartbeats 4000000 in
set_option maxRecDepth 100000 in
theorem kX8_fits (l : Launch) (g : gG) (ad : Nat → Nat) (tk : Nat) (mem : Mem) (a1 : Int32) (a2 : Int32) (r : Int32) (mem2 : Mem) (hF : fX8_fits mem a1 a2 = some (r, mem2)) : Met l yX8_fits (Cond.code yX8_fits cX8_fits 8 (some .int) :: gw) { frames := 6, cells := 0, slots := 0, locals := 134 } (pG (wX g ad mem) (eX g ad tk) g [.ref (ad 0), .int a1, .int a2]) (qW (wX g ad mem2) g (AW 44 ad) (some (.int r)) (True)) 0 0 (AW 44 ad) := by
  refine met_of (by decide) (Nat.le_of_ble_eq_true rfl) ?_
  intro p e s m args below meth c ls C0 hP hl
  obtain ⟨hx, hb, hml, hown, hts, hr, hlk, hE⟩ := id C0
  obtain ⟨hK, hN, hA, hZ, hT, hTA⟩ := id hE
  have hl : lv_has ls 8 [(0, .ref (ad 0)), (1, .int a1), (2, .int a2)] := hl
  have hS : va_S (AW 44 ad) s.heap s.heap [] := va_S.rf
  unfold fX8_fits at hF
  refine lv_iload_n hx hb dX8_fits_0 rfl (lv_at hl 1 rfl) ?_
  refine lv_iconst (v := 0) hx hb dX8_fits_1 (by decide) ?_
  refine lv_sipush (v := 1000) hx hb dX8_fits_2 (by decide) ?_
  obtain ⟨r2, h1, hF⟩ := ob_some hF
  refine cS_Ri C0 pkX8_isWithin (As := [.int a1, .int 0, .int 1000]) (rest := []) (kX8_isWithin l g a1 0 1000 r2 h1) mL_X8_76 ⟨rfl, rfl, Nat.le_of_ble_eq_true rfl, Nat.le_of_ble_eq_true rfl, Nat.le_of_ble_eq_true rfl, Nat.le_of_ble_eq_true rfl⟩ rfl hl.1 rfl (Nat.le_of_ble_eq_true rfl) dX8_fits_5 (fun b3 => ?_)
  refine lv_if_ne (tgt := 18) hx hb dX8_fits_8 (by decide) (fun c4 => ?_) (fun c4 => ?_)
  · replace hF := (if_neg c4).symm.trans hF
    refine lv_aload_n hx hb dX8_fits_18 rfl (lv_at hl 0 rfl) ?_
    refine get_W C0 hK hP iwX8 0 wX_0 rfl 4 (by decide) mF_X8_40 rfl rfl dX8_fits_19 ?_
    obtain ⟨m6, h5, hF⟩ := ob_some hF
    refine cV_Wv C0 eX_st hP hS hK pkX2_lay (As := []) (rest := []) (kX2_lay l g ad tk mem m6 h5) mL_X8_152 ⟨rfl, rfl, Nat.le_of_ble_eq_true rfl, Nat.le_of_ble_eq_true rfl, Nat.le_of_ble_eq_true rfl, Nat.le_of_ble_eq_true rfl⟩ 19 wX_19 rfl rfl rfl hl.1 rfl (Nat.le_of_ble_eq_true rfl) dX8_fits_22 (fun H locs _ hP hS => ?_)
    refine lv_iload_n hx hb dX8_fits_25 rfl (lv_at hl 1 rfl) ?_
    refine lv_istore_n (lv' := [(3, .int a1), (0, .ref (ad 0)), (1, .int a1), (2, .int a2)]) hx hb dX8_fits_26 rfl hl (by decide) rfl (fun ls hl => ?_)
    refine lv_iconst (v := 0) hx hb dX8_fits_27 (by decide) ?_
    refine lv_istore (lv' := [(4, .int 0), (3, .int a1), (0, .ref (ad 0)), (1, .int a1), (2, .int a2)]) hx hb dX8_fits_28 hl (by decide) rfl (fun ls hl => ?_)
    refine lv_iconst (v := 0) hx hb dX8_fits_30 (by decide) ?_
    refine lv_istore (lv' := [(5, .int 0), (4, .int 0), (3, .int a1), (0, .ref (ad 0)), (1, .int a1), (2, .int a2)]) hx hb dX8_fits_31 hl (by decide) rfl (fun ls hl => ?_)
    exact lpX8_fits_33 g ad tk m6 a1 a2 r mem2 C0 fu a1 0 0 _ _ ls hF hP hS (lv_sub hl [3, 4, 5, 2, 1, 0] rfl)
  · replace hF := (if_pos c4).symm.trans hF
    refine lv_aload_n hx hb dX8_fits_11 rfl (lv_at hl 0 rfl) ?_
    refine lv_ldc hx hb hown (hts _ mK_X8_80) dX8_fits_12 ?_
    obtain ⟨r22, m21, h20, hF⟩ := ob2_some hF
    refine cV_Wi C0 eX_st hP hS hK pkX8_finding (As := [.int (-100001)]) (rest := []) (kX8_finding l g ad tk mem (-100001) r22 m21 h20) mL_X8_81 ⟨rfl, rfl, Nat.le_of_ble_eq_true rfl, Nat.le_of_ble_eq_true rfl, Nat.le_of_ble_eq_true rfl, Nat.le_of_ble_eq_true rfl⟩ 0 wX_0 rfl rfl rfl hl.1 rfl (Nat.le_of_ble_eq_true rfl) dX8_fits_14 (fun H locs _ hP hS => ?_)
    cases hF
    exact ret_Wi C0 hP hS trivial dX8_fits_17
theorem pkX8_takeFloor : pkV yX8_takeFloor cX8_takeFloor 4 (some .int) RX8 1 := ⟨mI_X8_takeFloor, mS_X8_takeFloor, mN_X8, mC_X8_takeFloor, by decide +kernel⟩
def fX8_takeFloor (mem : Mem) (a1 : Int32) : Option (Int32 × Mem) :=
  ob1 (fX7_memberAt 5 mem a1) (fun r2 => ob1 (fX7_sortAt 5 mem a1) (fun r4 => ob1 (fX7_take 5 mem a1) (fun m6 => ob1 (fX8_ticksFor m6 r2 r4) (fun r8 => ob1 (fX1_push m6 r2 r4 r8) (fun m10 => some (r2, m10))))))
set_option maxHeartbeats 4000000 in
set_option maxRecDepth 100000 in
theorem kX8_takeFloor (l : Launch) (g : gG) (ad : Nat → Nat) (tk : Nat) (mem : Mem) (a1 : Int32) (r : Int32) (mem2 : Mem) (hF : fX8_takeFloor mem a1 = some (r, mem2)) : Met l yX8_takeFloor (Cond.code yX8_takeFloor cX8_takeFloor 4 (some .int) :: gw) { frames := 5, cells := 0, slots := 0, locals := 102 } (pG (wX g ad mem) (eX g ad tk) g [.ref (ad 0), .int a1]) (qW (wX g ad mem2) g (AW 44 ad) (some (.int r)) (True)) 0 0 (AW 44 ad) := by
  refine met_of (by decide) (Nat.le_of_ble_eq_true rfl) ?_
  intro p e s m args below meth c ls C0 hP hl
  obtain ⟨hx, hb, hml, hown, hts, hr, hlk, hE⟩ := id C0
  obtain ⟨hK, hN, hA, hZ, hT, hTA⟩ := id hE
  have hl : lv_has ls 4 [(0, .ref (ad 0)), (1, .int a1)] := hl
  have hS : va_S (AW 44 ad) s.heap s.heap [] := va_S.rf
  unfold fX8_takeFloor at hF
  refine lv_aload_n hx hb dX8_takeFloor_0 rfl (lv_at hl 0 rfl) ?_
  refine get_W C0 hK hP iwX8 0 wX_0 rfl 1 (by decide) mF_X8_21 rfl rfl dX8_takeFloor_1 ?_
  refine lv_iload_n hx hb dX8_takeFloor_4 rfl (lv_at hl 1 rfl) ?_
  obtain ⟨r2, h1, hF⟩ := ob_some hF
  refine cV_Ri C0 eX_st hP hS hK pkX7_memberAt (As := [.int a1]) (rest := []) (kX7_memberAt l g ad tk mem 5 (by decide) a1 r2 h1) mL_X8_162 ⟨rfl, rfl, Nat.le_of_ble_eq_true rfl, Nat.le_of_ble_eq_true rfl, Nat.le_of_ble_eq_true rfl, Nat.le_of_ble_eq_true rfl⟩ 5 wX_5 rfl rfl rfl hl.1 rfl (Nat.le_of_ble_eq_true rfl) dX8_takeFloor_5 (fun _ => ?_)
  refine lv_istore_n (lv' := [(2, .int r2), (0, .ref (ad 0)), (1, .int a1)]) hx hb dX8_takeFloor_8 rfl hl (by decide) rfl (fun ls hl => ?_)
  refine lv_aload_n hx hb dX8_takeFloor_9 rfl (lv_at hl 1 rfl) ?_
  refine get_W C0 hK hP iwX8 0 wX_0 rfl 1 (by decide) mF_X8_21 rfl rfl dX8_takeFloor_10 ?_
  refine lv_iload_n hx hb dX8_takeFloor_13 rfl (lv_at hl 2 rfl) ?_
  obtain ⟨r4, h3, hF⟩ := ob_some hF
  refine cV_Ri C0 eX_st hP hS hK pkX7_sortAt (As := [.int a1]) (rest := []) (kX7_sortAt l g ad tk mem 5 (by decide) a1 r4 h3) mL_X8_159 ⟨rfl, rfl, Nat.le_of_ble_eq_true rfl, Nat.le_of_ble_eq_true rfl, Nat.le_of_ble_eq_true rfl, Nat.le_of_ble_eq_true rfl⟩ 5 wX_5 rfl rfl rfl hl.1 rfl (Nat.le_of_ble_eq_true rfl) dX8_takeFloor_14 (fun _ => ?_)
  refine lv_istore_n (lv' := [(3, .int r4), (2, .int r2), (0, .ref (ad 0)), (1, .int a1)]) hx hb dX8_takeFloor_17 rfl hl (by decide) rfl (fun ls hl => ?_)
  refine lv_aload_n hx hb dX8_takeFloor_18 rfl (lv_at hl 2 rfl) ?_
  refine get_W C0 hK hP iwX8 0 wX_0 rfl 1 (by decide) mF_X8_21 rfl rfl dX8_takeFloor_19 ?_
  refine lv_iload_n hx hb dX8_takeFloor_22 rfl (lv_at hl 3 rfl) ?_
  obtain ⟨m6, h5, hF⟩ := ob_some hF
  refine cV_Wv C0 eX_st hP hS hK pkX7_take (As := [.int a1]) (rest := []) (kX7_take l g ad tk mem 5 (by decide) a1 m6 h5) mL_X8_176 ⟨rfl, rfl, Nat.le_of_ble_eq_true rfl, Nat.le_of_ble_eq_true rfl, Nat.le_of_ble_eq_true rfl, Nat.le_of_ble_eq_true rfl⟩ 5 wX_5 rfl rfl rfl hl.1 rfl (Nat.le_of_ble_eq_true rfl) dX8_takeFloor_23 (fun H locs _ hP hS => ?_)
  refine lv_aload_n hx hb dX8_takeFloor_26 rfl (lv_at hl 2 rfl) ?_
  refine get_W C0 hK hP iwX8 0 wX_0 rfl 5 (by decide) mF_X8_47 rfl rfl dX8_takeFloor_27 ?_
  refine lv_iload_n hx hb dX8_takeFloor_30 rfl (lv_at hl 1 rfl) ?_
  refine lv_iload_n hx hb dX8_takeFloor_31 rfl (lv_at hl 0 rfl) ?_
  refine lv_aload_n hx hb dX8_takeFloor_32 rfl (lv_at hl 2 rfl) ?_
  refine lv_iload_n hx hb dX8_takeFloor_33 rfl (lv_at hl 1 rfl) ?_
  refine lv_iload_n hx hb dX8_takeFloor_34 rfl (lv_at hl 0 rfl) ?_
  obtain ⟨r8, h7, hF⟩ := ob_some hF
  refine cV_Ri C0 eX_st hP hS hK pkX8_ticksFor (As := [.int r2, .int r4]) (rest := [.int r4, .int r2, .ref (ad 21)]) (kX8_ticksFor l g ad tk m6 r2 r4 r8 h7) mL_X8_179 ⟨rfl, rfl, Nat.le_of_ble_eq_true rfl, Nat.le_of_ble_eq_true rfl, Nat.le_of_ble_eq_true rfl, Nat.le_of_ble_eq_true rfl⟩ 0 wX_0 rfl rfl rfl hl.1 rfl (Nat.le_of_ble_eq_true rfl) dX8_takeFloor_35 (fun _ => ?_)
  obtain ⟨m10, h9, hF⟩ := ob_some hF
  refine cV_Wv C0 eX_st hP hS hK pkX1_push (As := [.int r2, .int r4, .int r8]) (rest := []) (kX1_push l g ad tk m6 r2 r4 r8 m10 h9) mL_X8_323 ⟨rfl, rfl, Nat.le_of_ble_eq_true rfl, Nat.le_of_ble_eq_true rfl, Nat.le_of_ble_eq_true rfl, Nat.le_of_ble_eq_true rfl⟩ 21 wX_21 rfl rfl rfl hl.1 rfl (Nat.le_of_ble_eq_true rfl) dX8_takeFloor_38 (fun H locs _ hP hS => ?_)
  refine lv_iload_n hx hb dX8_takeFloor_41 rfl (lv_at hl 1 rfl) ?_
  cases hF
  exact ret_Wi C0 hP hS trivial dX8_takeFloor_42
theorem pkX8_begin : pkV yX8_begin cX8_begin 2 (some .int) RX8 0 := ⟨mI_X8_begin, mS_X8_begin, mN_X8, mC_X8_begin, by decide +kernel⟩
def fX8_begin (mem : Mem) : Option (Int32 × Mem) :=
  ob1 (fX1_isHeld mem) (fun r2 => if r2 = 0 then (ob1 (fX5_firstOf 5 mem (-1)) (fun r6 => if r6 = (-1) then (ob2 (fX8_finding mem (-100006)) (fun r13 m12 => some (r13, m12))) else (ob2 (fX8_takeFloor mem r6) (fun r10 m9 => some (r10, m9))))) else (ob2 (fX8_finding mem (-100007)) (fun r16 m15 => some (r16, m15))))
set_option maxHeartbeats 4000000 in
set_option maxRecDepth 100000 in
theorem kX8_begin (l : Launch) (g : gG) (ad : Nat → Nat) (tk : Nat) (mem : Mem) (r : Int32) (mem2 : Mem) (hF : fX8_begin mem = some (r, mem2)) : Met l yX8_begin (Cond.code yX8_begin cX8_begin 2 (some .int) :: gw) { frames := 6, cells := 0, slots := 0, locals := 137 } (pG (wX g ad mem) (eX g ad tk) g [.ref (ad 0)]) (qW (wX g ad mem2) g (AW 44 ad) (some (.int r)) (True)) 0 0 (AW 44 ad) := by
  refine met_of (by decide) (Nat.le_of_ble_eq_true rfl) ?_
  intro p e s m args below meth c ls C0 hP hl
  obtain ⟨hx, hb, hml, hown, hts, hr, hlk, hE⟩ := id C0
  obtain ⟨hK, hN, hA, hZ, hT, hTA⟩ := id hE
  have hl : lv_has ls 2 [(0, .ref (ad 0))] := hl
  have hS : va_S (AW 44 ad) s.heap s.heap [] := va_S.rf
  unfold fX8_begin at hF
  refine lv_aload_n hx hb dX8_begin_0 rfl (lv_at hl 0 rfl) ?_
  refine get_W C0 hK hP iwX8 0 wX_0 rfl 5 (by decide) mF_X8_47 rfl rfl dX8_begin_1 ?_
  obtain ⟨r2, h1, hF⟩ := ob_some hF
  refine cV_Ri C0 eX_st hP hS hK pkX1_isHeld (As := []) (rest := []) (kX1_isHeld l g ad tk mem r2 h1) mL_X8_186 ⟨rfl, rfl, Nat.le_of_ble_eq_true rfl, Nat.le_of_ble_eq_true rfl, Nat.le_of_ble_eq_true rfl, Nat.le_of_ble_eq_true rfl⟩ 21 wX_21 rfl rfl rfl hl.1 rfl (Nat.le_of_ble_eq_true rfl) dX8_begin_4 (fun b3 => ?_)
  refine lv_if_eq (tgt := 17) hx hb dX8_begin_7 (by decide) (fun c4 => ?_) (fun c4 => ?_)
  · replace hF := (if_pos c4).symm.trans hF
    refine lv_aload_n hx hb dX8_begin_17 rfl (lv_at hl 0 rfl) ?_
    refine get_W C0 hK hP iwX8 0 wX_0 rfl 3 (by decide) mF_X8_31 rfl rfl dX8_begin_18 ?_
    refine lv_aload_n hx hb dX8_begin_21 rfl (lv_at hl 0 rfl) ?_
    refine get_W C0 hK hP iwX8 0 wX_0 rfl 1 (by decide) mF_X8_21 rfl rfl dX8_begin_22 ?_
    refine lv_iconst (v := (-1)) hx hb dX8_begin_25 (by decide) ?_
    obtain ⟨r6, h5, hF⟩ := ob_some hF
    refine cV_Ri C0 eX_st hP hS hK pkX5_firstOf (As := [.ref (ad 5), .int (-1)]) (rest := []) (kX5_firstOf l g ad tk mem 5 (by decide) (-1) r6 h5) mL_X8_172 ⟨rfl, rfl, Nat.le_of_ble_eq_true rfl, Nat.le_of_ble_eq_true rfl, Nat.le_of_ble_eq_true rfl, Nat.le_of_ble_eq_true rfl⟩ 17 wX_17 rfl rfl rfl hl.1 rfl (Nat.le_of_ble_eq_true rfl) dX8_begin_26 (fun _ => ?_)
    refine lv_istore_n (lv' := [(1, .int r6), (0, .ref (ad 0))]) hx hb dX8_begin_29 rfl hl (by decide) rfl (fun ls hl => ?_)
    refine lv_iload_n hx hb dX8_begin_30 rfl (lv_at hl 0 rfl) ?_
    refine lv_iconst (v := (-1)) hx hb dX8_begin_31 (by decide) ?_
    refine lv_icmp_ne (tgt := 42) hx hb dX8_begin_32 (by decide) (fun c7 => ?_) (fun c7 => ?_)
    · replace hF := (if_neg c7).symm.trans hF
      refine lv_aload_n hx hb dX8_begin_42 rfl (lv_at hl 1 rfl) ?_
      refine lv_iload_n hx hb dX8_begin_43 rfl (lv_at hl 0 rfl) ?_
      obtain ⟨r10, m9, h8, hF⟩ := ob2_some hF
      refine cV_Wi C0 eX_st hP hS hK pkX8_takeFloor (As := [.int r6]) (rest := []) (kX8_takeFloor l g ad tk mem r6 r10 m9 h8) mL_X8_191 ⟨rfl, rfl, Nat.le_of_ble_eq_true rfl, Nat.le_of_ble_eq_true rfl, Nat.le_of_ble_eq_true rfl, Nat.le_of_ble_eq_true rfl⟩ 0 wX_0 rfl rfl rfl hl.1 rfl (Nat.le_of_ble_eq_true rfl) dX8_begin_44 (fun H locs _ hP hS => ?_)
      cases hF
      exact ret_Wi C0 hP hS trivial dX8_begin_47
    · replace hF := (if_pos c7).symm.trans hF
      refine lv_aload_n hx hb dX8_begin_35 rfl (lv_at hl 1 rfl) ?_
      refine lv_ldc hx hb hown (hts _ mK_X8_137) dX8_begin_36 ?_
      obtain ⟨r13, m12, h11, hF⟩ := ob2_some hF
      refine cV_Wi C0 eX_st hP hS hK pkX8_finding (As := [.int (-100006)]) (rest := []) (kX8_finding l g ad tk mem (-100006) r13 m12 h11) mL_X8_81 ⟨rfl, rfl, Nat.le_of_ble_eq_true rfl, Nat.le_of_ble_eq_true rfl, Nat.le_of_ble_eq_true rfl, Nat.le_of_ble_eq_true rfl⟩ 0 wX_0 rfl rfl rfl hl.1 rfl (Nat.le_of_ble_eq_true rfl) dX8_begin_38 (fun H locs _ hP hS => ?_)
      cases hF
      exact ret_Wi C0 hP hS trivial dX8_begin_41
  · replace hF := (if_neg c4).symm.trans hF
    refine lv_aload_n hx hb dX8_begin_10 rfl (lv_at hl 0 rfl) ?_
    refine lv_ldc hx hb hown (hts _ mK_X8_190) dX8_begin_11 ?_
    obtain ⟨r16, m15, h14, hF⟩ := ob2_some hF
    refine cV_Wi C0 eX_st hP hS hK pkX8_finding (As := [.int (-100007)]) (rest := []) (kX8_finding l g ad tk mem (-100007) r16 m15 h14) mL_X8_81 ⟨rfl, rfl, Nat.le_of_ble_eq_true rfl, Nat.le_of_ble_eq_true rfl, Nat.le_of_ble_eq_true rfl, Nat.le_of_ble_eq_true rfl⟩ 0 wX_0 rfl rfl rfl hl.1 rfl (Nat.le_of_ble_eq_true rfl) dX8_begin_13 (fun H locs _ hP hS => ?_)
    cases hF
    exact ret_Wi C0 hP hS trivial dX8_begin_16
theorem pkX8_cut : pkV yX8_cut cX8_cut 2 (some .int) RX8 0 := ⟨mI_X8_cut, mS_X8_cut, mN_X8, mC_X8_cut, by decide +kernel⟩
def fX8_cut (mem : Mem) : Option (Int32 × Mem) :=
  ob1 (fX5_firstOf 5 mem 2) (fun r2 => ob1 (fX1_isHeld mem) (fun r4 => if r4 = 0 then (ob2 (fX8_finding mem (-100006)) (fun r9 m8 => some (r9, m8))) else (if r2 = (-1) then (ob2 (fX8_finding mem (-100006)) (fun r22 m21 => some (r22, m21))) else (ob1 (fX1_behind mem) (fun r12 => if r12 < 4 then (ob2 (fX8_takeFloor mem r2) (fun r16 m15 => some (r16, m15))) else (ob2 (fX8_finding mem (-100005)) (fun r19 m18 => some (r19, m18))))))))
set_option maxHeartbeats 4000000 in
set_option maxRecDepth 100000 in
theorem kX8_cut (l : Launch) (g : gG) (ad : Nat → Nat) (tk : Nat) (mem : Mem) (r : Int32) (mem2 : Mem) (hF : fX8_cut mem = some (r, mem2)) : Met l yX8_cut (Cond.code yX8_cut cX8_cut 2 (some .int) :: gw) { frames := 6, cells := 0, slots := 0, locals := 137 } (pG (wX g ad mem) (eX g ad tk) g [.ref (ad 0)]) (qW (wX g ad mem2) g (AW 44 ad) (some (.int r)) (True)) 0 0 (AW 44 ad) := by
  refine met_of (by decide) (Nat.le_of_ble_eq_true rfl) ?_
  intro p e s m args below meth c ls C0 hP hl
  obtain ⟨hx, hb, hml, hown, hts, hr, hlk, hE⟩ := id C0
  obtain ⟨hK, hN, hA, hZ, hT, hTA⟩ := id hE
  have hl : lv_has ls 2 [(0, .ref (ad 0))] := hl
  have hS : va_S (AW 44 ad) s.heap s.heap [] := va_S.rf
  unfold fX8_cut at hF
  refine lv_aload_n hx hb dX8_cut_0 rfl (lv_at hl 0 rfl) ?_
  refine get_W C0 hK hP iwX8 0 wX_0 rfl 3 (by decide) mF_X8_31 rfl rfl dX8_cut_1 ?_
  refine lv_aload_n hx hb dX8_cut_4 rfl (lv_at hl 0 rfl) ?_
  refine get_W C0 hK hP iwX8 0 wX_0 rfl 1 (by decide) mF_X8_21 rfl rfl dX8_cut_5 ?_
  refine lv_iconst (v := 2) hx hb dX8_cut_8 (by decide) ?_
  obtain ⟨r2, h1, hF⟩ := ob_some hF
  refine cV_Ri C0 eX_st hP hS hK pkX5_firstOf (As := [.ref (ad 5), .int 2]) (rest := []) (kX5_firstOf l g ad tk mem 5 (by decide) 2 r2 h1) mL_X8_172 ⟨rfl, rfl, Nat.le_of_ble_eq_true rfl, Nat.le_of_ble_eq_true rfl, Nat.le_of_ble_eq_true rfl, Nat.le_of_ble_eq_true rfl⟩ 17 wX_17 rfl rfl rfl hl.1 rfl (Nat.le_of_ble_eq_true rfl) dX8_cut_9 (fun _ => ?_)
  refine lv_istore_n (lv' := [(1, .int r2), (0, .ref (ad 0))]) hx hb dX8_cut_12 rfl hl (by decide) rfl (fun ls hl => ?_)
  refine lv_aload_n hx hb dX8_cut_13 rfl (lv_at hl 1 rfl) ?_
  refine get_W C0 hK hP iwX8 0 wX_0 rfl 5 (by decide) mF_X8_47 rfl rfl dX8_cut_14 ?_
  obtain ⟨r4, h3, hF⟩ := ob_some hF
  refine cV_Ri C0 eX_st hP hS hK pkX1_isHeld (As := []) (rest := []) (kX1_isHeld l g ad tk mem r4 h3) mL_X8_186 ⟨rfl, rfl, Nat.le_of_ble_eq_true rfl, Nat.le_of_ble_eq_true rfl, Nat.le_of_ble_eq_true rfl, Nat.le_of_ble_eq_true rfl⟩ 21 wX_21 rfl rfl rfl hl.1 rfl (Nat.le_of_ble_eq_true rfl) dX8_cut_17 (fun b5 => ?_)
  refine lv_if_eq (tgt := 28) hx hb dX8_cut_20 (by decide) (fun c6 => ?_) (fun c6 => ?_)
  · replace hF := (if_pos c6).symm.trans hF
    refine lv_aload_n hx hb dX8_cut_28 rfl (lv_at hl 1 rfl) ?_
    refine lv_ldc hx hb hown (hts _ mK_X8_137) dX8_cut_29 ?_
    obtain ⟨r9, m8, h7, hF⟩ := ob2_some hF
    refine cV_Wi C0 eX_st hP hS hK pkX8_finding (As := [.int (-100006)]) (rest := []) (kX8_finding l g ad tk mem (-100006) r9 m8 h7) mL_X8_81 ⟨rfl, rfl, Nat.le_of_ble_eq_true rfl, Nat.le_of_ble_eq_true rfl, Nat.le_of_ble_eq_true rfl, Nat.le_of_ble_eq_true rfl⟩ 0 wX_0 rfl rfl rfl hl.1 rfl (Nat.le_of_ble_eq_true rfl) dX8_cut_31 (fun H locs _ hP hS => ?_)
    cases hF
    exact ret_Wi C0 hP hS trivial dX8_cut_34
  · replace hF := (if_neg c6).symm.trans hF
    refine lv_iload_n hx hb dX8_cut_23 rfl (lv_at hl 0 rfl) ?_
    refine lv_iconst (v := (-1)) hx hb dX8_cut_24 (by decide) ?_
    refine lv_icmp_ne (tgt := 35) hx hb dX8_cut_25 (by decide) (fun c10 => ?_) (fun c10 => ?_)
    · replace hF := (if_neg c10).symm.trans hF
      refine lv_aload_n hx hb dX8_cut_35 rfl (lv_at hl 1 rfl) ?_
      refine get_W C0 hK hP iwX8 0 wX_0 rfl 5 (by decide) mF_X8_47 rfl rfl dX8_cut_36 ?_
      obtain ⟨r12, h11, hF⟩ := ob_some hF
      refine cV_Ri C0 eX_st hP hS hK pkX1_behind (As := []) (rest := []) (kX1_behind l g ad tk mem r12 h11) mL_X8_194 ⟨rfl, rfl, Nat.le_of_ble_eq_true rfl, Nat.le_of_ble_eq_true rfl, Nat.le_of_ble_eq_true rfl, Nat.le_of_ble_eq_true rfl⟩ 21 wX_21 rfl rfl rfl hl.1 rfl (Nat.le_of_ble_eq_true rfl) dX8_cut_39 (fun _ => ?_)
      refine lv_iconst (v := 4) hx hb dX8_cut_42 (by decide) ?_
      refine lv_icmp_lt (tgt := 53) hx hb dX8_cut_43 (by decide) (fun c13 => ?_) (fun c13 => ?_)
      · replace hF := (if_pos c13).symm.trans hF
        refine lv_aload_n hx hb dX8_cut_53 rfl (lv_at hl 1 rfl) ?_
        refine lv_iload_n hx hb dX8_cut_54 rfl (lv_at hl 0 rfl) ?_
        obtain ⟨r16, m15, h14, hF⟩ := ob2_some hF
        refine cV_Wi C0 eX_st hP hS hK pkX8_takeFloor (As := [.int r2]) (rest := []) (kX8_takeFloor l g ad tk mem r2 r16 m15 h14) mL_X8_191 ⟨rfl, rfl, Nat.le_of_ble_eq_true rfl, Nat.le_of_ble_eq_true rfl, Nat.le_of_ble_eq_true rfl, Nat.le_of_ble_eq_true rfl⟩ 0 wX_0 rfl rfl rfl hl.1 rfl (Nat.le_of_ble_eq_true rfl) dX8_cut_55 (fun H locs _ hP hS => ?_)
        cases hF
        exact ret_Wi C0 hP hS trivial dX8_cut_58
      · replace hF := (if_neg c13).symm.trans hF
        refine lv_aload_n hx hb dX8_cut_46 rfl (lv_at hl 1 rfl) ?_
        refine lv_ldc hx hb hown (hts _ mK_X8_89) dX8_cut_47 ?_
        obtain ⟨r19, m18, h17, hF⟩ := ob2_some hF
        refine cV_Wi C0 eX_st hP hS hK pkX8_finding (As := [.int (-100005)]) (rest := []) (kX8_finding l g ad tk mem (-100005) r19 m18 h17) mL_X8_81 ⟨rfl, rfl, Nat.le_of_ble_eq_true rfl, Nat.le_of_ble_eq_true rfl, Nat.le_of_ble_eq_true rfl, Nat.le_of_ble_eq_true rfl⟩ 0 wX_0 rfl rfl rfl hl.1 rfl (Nat.le_of_ble_eq_true rfl) dX8_cut_49 (fun H locs _ hP hS => ?_)
        cases hF
        exact ret_Wi C0 hP hS trivial dX8_cut_52
    · replace hF := (if_pos c10).symm.trans hF
      refine lv_aload_n hx hb dX8_cut_28 rfl (lv_at hl 1 rfl) ?_
      refine lv_ldc hx hb hown (hts _ mK_X8_137) dX8_cut_29 ?_
      obtain ⟨r22, m21, h20, hF⟩ := ob2_some hF
      refine cV_Wi C0 eX_st hP hS hK pkX8_finding (As := [.int (-100006)]) (rest := []) (kX8_finding l g ad tk mem (-100006) r22 m21 h20) mL_X8_81 ⟨rfl, rfl, Nat.le_of_ble_eq_true rfl, Nat.le_of_ble_eq_true rfl, Nat.le_of_ble_eq_true rfl, Nat.le_of_ble_eq_true rfl⟩ 0 wX_0 rfl rfl rfl hl.1 rfl (Nat.le_of_ble_eq_true rfl) dX8_cut_31 (fun H locs _ hP hS => ?_)
      cases hF
      exact ret_Wi C0 hP hS trivial dX8_cut_34
theorem pkX8_endHolding : pkV yX8_endHolding cX8_endHolding 1 (none) RX8 0 := ⟨mI_X8_endHolding, mS_X8_endHolding, mN_X8, mC_X8_endHolding, by decide +kernel⟩
def fX8_endHolding (mem : Mem) : Option (Mem) :=
  ob1 (fX1_holder mem) (fun r2 => ob1 (fX1_sortHeld mem) (fun r4 => ob1 (fX1_ticksHad mem) (fun r6 => ob1 (fX3_write mem r2 r4 r6) (fun m8 => ob1 (fX1_pop m8) (fun m10 => some m10)))))
set_option maxHeartbeats 4000000 in
set_option maxRecDepth 100000 in
theorem kX8_endHolding (l : Launch) (g : gG) (ad : Nat → Nat) (tk : Nat) (mem : Mem) (mem2 : Mem) (hF : fX8_endHolding mem = some mem2) : Met l yX8_endHolding (Cond.code yX8_endHolding cX8_endHolding 1 (none) :: gw) { frames := 3, cells := 0, slots := 0, locals := 64 } (pG (wX g ad mem) (eX g ad tk) g [.ref (ad 0)]) (qW (wX g ad mem2) g (AW 44 ad) (none) (True)) 0 0 (AW 44 ad) := by
  refine met_of (by decide) (Nat.le_of_ble_eq_true rfl) ?_
  intro p e s m args below meth c ls C0 hP hl
  obtain ⟨hx, hb, hml, hown, hts, hr, hlk, hE⟩ := id C0
  obtain ⟨hK, hN, hA, hZ, hT, hTA⟩ := id hE
  have hl : lv_has ls 1 [(0, .ref (ad 0))] := hl
  have hS : va_S (AW 44 ad) s.heap s.heap [] := va_S.rf
  unfold fX8_endHolding at hF
  refine lv_aload_n hx hb dX8_endHolding_0 rfl (lv_at hl 0 rfl) ?_
  refine get_W C0 hK hP iwX8 0 wX_0 rfl 7 (by decide) mF_X8_61 rfl rfl dX8_endHolding_1 ?_
  refine lv_aload_n hx hb dX8_endHolding_4 rfl (lv_at hl 0 rfl) ?_
  refine get_W C0 hK hP iwX8 0 wX_0 rfl 5 (by decide) mF_X8_47 rfl rfl dX8_endHolding_5 ?_
  obtain ⟨r2, h1, hF⟩ := ob_some hF
  refine cV_Ri C0 eX_st hP hS hK pkX1_holder (As := []) (rest := [.ref (ad 29)]) (kX1_holder l g ad tk mem r2 h1) mL_X8_197 ⟨rfl, rfl, Nat.le_of_ble_eq_true rfl, Nat.le_of_ble_eq_true rfl, Nat.le_of_ble_eq_true rfl, Nat.le_of_ble_eq_true rfl⟩ 21 wX_21 rfl rfl rfl hl.1 rfl (Nat.le_of_ble_eq_true rfl) dX8_endHolding_8 (fun _ => ?_)
  refine lv_aload_n hx hb dX8_endHolding_11 rfl (lv_at hl 0 rfl) ?_
  refine get_W C0 hK hP iwX8 0 wX_0 rfl 5 (by decide) mF_X8_47 rfl rfl dX8_endHolding_12 ?_
  obtain ⟨r4, h3, hF⟩ := ob_some hF
  refine cV_Ri C0 eX_st hP hS hK pkX1_sortHeld (As := []) (rest := [.int r2, .ref (ad 29)]) (kX1_sortHeld l g ad tk mem r4 h3) mL_X8_209 ⟨rfl, rfl, Nat.le_of_ble_eq_true rfl, Nat.le_of_ble_eq_true rfl, Nat.le_of_ble_eq_true rfl, Nat.le_of_ble_eq_true rfl⟩ 21 wX_21 rfl rfl rfl hl.1 rfl (Nat.le_of_ble_eq_true rfl) dX8_endHolding_15 (fun _ => ?_)
  refine lv_aload_n hx hb dX8_endHolding_18 rfl (lv_at hl 0 rfl) ?_
  refine get_W C0 hK hP iwX8 0 wX_0 rfl 5 (by decide) mF_X8_47 rfl rfl dX8_endHolding_19 ?_
  obtain ⟨r6, h5, hF⟩ := ob_some hF
  refine cV_Ri C0 eX_st hP hS hK pkX1_ticksHad (As := []) (rest := [.int r4, .int r2, .ref (ad 29)]) (kX1_ticksHad l g ad tk mem r6 h5) mL_X8_327 ⟨rfl, rfl, Nat.le_of_ble_eq_true rfl, Nat.le_of_ble_eq_true rfl, Nat.le_of_ble_eq_true rfl, Nat.le_of_ble_eq_true rfl⟩ 21 wX_21 rfl rfl rfl hl.1 rfl (Nat.le_of_ble_eq_true rfl) dX8_endHolding_22 (fun _ => ?_)
  obtain ⟨m8, h7, hF⟩ := ob_some hF
  refine cV_Wv C0 eX_st hP hS hK pkX3_write (As := [.int r2, .int r4, .int r6]) (rest := []) (kX3_write l g ad tk mem r2 r4 r6 m8 h7) mL_X8_330 ⟨rfl, rfl, Nat.le_of_ble_eq_true rfl, Nat.le_of_ble_eq_true rfl, Nat.le_of_ble_eq_true rfl, Nat.le_of_ble_eq_true rfl⟩ 29 wX_29 rfl rfl rfl hl.1 rfl (Nat.le_of_ble_eq_true rfl) dX8_endHolding_25 (fun H locs _ hP hS => ?_)
  refine lv_aload_n hx hb dX8_endHolding_28 rfl (lv_at hl 0 rfl) ?_
  refine get_W C0 hK hP iwX8 0 wX_0 rfl 5 (by decide) mF_X8_47 rfl rfl dX8_endHolding_29 ?_
  obtain ⟨m10, h9, hF⟩ := ob_some hF
  refine cV_Wv C0 eX_st hP hS hK pkX1_pop (As := []) (rest := []) (kX1_pop l g ad tk m8 m10 h9) mL_X8_333 ⟨rfl, rfl, Nat.le_of_ble_eq_true rfl, Nat.le_of_ble_eq_true rfl, Nat.le_of_ble_eq_true rfl, Nat.le_of_ble_eq_true rfl⟩ 21 wX_21 rfl rfl rfl hl.1 rfl (Nat.le_of_ble_eq_true rfl) dX8_endHolding_32 (fun H locs _ hP hS => ?_)
  cases hF
  exact ret_Wv C0 hP hS trivial dX8_endHolding_35
theorem pkX8_tick : pkV yX8_tick cX8_tick 4 (some .int) RX8 1 := ⟨mI_X8_tick, mS_X8_tick, mN_X8, mC_X8_tick, by decide +kernel⟩
def fX8_tick_21 (z1 : Int32) : Nat → Mem → Int32 → Int32 → Option (Int32 × Mem)
  | 0, _, _, _ => none
  | n + 1, mem, x2, x3 =>
    if z1 ≤ x3 then (some (x2, mem)) else (ob1 (fX1_isHeld mem) (fun r7 => if r7 = 0 then (some (x2, mem)) else (ob1 (fX1_holder mem) (fun r11 => ob1 (fX7_addTime 5 mem r11 1) (fun m13 => ob1 (fX1_spendTick m13) (fun m15 => ob1 (fX1_ticksLeft m15) (fun r17 => if 0 < r17 then (fX8_tick_21 z1 n m15 (x2 + 1) (x3 + 1)) else (ob1 (fX8_endHolding m15) (fun m20 => fX8_tick_21 z1 n m20 (x2 + 1) (x3 + 1))))))))))
set_option maxHeartbeats 4000000 in
set_option maxRecDepth 100000 in
theorem lpX8_tick_21 {p : Program} {l : Launch} {e : Env} {s : State} {m : MethodId} {args : Array Value} {below : List Frame} {meth : Method} {c : Code} (g : gG) (ad : Nat → Nat) (tk : Nat) (z1 : Int32) (r : Int32) (mem2 : Mem) (C0 : cxt (eX g ad tk) cX8_tick 4 RX8 (some .int) p s m args meth c) :
    ∀ (n : Nat) (mem : Mem) (x2 : Int32) (x3 : Int32) (H : Heap) (locs : List Loc) (ls : Array Slot), fX8_tick_21 z1 n mem x2 x3 = some (r, mem2) → va_P g.1 vwCl (wX g ad mem) H → va_S (AW 44 ad) s.heap H locs → lv_has ls 4 [(0, .ref (ad 0)), (1, .int z1), (2, .int x2), (3, .int x3)] → W p l e { frames := 4, cells := 0, slots := 0, locals := 84 } s m args below meth c H locs 0 0 (MQ below (qW (wX g ad mem2) g (AW 44 ad) (some (.int r)) (True)) args s 0 0 (AW 44 ad)) (F0 m 21 ls []) := by
  obtain ⟨hx, hb, hml, hown, hts, hr, hlk, hE⟩ := id C0
  obtain ⟨hK, hN, hA, hZ, hT, hTA⟩ := id hE
  intro n
  induction n with
  | zero =>
    intro mem x2 x3 H locs ls hF hP hS hl
    cases hF
  | succ n ih =>
    intro mem x2 x3 H locs ls hF hP hS hl
    rw [fX8_tick_21] at hF
    refine lv_iload_n hx hb dX8_tick_21 rfl (lv_at hl 3 rfl) ?_
    refine lv_iload_n hx hb dX8_tick_22 rfl (lv_at hl 1 rfl) ?_
    refine lv_icmp_ge (tgt := 81) hx hb dX8_tick_23 (by decide) (fun c5 => ?_) (fun c5 => ?_)
    · replace hF := (if_pos c5).symm.trans hF
      refine lv_iload_n hx hb dX8_tick_81 rfl (lv_at hl 2 rfl) ?_
      cases hF
      exact ret_Wi C0 hP hS trivial dX8_tick_82
    · replace hF := (if_neg c5).symm.trans hF
      refine lv_aload_n hx hb dX8_tick_26 rfl (lv_at hl 0 rfl) ?_
      refine get_W C0 hK hP iwX8 0 wX_0 rfl 5 (by decide) mF_X8_47 rfl rfl dX8_tick_27 ?_
      obtain ⟨r7, h6, hF⟩ := ob_some hF
      refine cV_Ri C0 eX_st hP hS hK pkX1_isHeld (As := []) (rest := []) (kX1_isHeld l g ad tk mem r7 h6) mL_X8_186 ⟨rfl, rfl, Nat.le_of_ble_eq_true rfl, Nat.le_of_ble_eq_true rfl, Nat.le_of_ble_eq_true rfl, Nat.le_of_ble_eq_true rfl⟩ 21 wX_21 rfl rfl rfl hl.1 rfl (Nat.le_of_ble_eq_true rfl) dX8_tick_30 (fun b8 => ?_)
      refine lv_if_eq (tgt := 81) hx hb dX8_tick_33 (by decide) (fun c9 => ?_) (fun c9 => ?_)
      · replace hF := (if_pos c9).symm.trans hF
        refine lv_iload_n hx hb dX8_tick_81 rfl (lv_at hl 2 rfl) ?_
        cases hF
        exact ret_Wi C0 hP hS trivial dX8_tick_82
      · replace hF := (if_neg c9).symm.trans hF
        refine lv_aload_n hx hb dX8_tick_36 rfl (lv_at hl 0 rfl) ?_
        refine get_W C0 hK hP iwX8 0 wX_0 rfl 1 (by decide) mF_X8_21 rfl rfl dX8_tick_37 ?_
        refine lv_aload_n hx hb dX8_tick_40 rfl (lv_at hl 0 rfl) ?_
        refine get_W C0 hK hP iwX8 0 wX_0 rfl 5 (by decide) mF_X8_47 rfl rfl dX8_tick_41 ?_
        obtain ⟨r11, h10, hF⟩ := ob_some hF
        refine cV_Ri C0 eX_st hP hS hK pkX1_holder (As := []) (rest := [.ref (ad 5)]) (kX1_holder l g ad tk mem r11 h10) mL_X8_197 ⟨rfl, rfl, Nat.le_of_ble_eq_true rfl, Nat.le_of_ble_eq_true rfl, Nat.le_of_ble_eq_true rfl, Nat.le_of_ble_eq_true rfl⟩ 21 wX_21 rfl rfl rfl hl.1 rfl (Nat.le_of_ble_eq_true rfl) dX8_tick_44 (fun _ => ?_)
        refine lv_iconst (v := 1) hx hb dX8_tick_47 (by decide) ?_
        obtain ⟨m13, h12, hF⟩ := ob_some hF
        refine cV_Wv C0 eX_st hP hS hK pkX7_addTime (As := [.int r11, .int 1]) (rest := []) (kX7_addTime l g ad tk mem 5 (by decide) r11 1 m13 h12) mL_X8_182 ⟨rfl, rfl, Nat.le_of_ble_eq_true rfl, Nat.le_of_ble_eq_true rfl, Nat.le_of_ble_eq_true rfl, Nat.le_of_ble_eq_true rfl⟩ 5 wX_5 rfl rfl rfl hl.1 rfl (Nat.le_of_ble_eq_true rfl) dX8_tick_48 (fun H locs _ hP hS => ?_)
        refine lv_aload_n hx hb dX8_tick_51 rfl (lv_at hl 0 rfl) ?_
        refine get_W C0 hK hP iwX8 0 wX_0 rfl 5 (by decide) mF_X8_47 rfl rfl dX8_tick_52 ?_
        obtain ⟨m15, h14, hF⟩ := ob_some hF
        refine cV_Wv C0 eX_st hP hS hK pkX1_spendTick (As := []) (rest := []) (kX1_spendTick l g ad tk m13 m15 h14) mL_X8_200 ⟨rfl, rfl, Nat.le_of_ble_eq_true rfl, Nat.le_of_ble_eq_true rfl, Nat.le_of_ble_eq_true rfl, Nat.le_of_ble_eq_true rfl⟩ 21 wX_21 rfl rfl rfl hl.1 rfl (Nat.le_of_ble_eq_true rfl) dX8_tick_55 (fun H locs _ hP hS => ?_)
        refine lv_aload_n hx hb dX8_tick_58 rfl (lv_at hl 0 rfl) ?_
        refine get_W C0 hK hP iwX8 0 wX_0 rfl 5 (by decide) mF_X8_47 rfl rfl dX8_tick_59 ?_
        obtain ⟨r17, h16, hF⟩ := ob_some hF
        refine cV_Ri C0 eX_st hP hS hK pkX1_ticksLeft (As := []) (rest := []) (kX1_ticksLeft l g ad tk m15 r17 h16) mL_X8_203 ⟨rfl, rfl, Nat.le_of_ble_eq_true rfl, Nat.le_of_ble_eq_true rfl, Nat.le_of_ble_eq_true rfl, Nat.le_of_ble_eq_true rfl⟩ 21 wX_21 rfl rfl rfl hl.1 rfl (Nat.le_of_ble_eq_true rfl) dX8_tick_62 (fun _ => ?_)
        refine lv_if_gt (tgt := 72) hx hb dX8_tick_65 (by decide) (fun c18 => ?_) (fun c18 => ?_)
        · replace hF := (if_pos c18).symm.trans hF
          refine lv_iinc (v := x2 + 1) (lv' := [(2, .int (x2 + 1)), (0, .ref (ad 0)), (1, .int z1), (3, .int x3)]) hx hb dX8_tick_72 hl (k := 2) rfl rfl (by decide) rfl (fun ls hl => ?_)
          refine lv_iinc (v := x3 + 1) (lv' := [(3, .int (x3 + 1)), (2, .int (x2 + 1)), (0, .ref (ad 0)), (1, .int z1)]) hx hb dX8_tick_75 hl (k := 3) rfl rfl (by decide) rfl (fun ls hl => ?_)
          refine lv_goto (tgt := 21) hx hb dX8_tick_78 (by decide) ?_
          exact ih m15 (x2 + 1) (x3 + 1) _ _ ls hF hP hS (lv_sub hl [2, 3, 1, 0] rfl)
        · replace hF := (if_neg c18).symm.trans hF
          refine lv_aload_n hx hb dX8_tick_68 rfl (lv_at hl 0 rfl) ?_
          obtain ⟨m20, h19, hF⟩ := ob_some hF
          refine cV_Wv C0 eX_st hP hS hK pkX8_endHolding (As := []) (rest := []) (kX8_endHolding l g ad tk m15 m20 h19) mL_X8_206 ⟨rfl, rfl, Nat.le_of_ble_eq_true rfl, Nat.le_of_ble_eq_true rfl, Nat.le_of_ble_eq_true rfl, Nat.le_of_ble_eq_true rfl⟩ 0 wX_0 rfl rfl rfl hl.1 rfl (Nat.le_of_ble_eq_true rfl) dX8_tick_69 (fun H locs _ hP hS => ?_)
          refine lv_iinc (v := x2 + 1) (lv' := [(2, .int (x2 + 1)), (0, .ref (ad 0)), (1, .int z1), (3, .int x3)]) hx hb dX8_tick_72 hl (k := 2) rfl rfl (by decide) rfl (fun ls hl => ?_)
          refine lv_iinc (v := x3 + 1) (lv' := [(3, .int (x3 + 1)), (2, .int (x2 + 1)), (0, .ref (ad 0)), (1, .int z1)]) hx hb dX8_tick_75 hl (k := 3) rfl rfl (by decide) rfl (fun ls hl => ?_)
          refine lv_goto (tgt := 21) hx hb dX8_tick_78 (by decide) ?_
          exact ih m20 (x2 + 1) (x3 + 1) _ _ ls hF hP hS (lv_sub hl [2, 3, 1, 0] rfl)
def fX8_tick (mem : Mem) (a1 : Int32) : Option (Int32 × Mem) :=
  ob1 (fX8_isWithin a1 1 100) (fun r2 => if r2 = 0 then (ob2 (fX8_finding mem (-100001)) (fun r23 m22 => some (r23, m22))) else (fX8_tick_21 a1 fu mem 0 0))
set_option maxHeartbeats 4000000 in
set_option maxRecDepth 100000 in
theorem kX8_tick (l : Launch) (g : gG) (ad : Nat → Nat) (tk : Nat) (mem : Mem) (a1 : Int32) (r : Int32) (mem2 : Mem) (hF : fX8_tick mem a1 = some (r, mem2)) : Met l yX8_tick (Cond.code yX8_tick cX8_tick 4 (some .int) :: gw) { frames := 4, cells := 0, slots := 0, locals := 84 } (pG (wX g ad mem) (eX g ad tk) g [.ref (ad 0), .int a1]) (qW (wX g ad mem2) g (AW 44 ad) (some (.int r)) (True)) 0 0 (AW 44 ad) := by
  refine met_of (by decide) (Nat.le_of_ble_eq_true rfl) ?_
  intro p e s m args below meth c ls C0 hP hl
  obtain ⟨hx, hb, hml, hown, hts, hr, hlk, hE⟩ := id C0
  obtain ⟨hK, hN, hA, hZ, hT, hTA⟩ := id hE
  have hl : lv_has ls 4 [(0, .ref (ad 0)), (1, .int a1)] := hl
  have hS : va_S (AW 44 ad) s.heap s.heap [] := va_S.rf
  unfold fX8_tick at hF
  refine lv_iload_n hx hb dX8_tick_0 rfl (lv_at hl 1 rfl) ?_
  refine lv_iconst (v := 1) hx hb dX8_tick_1 (by decide) ?_
  refine lv_bipush (v := 100) hx hb dX8_tick_2 (by decide) ?_
  obtain ⟨r2, h1, hF⟩ := ob_some hF
  refine cS_Ri C0 pkX8_isWithin (As := [.int a1, .int 1, .int 100]) (rest := []) (kX8_isWithin l g a1 1 100 r2 h1) mL_X8_76 ⟨rfl, rfl, Nat.le_of_ble_eq_true rfl, Nat.le_of_ble_eq_true rfl, Nat.le_of_ble_eq_true rfl, Nat.le_of_ble_eq_true rfl⟩ rfl hl.1 rfl (Nat.le_of_ble_eq_true rfl) dX8_tick_4 (fun b3 => ?_)
  refine lv_if_ne (tgt := 17) hx hb dX8_tick_7 (by decide) (fun c4 => ?_) (fun c4 => ?_)
  · replace hF := (if_neg c4).symm.trans hF
    refine lv_iconst (v := 0) hx hb dX8_tick_17 (by decide) ?_
    refine lv_istore_n (lv' := [(2, .int 0), (0, .ref (ad 0)), (1, .int a1)]) hx hb dX8_tick_18 rfl hl (by decide) rfl (fun ls hl => ?_)
    refine lv_iconst (v := 0) hx hb dX8_tick_19 (by decide) ?_
    refine lv_istore_n (lv' := [(3, .int 0), (2, .int 0), (0, .ref (ad 0)), (1, .int a1)]) hx hb dX8_tick_20 rfl hl (by decide) rfl (fun ls hl => ?_)
    exact lpX8_tick_21 g ad tk a1 r mem2 C0 fu mem 0 0 _ _ ls hF hP hS (lv_sub hl [2, 3, 1, 0] rfl)
  · replace hF := (if_pos c4).symm.trans hF
    refine lv_aload_n hx hb dX8_tick_10 rfl (lv_at hl 0 rfl) ?_
    refine lv_ldc hx hb hown (hts _ mK_X8_80) dX8_tick_11 ?_
    obtain ⟨r23, m22, h21, hF⟩ := ob2_some hF
    refine cV_Wi C0 eX_st hP hS hK pkX8_finding (As := [.int (-100001)]) (rest := []) (kX8_finding l g ad tk mem (-100001) r23 m22 h21) mL_X8_81 ⟨rfl, rfl, Nat.le_of_ble_eq_true rfl, Nat.le_of_ble_eq_true rfl, Nat.le_of_ble_eq_true rfl, Nat.le_of_ble_eq_true rfl⟩ 0 wX_0 rfl rfl rfl hl.1 rfl (Nat.le_of_ble_eq_true rfl) dX8_tick_13 (fun H locs _ hP hS => ?_)
    cases hF
    exact ret_Wi C0 hP hS trivial dX8_tick_16
theorem pkX8_yield : pkV yX8_yield cX8_yield 1 (some .int) RX8 0 := ⟨mI_X8_yield, mS_X8_yield, mN_X8, mC_X8_yield, by decide +kernel⟩
def fX8_yield (mem : Mem) : Option (Int32 × Mem) :=
  ob1 (fX1_isHeld mem) (fun r2 => if r2 = 0 then (ob2 (fX8_finding mem (-100006)) (fun r11 m10 => some (r11, m10))) else (ob1 (fX8_endHolding mem) (fun m6 => ob1 (fX1_holder m6) (fun r8 => some (r8, m6)))))
set_option maxHeartbeats 4000000 in
set_option maxRecDepth 100000 in
theorem kX8_yield (l : Launch) (g : gG) (ad : Nat → Nat) (tk : Nat) (mem : Mem) (r : Int32) (mem2 : Mem) (hF : fX8_yield mem = some (r, mem2)) : Met l yX8_yield (Cond.code yX8_yield cX8_yield 1 (some .int) :: gw) { frames := 4, cells := 0, slots := 0, locals := 84 } (pG (wX g ad mem) (eX g ad tk) g [.ref (ad 0)]) (qW (wX g ad mem2) g (AW 44 ad) (some (.int r)) (True)) 0 0 (AW 44 ad) := by
  refine met_of (by decide) (Nat.le_of_ble_eq_true rfl) ?_
  intro p e s m args below meth c ls C0 hP hl
  obtain ⟨hx, hb, hml, hown, hts, hr, hlk, hE⟩ := id C0
  obtain ⟨hK, hN, hA, hZ, hT, hTA⟩ := id hE
  have hl : lv_has ls 1 [(0, .ref (ad 0))] := hl
  have hS : va_S (AW 44 ad) s.heap s.heap [] := va_S.rf
  unfold fX8_yield at hF
  refine lv_aload_n hx hb dX8_yield_0 rfl (lv_at hl 0 rfl) ?_
  refine get_W C0 hK hP iwX8 0 wX_0 rfl 5 (by decide) mF_X8_47 rfl rfl dX8_yield_1 ?_
  obtain ⟨r2, h1, hF⟩ := ob_some hF
  refine cV_Ri C0 eX_st hP hS hK pkX1_isHeld (As := []) (rest := []) (kX1_isHeld l g ad tk mem r2 h1) mL_X8_186 ⟨rfl, rfl, Nat.le_of_ble_eq_true rfl, Nat.le_of_ble_eq_true rfl, Nat.le_of_ble_eq_true rfl, Nat.le_of_ble_eq_true rfl⟩ 21 wX_21 rfl rfl rfl hl.1 rfl (Nat.le_of_ble_eq_true rfl) dX8_yield_4 (fun b3 => ?_)
  refine lv_if_ne (tgt := 17) hx hb dX8_yield_7 (by decide) (fun c4 => ?_) (fun c4 => ?_)
  · replace hF := (if_neg c4).symm.trans hF
    refine lv_aload_n hx hb dX8_yield_17 rfl (lv_at hl 0 rfl) ?_
    obtain ⟨m6, h5, hF⟩ := ob_some hF
    refine cV_Wv C0 eX_st hP hS hK pkX8_endHolding (As := []) (rest := []) (kX8_endHolding l g ad tk mem m6 h5) mL_X8_206 ⟨rfl, rfl, Nat.le_of_ble_eq_true rfl, Nat.le_of_ble_eq_true rfl, Nat.le_of_ble_eq_true rfl, Nat.le_of_ble_eq_true rfl⟩ 0 wX_0 rfl rfl rfl hl.1 rfl (Nat.le_of_ble_eq_true rfl) dX8_yield_18 (fun H locs _ hP hS => ?_)
    refine lv_aload_n hx hb dX8_yield_21 rfl (lv_at hl 0 rfl) ?_
    refine get_W C0 hK hP iwX8 0 wX_0 rfl 5 (by decide) mF_X8_47 rfl rfl dX8_yield_22 ?_
    obtain ⟨r8, h7, hF⟩ := ob_some hF
    refine cV_Ri C0 eX_st hP hS hK pkX1_holder (As := []) (rest := []) (kX1_holder l g ad tk m6 r8 h7) mL_X8_197 ⟨rfl, rfl, Nat.le_of_ble_eq_true rfl, Nat.le_of_ble_eq_true rfl, Nat.le_of_ble_eq_true rfl, Nat.le_of_ble_eq_true rfl⟩ 21 wX_21 rfl rfl rfl hl.1 rfl (Nat.le_of_ble_eq_true rfl) dX8_yield_25 (fun _ => ?_)
    cases hF
    exact ret_Wi C0 hP hS trivial dX8_yield_28
  · replace hF := (if_pos c4).symm.trans hF
    refine lv_aload_n hx hb dX8_yield_10 rfl (lv_at hl 0 rfl) ?_
    refine lv_ldc hx hb hown (hts _ mK_X8_137) dX8_yield_11 ?_
    obtain ⟨r11, m10, h9, hF⟩ := ob2_some hF
    refine cV_Wi C0 eX_st hP hS hK pkX8_finding (As := [.int (-100006)]) (rest := []) (kX8_finding l g ad tk mem (-100006) r11 m10 h9) mL_X8_81 ⟨rfl, rfl, Nat.le_of_ble_eq_true rfl, Nat.le_of_ble_eq_true rfl, Nat.le_of_ble_eq_true rfl, Nat.le_of_ble_eq_true rfl⟩ 0 wX_0 rfl rfl rfl hl.1 rfl (Nat.le_of_ble_eq_true rfl) dX8_yield_13 (fun H locs _ hP hS => ?_)
    cases hF
    exact ret_Wi C0 hP hS trivial dX8_yield_16
theorem pkX8_floor : pkV yX8_floor cX8_floor 2 (some .int) RX8 1 := ⟨mI_X8_floor, mS_X8_floor, mN_X8, mC_X8_floor, by decide +kernel⟩
def fX8_floor (mem : Mem) (a1 : Int32) : Option (Int32 × Mem) :=
  ob1 (fX8_isWithin a1 0 3) (fun r2 => if r2 = 0 then (ob2 (fX8_finding mem (-100001)) (fun r25 m24 => some (r25, m24))) else (if a1 = 3 then (ob1 (fX1_behind mem) (fun r22 => some (r22, mem))) else (ob1 (fX1_isHeld mem) (fun r7 => if r7 = 0 then (ob2 (fX8_finding mem (-100006)) (fun r20 m19 => some (r20, m19))) else (if a1 = 0 then (ob1 (fX1_holder mem) (fun r12 => some (r12, mem))) else (if a1 = 1 then (ob1 (fX1_sortHeld mem) (fun r15 => some (r15, mem))) else (ob1 (fX1_ticksLeft mem) (fun r17 => some (r17, mem)))))))))
set_option maxHeartbeats 4000000 in
set_option maxRecDepth 100000 in
theorem kX8_floor (l : Launch) (g : gG) (ad : Nat → Nat) (tk : Nat) (mem : Mem) (a1 : Int32) (r : Int32) (mem2 : Mem) (hF : fX8_floor mem a1 = some (r, mem2)) : Met l yX8_floor (Cond.code yX8_floor cX8_floor 2 (some .int) :: gw) { frames := 3, cells := 0, slots := 0, locals := 64 } (pG (wX g ad mem) (eX g ad tk) g [.ref (ad 0), .int a1]) (qW (wX g ad mem2) g (AW 44 ad) (some (.int r)) (True)) 0 0 (AW 44 ad) := by
  refine met_of (by decide) (Nat.le_of_ble_eq_true rfl) ?_
  intro p e s m args below meth c ls C0 hP hl
  obtain ⟨hx, hb, hml, hown, hts, hr, hlk, hE⟩ := id C0
  obtain ⟨hK, hN, hA, hZ, hT, hTA⟩ := id hE
  have hl : lv_has ls 2 [(0, .ref (ad 0)), (1, .int a1)] := hl
  have hS : va_S (AW 44 ad) s.heap s.heap [] := va_S.rf
  unfold fX8_floor at hF
  refine lv_iload_n hx hb dX8_floor_0 rfl (lv_at hl 1 rfl) ?_
  refine lv_iconst (v := 0) hx hb dX8_floor_1 (by decide) ?_
  refine lv_iconst (v := 3) hx hb dX8_floor_2 (by decide) ?_
  obtain ⟨r2, h1, hF⟩ := ob_some hF
  refine cS_Ri C0 pkX8_isWithin (As := [.int a1, .int 0, .int 3]) (rest := []) (kX8_isWithin l g a1 0 3 r2 h1) mL_X8_76 ⟨rfl, rfl, Nat.le_of_ble_eq_true rfl, Nat.le_of_ble_eq_true rfl, Nat.le_of_ble_eq_true rfl, Nat.le_of_ble_eq_true rfl⟩ rfl hl.1 rfl (Nat.le_of_ble_eq_true rfl) dX8_floor_3 (fun b3 => ?_)
  refine lv_if_ne (tgt := 16) hx hb dX8_floor_6 (by decide) (fun c4 => ?_) (fun c4 => ?_)
  · replace hF := (if_neg c4).symm.trans hF
    refine lv_iload_n hx hb dX8_floor_16 rfl (lv_at hl 1 rfl) ?_
    refine lv_iconst (v := 3) hx hb dX8_floor_17 (by decide) ?_
    refine lv_icmp_ne (tgt := 29) hx hb dX8_floor_18 (by decide) (fun c5 => ?_) (fun c5 => ?_)
    · replace hF := (if_neg c5).symm.trans hF
      refine lv_aload_n hx hb dX8_floor_29 rfl (lv_at hl 0 rfl) ?_
      refine get_W C0 hK hP iwX8 0 wX_0 rfl 5 (by decide) mF_X8_47 rfl rfl dX8_floor_30 ?_
      obtain ⟨r7, h6, hF⟩ := ob_some hF
      refine cV_Ri C0 eX_st hP hS hK pkX1_isHeld (As := []) (rest := []) (kX1_isHeld l g ad tk mem r7 h6) mL_X8_186 ⟨rfl, rfl, Nat.le_of_ble_eq_true rfl, Nat.le_of_ble_eq_true rfl, Nat.le_of_ble_eq_true rfl, Nat.le_of_ble_eq_true rfl⟩ 21 wX_21 rfl rfl rfl hl.1 rfl (Nat.le_of_ble_eq_true rfl) dX8_floor_33 (fun b8 => ?_)
      refine lv_if_ne (tgt := 46) hx hb dX8_floor_36 (by decide) (fun c9 => ?_) (fun c9 => ?_)
      · replace hF := (if_neg c9).symm.trans hF
        refine lv_iload_n hx hb dX8_floor_46 rfl (lv_at hl 1 rfl) ?_
        by_cases c10 : a1 = 0
        · replace hF := (if_pos c10).symm.trans hF
          refine lv_lookup (off := 25) (tgt := 72) hx hb dX8_floor_47 (by decide) (by rw [c10]; rfl) (by decide) ?_
          refine lv_aload_n hx hb dX8_floor_72 rfl (lv_at hl 0 rfl) ?_
          refine get_W C0 hK hP iwX8 0 wX_0 rfl 5 (by decide) mF_X8_47 rfl rfl dX8_floor_73 ?_
          obtain ⟨r12, h11, hF⟩ := ob_some hF
          refine cV_Ri C0 eX_st hP hS hK pkX1_holder (As := []) (rest := []) (kX1_holder l g ad tk mem r12 h11) mL_X8_197 ⟨rfl, rfl, Nat.le_of_ble_eq_true rfl, Nat.le_of_ble_eq_true rfl, Nat.le_of_ble_eq_true rfl, Nat.le_of_ble_eq_true rfl⟩ 21 wX_21 rfl rfl rfl hl.1 rfl (Nat.le_of_ble_eq_true rfl) dX8_floor_76 (fun _ => ?_)
          cases hF
          exact ret_Wi C0 hP hS trivial dX8_floor_79
        replace hF := (if_neg c10).symm.trans hF
        by_cases c13 : a1 = 1
        · replace hF := (if_pos c13).symm.trans hF
          refine lv_lookup (off := 33) (tgt := 80) hx hb dX8_floor_47 (by decide) (by rw [c13]; rfl) (by decide) ?_
          refine lv_aload_n hx hb dX8_floor_80 rfl (lv_at hl 0 rfl) ?_
          refine get_W C0 hK hP iwX8 0 wX_0 rfl 5 (by decide) mF_X8_47 rfl rfl dX8_floor_81 ?_
          obtain ⟨r15, h14, hF⟩ := ob_some hF
          refine cV_Ri C0 eX_st hP hS hK pkX1_sortHeld (As := []) (rest := []) (kX1_sortHeld l g ad tk mem r15 h14) mL_X8_209 ⟨rfl, rfl, Nat.le_of_ble_eq_true rfl, Nat.le_of_ble_eq_true rfl, Nat.le_of_ble_eq_true rfl, Nat.le_of_ble_eq_true rfl⟩ 21 wX_21 rfl rfl rfl hl.1 rfl (Nat.le_of_ble_eq_true rfl) dX8_floor_84 (fun _ => ?_)
          cases hF
          exact ret_Wi C0 hP hS trivial dX8_floor_87
        replace hF := (if_neg c13).symm.trans hF
        refine lv_lookup (off := 41) (tgt := 88) hx hb dX8_floor_47 (by decide) (by rw [show (#[(0, 25), (1, 33)] : Array (Int × Int)).toList = [(0, 25), (1, 33)] from rfl, lv_osw c10 (a := 0) (by decide), lv_osw c13 (a := 1) (by decide)]; rfl) (by decide) ?_
        refine lv_aload_n hx hb dX8_floor_88 rfl (lv_at hl 0 rfl) ?_
        refine get_W C0 hK hP iwX8 0 wX_0 rfl 5 (by decide) mF_X8_47 rfl rfl dX8_floor_89 ?_
        obtain ⟨r17, h16, hF⟩ := ob_some hF
        refine cV_Ri C0 eX_st hP hS hK pkX1_ticksLeft (As := []) (rest := []) (kX1_ticksLeft l g ad tk mem r17 h16) mL_X8_203 ⟨rfl, rfl, Nat.le_of_ble_eq_true rfl, Nat.le_of_ble_eq_true rfl, Nat.le_of_ble_eq_true rfl, Nat.le_of_ble_eq_true rfl⟩ 21 wX_21 rfl rfl rfl hl.1 rfl (Nat.le_of_ble_eq_true rfl) dX8_floor_92 (fun _ => ?_)
        cases hF
        exact ret_Wi C0 hP hS trivial dX8_floor_95
      · replace hF := (if_pos c9).symm.trans hF
        refine lv_aload_n hx hb dX8_floor_39 rfl (lv_at hl 0 rfl) ?_
        refine lv_ldc hx hb hown (hts _ mK_X8_137) dX8_floor_40 ?_
        obtain ⟨r20, m19, h18, hF⟩ := ob2_some hF
        refine cV_Wi C0 eX_st hP hS hK pkX8_finding (As := [.int (-100006)]) (rest := []) (kX8_finding l g ad tk mem (-100006) r20 m19 h18) mL_X8_81 ⟨rfl, rfl, Nat.le_of_ble_eq_true rfl, Nat.le_of_ble_eq_true rfl, Nat.le_of_ble_eq_true rfl, Nat.le_of_ble_eq_true rfl⟩ 0 wX_0 rfl rfl rfl hl.1 rfl (Nat.le_of_ble_eq_true rfl) dX8_floor_42 (fun H locs _ hP hS => ?_)
        cases hF
        exact ret_Wi C0 hP hS trivial dX8_floor_45
    · replace hF := (if_pos c5).symm.trans hF
      refine lv_aload_n hx hb dX8_floor_21 rfl (lv_at hl 0 rfl) ?_
      refine get_W C0 hK hP iwX8 0 wX_0 rfl 5 (by decide) mF_X8_47 rfl rfl dX8_floor_22 ?_
      obtain ⟨r22, h21, hF⟩ := ob_some hF
      refine cV_Ri C0 eX_st hP hS hK pkX1_behind (As := []) (rest := []) (kX1_behind l g ad tk mem r22 h21) mL_X8_194 ⟨rfl, rfl, Nat.le_of_ble_eq_true rfl, Nat.le_of_ble_eq_true rfl, Nat.le_of_ble_eq_true rfl, Nat.le_of_ble_eq_true rfl⟩ 21 wX_21 rfl rfl rfl hl.1 rfl (Nat.le_of_ble_eq_true rfl) dX8_floor_25 (fun _ => ?_)
      cases hF
      exact ret_Wi C0 hP hS trivial dX8_floor_28
  · replace hF := (if_pos c4).symm.trans hF
    refine lv_aload_n hx hb dX8_floor_9 rfl (lv_at hl 0 rfl) ?_
    refine lv_ldc hx hb hown (hts _ mK_X8_80) dX8_floor_10 ?_
    obtain ⟨r25, m24, h23, hF⟩ := ob2_some hF
    refine cV_Wi C0 eX_st hP hS hK pkX8_finding (As := [.int (-100001)]) (rest := []) (kX8_finding l g ad tk mem (-100001) r25 m24 h23) mL_X8_81 ⟨rfl, rfl, Nat.le_of_ble_eq_true rfl, Nat.le_of_ble_eq_true rfl, Nat.le_of_ble_eq_true rfl, Nat.le_of_ble_eq_true rfl⟩ 0 wX_0 rfl rfl rfl hl.1 rfl (Nat.le_of_ble_eq_true rfl) dX8_floor_12 (fun H locs _ hP hS => ?_)
    cases hF
    exact ret_Wi C0 hP hS trivial dX8_floor_15
theorem pkX8_limit : pkV yX8_limit cX8_limit 4 (some .int) RX8 2 := ⟨mI_X8_limit, mS_X8_limit, mN_X8, mC_X8_limit, by decide +kernel⟩
def fX8_limit (mem : Mem) (a1 : Int32) (a2 : Int32) : Option (Int32 × Mem) :=
  ob1 (fX8_isWithin a1 0 2) (fun r2 => if r2 = 0 then (ob2 (fX8_finding mem (-100001)) (fun r7 m6 => some (r7, m6))) else (ob1 (fX8_isWithin a2 1 50) (fun r9 => if r9 = 0 then (ob2 (fX8_finding mem (-100001)) (fun r18 m17 => some (r18, m17))) else (ob1 (fX1_limitOf mem a1) (fun r13 => ob1 (fX1_setLimit mem a1 a2) (fun m15 => some (r13, m15)))))))
set_option maxHeartbeats 4000000 in
set_option maxRecDepth 100000 in
theorem kX8_limit (l : Launch) (g : gG) (ad : Nat → Nat) (tk : Nat) (mem : Mem) (a1 : Int32) (a2 : Int32) (r : Int32) (mem2 : Mem) (hF : fX8_limit mem a1 a2 = some (r, mem2)) : Met l yX8_limit (Cond.code yX8_limit cX8_limit 4 (some .int) :: gw) { frames := 3, cells := 0, slots := 0, locals := 60 } (pG (wX g ad mem) (eX g ad tk) g [.ref (ad 0), .int a1, .int a2]) (qW (wX g ad mem2) g (AW 44 ad) (some (.int r)) (True)) 0 0 (AW 44 ad) := by
  refine met_of (by decide) (Nat.le_of_ble_eq_true rfl) ?_
  intro p e s m args below meth c ls C0 hP hl
  obtain ⟨hx, hb, hml, hown, hts, hr, hlk, hE⟩ := id C0
  obtain ⟨hK, hN, hA, hZ, hT, hTA⟩ := id hE
  have hl : lv_has ls 4 [(0, .ref (ad 0)), (1, .int a1), (2, .int a2)] := hl
  have hS : va_S (AW 44 ad) s.heap s.heap [] := va_S.rf
  unfold fX8_limit at hF
  refine lv_iload_n hx hb dX8_limit_0 rfl (lv_at hl 1 rfl) ?_
  refine lv_iconst (v := 0) hx hb dX8_limit_1 (by decide) ?_
  refine lv_iconst (v := 2) hx hb dX8_limit_2 (by decide) ?_
  obtain ⟨r2, h1, hF⟩ := ob_some hF
  refine cS_Ri C0 pkX8_isWithin (As := [.int a1, .int 0, .int 2]) (rest := []) (kX8_isWithin l g a1 0 2 r2 h1) mL_X8_76 ⟨rfl, rfl, Nat.le_of_ble_eq_true rfl, Nat.le_of_ble_eq_true rfl, Nat.le_of_ble_eq_true rfl, Nat.le_of_ble_eq_true rfl⟩ rfl hl.1 rfl (Nat.le_of_ble_eq_true rfl) dX8_limit_3 (fun b3 => ?_)
  refine lv_if_eq (tgt := 19) hx hb dX8_limit_6 (by decide) (fun c4 => ?_) (fun c4 => ?_)
  · replace hF := (if_pos c4).symm.trans hF
    refine lv_aload_n hx hb dX8_limit_19 rfl (lv_at hl 0 rfl) ?_
    refine lv_ldc hx hb hown (hts _ mK_X8_80) dX8_limit_20 ?_
    obtain ⟨r7, m6, h5, hF⟩ := ob2_some hF
    refine cV_Wi C0 eX_st hP hS hK pkX8_finding (As := [.int (-100001)]) (rest := []) (kX8_finding l g ad tk mem (-100001) r7 m6 h5) mL_X8_81 ⟨rfl, rfl, Nat.le_of_ble_eq_true rfl, Nat.le_of_ble_eq_true rfl, Nat.le_of_ble_eq_true rfl, Nat.le_of_ble_eq_true rfl⟩ 0 wX_0 rfl rfl rfl hl.1 rfl (Nat.le_of_ble_eq_true rfl) dX8_limit_22 (fun H locs _ hP hS => ?_)
    cases hF
    exact ret_Wi C0 hP hS trivial dX8_limit_25
  · replace hF := (if_neg c4).symm.trans hF
    refine lv_iload_n hx hb dX8_limit_9 rfl (lv_at hl 2 rfl) ?_
    refine lv_iconst (v := 1) hx hb dX8_limit_10 (by decide) ?_
    refine lv_bipush (v := 50) hx hb dX8_limit_11 (by decide) ?_
    obtain ⟨r9, h8, hF⟩ := ob_some hF
    refine cS_Ri C0 pkX8_isWithin (As := [.int a2, .int 1, .int 50]) (rest := []) (kX8_isWithin l g a2 1 50 r9 h8) mL_X8_76 ⟨rfl, rfl, Nat.le_of_ble_eq_true rfl, Nat.le_of_ble_eq_true rfl, Nat.le_of_ble_eq_true rfl, Nat.le_of_ble_eq_true rfl⟩ rfl hl.1 rfl (Nat.le_of_ble_eq_true rfl) dX8_limit_13 (fun b10 => ?_)
    refine lv_if_ne (tgt := 26) hx hb dX8_limit_16 (by decide) (fun c11 => ?_) (fun c11 => ?_)
    · replace hF := (if_neg c11).symm.trans hF
      refine lv_aload_n hx hb dX8_limit_26 rfl (lv_at hl 0 rfl) ?_
      refine get_W C0 hK hP iwX8 0 wX_0 rfl 5 (by decide) mF_X8_47 rfl rfl dX8_limit_27 ?_
      refine lv_iload_n hx hb dX8_limit_30 rfl (lv_at hl 1 rfl) ?_
      obtain ⟨r13, h12, hF⟩ := ob_some hF
      refine cV_Ri C0 eX_st hP hS hK pkX1_limitOf (As := [.int a1]) (rest := []) (kX1_limitOf l g ad tk mem a1 r13 h12) mL_X8_212 ⟨rfl, rfl, Nat.le_of_ble_eq_true rfl, Nat.le_of_ble_eq_true rfl, Nat.le_of_ble_eq_true rfl, Nat.le_of_ble_eq_true rfl⟩ 21 wX_21 rfl rfl rfl hl.1 rfl (Nat.le_of_ble_eq_true rfl) dX8_limit_31 (fun _ => ?_)
      refine lv_istore_n (lv' := [(3, .int r13), (0, .ref (ad 0)), (1, .int a1), (2, .int a2)]) hx hb dX8_limit_34 rfl hl (by decide) rfl (fun ls hl => ?_)
      refine lv_aload_n hx hb dX8_limit_35 rfl (lv_at hl 1 rfl) ?_
      refine get_W C0 hK hP iwX8 0 wX_0 rfl 5 (by decide) mF_X8_47 rfl rfl dX8_limit_36 ?_
      refine lv_iload_n hx hb dX8_limit_39 rfl (lv_at hl 2 rfl) ?_
      refine lv_iload_n hx hb dX8_limit_40 rfl (lv_at hl 3 rfl) ?_
      obtain ⟨m15, h14, hF⟩ := ob_some hF
      refine cV_Wv C0 eX_st hP hS hK pkX1_setLimit (As := [.int a1, .int a2]) (rest := []) (kX1_setLimit l g ad tk mem a1 a2 m15 h14) mL_X8_215 ⟨rfl, rfl, Nat.le_of_ble_eq_true rfl, Nat.le_of_ble_eq_true rfl, Nat.le_of_ble_eq_true rfl, Nat.le_of_ble_eq_true rfl⟩ 21 wX_21 rfl rfl rfl hl.1 rfl (Nat.le_of_ble_eq_true rfl) dX8_limit_41 (fun H locs _ hP hS => ?_)
      refine lv_iload_n hx hb dX8_limit_44 rfl (lv_at hl 0 rfl) ?_
      cases hF
      exact ret_Wi C0 hP hS trivial dX8_limit_45
    · replace hF := (if_pos c11).symm.trans hF
      refine lv_aload_n hx hb dX8_limit_19 rfl (lv_at hl 0 rfl) ?_
      refine lv_ldc hx hb hown (hts _ mK_X8_80) dX8_limit_20 ?_
      obtain ⟨r18, m17, h16, hF⟩ := ob2_some hF
      refine cV_Wi C0 eX_st hP hS hK pkX8_finding (As := [.int (-100001)]) (rest := []) (kX8_finding l g ad tk mem (-100001) r18 m17 h16) mL_X8_81 ⟨rfl, rfl, Nat.le_of_ble_eq_true rfl, Nat.le_of_ble_eq_true rfl, Nat.le_of_ble_eq_true rfl, Nat.le_of_ble_eq_true rfl⟩ 0 wX_0 rfl rfl rfl hl.1 rfl (Nat.le_of_ble_eq_true rfl) dX8_limit_22 (fun H locs _ hP hS => ?_)
      cases hF
      exact ret_Wi C0 hP hS trivial dX8_limit_25
