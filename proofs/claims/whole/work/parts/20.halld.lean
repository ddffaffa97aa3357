theorem pkX8_minutes : pkV yX8_minutes cX8_minutes 3 (some .int) RX8 2 := ⟨mI_X8_minutes, mS_X8_minutes, mN_X8, mC_X8_minutes, by decide +kernel⟩
def fX8_minutes (mem : Mem) (a1 : Int32) (a2 : Int32) : Option (Int32 × Mem) :=
  ob1 (fX3_has mem a1) (fun r2 => if r2 = 0 then (ob2 (fX8_finding mem (-100001)) (fun r24 m23 => some (r24, m23))) else (if a2 = 0 then (ob1 (fX3_memberAt mem a1) (fun r7 => some (r7, mem))) else (if a2 = 1 then (ob1 (fX3_sortAt mem a1) (fun r10 => some (r10, mem))) else (if a2 = 2 then (ob1 (fX3_latestCount mem) (fun r13 => ob1 (fX3_ticksAsOf mem a1 r13) (fun r15 => some (r15, mem)))) else (if a2 = 3 then (ob1 (fX3_firstTicksAt mem a1) (fun r18 => some (r18, mem))) else (ob2 (fX8_finding mem (-100001)) (fun r21 m20 => some (r21, m20))))))))
set_option maxHeartbeats 4000000 in
set_option maxRecDepth 100000 in
theorem kX8_minutes (l : Launch) (g : gG) (ad : Nat → Nat) (tk : Nat) (mem : Mem) (a1 : Int32) (a2 : Int32) (r : Int32) (mem2 : Mem) (hF : fX8_minutes mem a1 a2 = some (r, mem2)) : Met l yX8_minutes (Cond.code yX8_minutes cX8_minutes 3 (some .int) :: gw) { frames := 6, cells := 0, slots := 0, locals := 131 } (pG (wX g ad mem) (eX g ad tk) g [.ref (ad 0), .int a1, .int a2]) (qW (wX g ad mem2) g (AW 44 ad) (some (.int r)) (True)) 0 0 (AW 44 ad) := by
  refine met_of (by decide) (Nat.le_of_ble_eq_true rfl) ?_
  intro p e s m args below meth c ls C0 hP hl
  obtain ⟨hx, hb, hml, hown, hts, hr, hlk, hE⟩ := id C0
  obtain ⟨hK, hN, hA, hZ, hT, hTA⟩ := id hE
  have hl : lv_has ls 3 [(0, .ref (ad 0)), (1, .int a1), (2, .int a2)] := hl
  have hS : va_S (AW 44 ad) s.heap s.heap [] := va_S.rf
  unfold fX8_minutes at hF
  refine lv_aload_n hx hb dX8_minutes_0 rfl (lv_at hl 0 rfl) ?_
  refine get_W C0 hK hP iwX8 0 wX_0 rfl 7 (by decide) mF_X8_61 rfl rfl dX8_minutes_1 ?_
  refine lv_iload_n hx hb dX8_minutes_4 rfl (lv_at hl 1 rfl) ?_
  obtain ⟨r2, h1, hF⟩ := ob_some hF
  refine cV_Ri C0 eX_st hP hS hK pkX3_has (As := [.int a1]) (rest := []) (kX3_has l g ad tk mem a1 r2 h1) mL_X8_268 ⟨rfl, rfl, Nat.le_of_ble_eq_true rfl, Nat.le_of_ble_eq_true rfl, Nat.le_of_ble_eq_true rfl, Nat.le_of_ble_eq_true rfl⟩ 29 wX_29 rfl rfl rfl hl.1 rfl (Nat.le_of_ble_eq_true rfl) dX8_minutes_5 (fun b3 => ?_)
  refine lv_if_ne (tgt := 18) hx hb dX8_minutes_8 (by decide) (fun c4 => ?_) (fun c4 => ?_)
  · replace hF := (if_neg c4).symm.trans hF
    refine lv_iload_n hx hb dX8_minutes_18 rfl (lv_at hl 2 rfl) ?_
    by_cases c5 : a2 = 0
    · replace hF := (if_pos c5).symm.trans hF
      refine lv_tableIn (off := 29) (tgt := 48) hx hb dX8_minutes_19 (by rw [c5]; decide) (by rw [c5]; decide) (by rw [c5]; rfl) (by decide) ?_
      refine lv_aload_n hx hb dX8_minutes_48 rfl (lv_at hl 0 rfl) ?_
      refine get_W C0 hK hP iwX8 0 wX_0 rfl 7 (by decide) mF_X8_61 rfl rfl dX8_minutes_49 ?_
      refine lv_iload_n hx hb dX8_minutes_52 rfl (lv_at hl 1 rfl) ?_
      obtain ⟨r7, h6, hF⟩ := ob_some hF
      refine cV_Ri C0 eX_st hP hS hK pkX3_memberAt (As := [.int a1]) (rest := []) (kX3_memberAt l g ad tk mem a1 r7 h6) mL_X8_269 ⟨rfl, rfl, Nat.le_of_ble_eq_true rfl, Nat.le_of_ble_eq_true rfl, Nat.le_of_ble_eq_true rfl, Nat.le_of_ble_eq_true rfl⟩ 29 wX_29 rfl rfl rfl hl.1 rfl (Nat.le_of_ble_eq_true rfl) dX8_minutes_53 (fun _ => ?_)
      cases hF
      exact ret_Wi C0 hP hS trivial dX8_minutes_56
    replace hF := (if_neg c5).symm.trans hF
    by_cases c8 : a2 = 1
    · replace hF := (if_pos c8).symm.trans hF
      refine lv_tableIn (off := 38) (tgt := 57) hx hb dX8_minutes_19 (by rw [c8]; decide) (by rw [c8]; decide) (by rw [c8]; rfl) (by decide) ?_
      refine lv_aload_n hx hb dX8_minutes_57 rfl (lv_at hl 0 rfl) ?_
      refine get_W C0 hK hP iwX8 0 wX_0 rfl 7 (by decide) mF_X8_61 rfl rfl dX8_minutes_58 ?_
      refine lv_iload_n hx hb dX8_minutes_61 rfl (lv_at hl 1 rfl) ?_
      obtain ⟨r10, h9, hF⟩ := ob_some hF
      refine cV_Ri C0 eX_st hP hS hK pkX3_sortAt (As := [.int a1]) (rest := []) (kX3_sortAt l g ad tk mem a1 r10 h9) mL_X8_270 ⟨rfl, rfl, Nat.le_of_ble_eq_true rfl, Nat.le_of_ble_eq_true rfl, Nat.le_of_ble_eq_true rfl, Nat.le_of_ble_eq_true rfl⟩ 29 wX_29 rfl rfl rfl hl.1 rfl (Nat.le_of_ble_eq_true rfl) dX8_minutes_62 (fun _ => ?_)
      cases hF
      exact ret_Wi C0 hP hS trivial dX8_minutes_65
    replace hF := (if_neg c8).symm.trans hF
    by_cases c11 : a2 = 2
    · replace hF := (if_pos c11).symm.trans hF
      refine lv_tableIn (off := 47) (tgt := 66) hx hb dX8_minutes_19 (by rw [c11]; decide) (by rw [c11]; decide) (by rw [c11]; rfl) (by decide) ?_
      refine lv_aload_n hx hb dX8_minutes_66 rfl (lv_at hl 0 rfl) ?_
      refine get_W C0 hK hP iwX8 0 wX_0 rfl 7 (by decide) mF_X8_61 rfl rfl dX8_minutes_67 ?_
      refine lv_iload_n hx hb dX8_minutes_70 rfl (lv_at hl 1 rfl) ?_
      refine lv_aload_n hx hb dX8_minutes_71 rfl (lv_at hl 0 rfl) ?_
      refine get_W C0 hK hP iwX8 0 wX_0 rfl 7 (by decide) mF_X8_61 rfl rfl dX8_minutes_72 ?_
      obtain ⟨r13, h12, hF⟩ := ob_some hF
      refine cV_Ri C0 eX_st hP hS hK pkX3_latestCount (As := []) (rest := [.int a1, .ref (ad 29)]) (kX3_latestCount l g ad tk mem r13 h12) mL_X8_271 ⟨rfl, rfl, Nat.le_of_ble_eq_true rfl, Nat.le_of_ble_eq_true rfl, Nat.le_of_ble_eq_true rfl, Nat.le_of_ble_eq_true rfl⟩ 29 wX_29 rfl rfl rfl hl.1 rfl (Nat.le_of_ble_eq_true rfl) dX8_minutes_75 (fun _ => ?_)
      obtain ⟨r15, h14, hF⟩ := ob_some hF
      refine cV_Ri C0 eX_st hP hS hK pkX3_ticksAsOf (As := [.int a1, .int r13]) (rest := []) (kX3_ticksAsOf l g ad tk mem a1 r13 r15 h14) mL_X8_274 ⟨rfl, rfl, Nat.le_of_ble_eq_true rfl, Nat.le_of_ble_eq_true rfl, Nat.le_of_ble_eq_true rfl, Nat.le_of_ble_eq_true rfl⟩ 29 wX_29 rfl rfl rfl hl.1 rfl (Nat.le_of_ble_eq_true rfl) dX8_minutes_78 (fun _ => ?_)
      cases hF
      exact ret_Wi C0 hP hS trivial dX8_minutes_81
    replace hF := (if_neg c11).symm.trans hF
    by_cases c16 : a2 = 3
    · replace hF := (if_pos c16).symm.trans hF
      refine lv_tableIn (off := 63) (tgt := 82) hx hb dX8_minutes_19 (by rw [c16]; decide) (by rw [c16]; decide) (by rw [c16]; rfl) (by decide) ?_
      refine lv_aload_n hx hb dX8_minutes_82 rfl (lv_at hl 0 rfl) ?_
      refine get_W C0 hK hP iwX8 0 wX_0 rfl 7 (by decide) mF_X8_61 rfl rfl dX8_minutes_83 ?_
      refine lv_iload_n hx hb dX8_minutes_86 rfl (lv_at hl 1 rfl) ?_
      obtain ⟨r18, h17, hF⟩ := ob_some hF
      refine cV_Ri C0 eX_st hP hS hK pkX3_firstTicksAt (As := [.int a1]) (rest := []) (kX3_firstTicksAt l g ad tk mem a1 r18 h17) mL_X8_277 ⟨rfl, rfl, Nat.le_of_ble_eq_true rfl, Nat.le_of_ble_eq_true rfl, Nat.le_of_ble_eq_true rfl, Nat.le_of_ble_eq_true rfl⟩ 29 wX_29 rfl rfl rfl hl.1 rfl (Nat.le_of_ble_eq_true rfl) dX8_minutes_87 (fun _ => ?_)
      cases hF
      exact ret_Wi C0 hP hS trivial dX8_minutes_90
    replace hF := (if_neg c16).symm.trans hF
    have tc5 := ne_toInt c5 (k := 0) rfl
    have tc8 := ne_toInt c8 (k := 1) rfl
    have tc11 := ne_toInt c11 (k := 2) rfl
    have tc16 := ne_toInt c16 (k := 3) rfl
    refine lv_tableOut (tgt := 91) hx hb dX8_minutes_19 (by omega) (by decide) ?_
    refine lv_aload_n hx hb dX8_minutes_91 rfl (lv_at hl 0 rfl) ?_
    refine lv_ldc hx hb hown (hts _ mK_X8_80) dX8_minutes_92 ?_
    obtain ⟨r21, m20, h19, hF⟩ := ob2_some hF
    refine cV_Wi C0 eX_st hP hS hK pkX8_finding (As := [.int (-100001)]) (rest := []) (kX8_finding l g ad tk mem (-100001) r21 m20 h19) mL_X8_81 ⟨rfl, rfl, Nat.le_of_ble_eq_true rfl, Nat.le_of_ble_eq_true rfl, Nat.le_of_ble_eq_true rfl, Nat.le_of_ble_eq_true rfl⟩ 0 wX_0 rfl rfl rfl hl.1 rfl (Nat.le_of_ble_eq_true rfl) dX8_minutes_94 (fun H locs _ hP hS => ?_)
    cases hF
    exact ret_Wi C0 hP hS trivial dX8_minutes_97
  · replace hF := (if_pos c4).symm.trans hF
    refine lv_aload_n hx hb dX8_minutes_11 rfl (lv_at hl 0 rfl) ?_
    refine lv_ldc hx hb hown (hts _ mK_X8_80) dX8_minutes_12 ?_
    obtain ⟨r24, m23, h22, hF⟩ := ob2_some hF
    refine cV_Wi C0 eX_st hP hS hK pkX8_finding (As := [.int (-100001)]) (rest := []) (kX8_finding l g ad tk mem (-100001) r24 m23 h22) mL_X8_81 ⟨rfl, rfl, Nat.le_of_ble_eq_true rfl, Nat.le_of_ble_eq_true rfl, Nat.le_of_ble_eq_true rfl, Nat.le_of_ble_eq_true rfl⟩ 0 wX_0 rfl rfl rfl hl.1 rfl (Nat.le_of_ble_eq_true rfl) dX8_minutes_14 (fun H locs _ hP hS => ?_)
    cases hF
    exact ret_Wi C0 hP hS trivial dX8_minutes_17
theorem pkX8_right : pkV yX8_right cX8_right 3 (some .int) RX8 2 := ⟨mI_X8_right, mS_X8_right, mN_X8, mC_X8_right, by decide +kernel⟩
def fX8_right (mem : Mem) (a1 : Int32) (a2 : Int32) : Option (Int32 × Mem) :=
  ob1 (fX3_has mem a1) (fun r2 => if r2 = 0 then (ob2 (fX8_finding mem (-100001)) (fun r7 m6 => some (r7, m6))) else (ob1 (fX8_isWithin a2 0 200) (fun r9 => if r9 = 0 then (ob2 (fX8_finding mem (-100001)) (fun r24 m23 => some (r24, m23))) else (ob1 (fX3_latestCount mem) (fun r13 => if r13 < 40 then (ob1 (fX3_correct mem a1 a2) (fun m16 => ob1 (fX3_latestCount m16) (fun r18 => some (r18, m16)))) else (ob2 (fX8_finding mem (-100005)) (fun r21 m20 => some (r21, m20))))))))
set_option maxHeartbeats 4000000 in
set_option maxRecDepth 100000 in
theorem kX8_right (l : Launch) (g : gG) (ad : Nat → Nat) (tk : Nat) (mem : Mem) (a1 : Int32) (a2 : Int32) (r : Int32) (mem2 : Mem) (hF : fX8_right mem a1 a2 = some (r, mem2)) : Met l yX8_right (Cond.code yX8_right cX8_right 3 (some .int) :: gw) { frames := 4, cells := 0, slots := 0, locals := 87 } (pG (wX g ad mem) (eX g ad tk) g [.ref (ad 0), .int a1, .int a2]) (qW (wX g ad mem2) g (AW 44 ad) (some (.int r)) (True)) 0 0 (AW 44 ad) := by
  refine met_of (by decide) (Nat.le_of_ble_eq_true rfl) ?_
  intro p e s m args below meth c ls C0 hP hl
  obtain ⟨hx, hb, hml, hown, hts, hr, hlk, hE⟩ := id C0
  obtain ⟨hK, hN, hA, hZ, hT, hTA⟩ := id hE
  have hl : lv_has ls 3 [(0, .ref (ad 0)), (1, .int a1), (2, .int a2)] := hl
  have hS : va_S (AW 44 ad) s.heap s.heap [] := va_S.rf
  unfold fX8_right at hF
  refine lv_aload_n hx hb dX8_right_0 rfl (lv_at hl 0 rfl) ?_
  refine get_W C0 hK hP iwX8 0 wX_0 rfl 7 (by decide) mF_X8_61 rfl rfl dX8_right_1 ?_
  refine lv_iload_n hx hb dX8_right_4 rfl (lv_at hl 1 rfl) ?_
  obtain ⟨r2, h1, hF⟩ := ob_some hF
  refine cV_Ri C0 eX_st hP hS hK pkX3_has (As := [.int a1]) (rest := []) (kX3_has l g ad tk mem a1 r2 h1) mL_X8_268 ⟨rfl, rfl, Nat.le_of_ble_eq_true rfl, Nat.le_of_ble_eq_true rfl, Nat.le_of_ble_eq_true rfl, Nat.le_of_ble_eq_true rfl⟩ 29 wX_29 rfl rfl rfl hl.1 rfl (Nat.le_of_ble_eq_true rfl) dX8_right_5 (fun b3 => ?_)
  refine lv_if_eq (tgt := 22) hx hb dX8_right_8 (by decide) (fun c4 => ?_) (fun c4 => ?_)
  · replace hF := (if_pos c4).symm.trans hF
    refine lv_aload_n hx hb dX8_right_22 rfl (lv_at hl 0 rfl) ?_
    refine lv_ldc hx hb hown (hts _ mK_X8_80) dX8_right_23 ?_
    obtain ⟨r7, m6, h5, hF⟩ := ob2_some hF
    refine cV_Wi C0 eX_st hP hS hK pkX8_finding (As := [.int (-100001)]) (rest := []) (kX8_finding l g ad tk mem (-100001) r7 m6 h5) mL_X8_81 ⟨rfl, rfl, Nat.le_of_ble_eq_true rfl, Nat.le_of_ble_eq_true rfl, Nat.le_of_ble_eq_true rfl, Nat.le_of_ble_eq_true rfl⟩ 0 wX_0 rfl rfl rfl hl.1 rfl (Nat.le_of_ble_eq_true rfl) dX8_right_25 (fun H locs _ hP hS => ?_)
    cases hF
    exact ret_Wi C0 hP hS trivial dX8_right_28
  · replace hF := (if_neg c4).symm.trans hF
    refine lv_iload_n hx hb dX8_right_11 rfl (lv_at hl 2 rfl) ?_
    refine lv_iconst (v := 0) hx hb dX8_right_12 (by decide) ?_
    refine lv_sipush (v := 200) hx hb dX8_right_13 (by decide) ?_
    obtain ⟨r9, h8, hF⟩ := ob_some hF
    refine cS_Ri C0 pkX8_isWithin (As := [.int a2, .int 0, .int 200]) (rest := []) (kX8_isWithin l g a2 0 200 r9 h8) mL_X8_76 ⟨rfl, rfl, Nat.le_of_ble_eq_true rfl, Nat.le_of_ble_eq_true rfl, Nat.le_of_ble_eq_true rfl, Nat.le_of_ble_eq_true rfl⟩ rfl hl.1 rfl (Nat.le_of_ble_eq_true rfl) dX8_right_16 (fun b10 => ?_)
    refine lv_if_ne (tgt := 29) hx hb dX8_right_19 (by decide) (fun c11 => ?_) (fun c11 => ?_)
    · replace hF := (if_neg c11).symm.trans hF
      refine lv_aload_n hx hb dX8_right_29 rfl (lv_at hl 0 rfl) ?_
      refine get_W C0 hK hP iwX8 0 wX_0 rfl 7 (by decide) mF_X8_61 rfl rfl dX8_right_30 ?_
      obtain ⟨r13, h12, hF⟩ := ob_some hF
      refine cV_Ri C0 eX_st hP hS hK pkX3_latestCount (As := []) (rest := []) (kX3_latestCount l g ad tk mem r13 h12) mL_X8_271 ⟨rfl, rfl, Nat.le_of_ble_eq_true rfl, Nat.le_of_ble_eq_true rfl, Nat.le_of_ble_eq_true rfl, Nat.le_of_ble_eq_true rfl⟩ 29 wX_29 rfl rfl rfl hl.1 rfl (Nat.le_of_ble_eq_true rfl) dX8_right_33 (fun _ => ?_)
      refine lv_bipush (v := 40) hx hb dX8_right_36 (by decide) ?_
      refine lv_icmp_lt (tgt := 48) hx hb dX8_right_38 (by decide) (fun c14 => ?_) (fun c14 => ?_)
      · replace hF := (if_pos c14).symm.trans hF
        refine lv_aload_n hx hb dX8_right_48 rfl (lv_at hl 0 rfl) ?_
        refine get_W C0 hK hP iwX8 0 wX_0 rfl 7 (by decide) mF_X8_61 rfl rfl dX8_right_49 ?_
        refine lv_iload_n hx hb dX8_right_52 rfl (lv_at hl 1 rfl) ?_
        refine lv_iload_n hx hb dX8_right_53 rfl (lv_at hl 2 rfl) ?_
        obtain ⟨m16, h15, hF⟩ := ob_some hF
        refine cV_Wv C0 eX_st hP hS hK pkX3_correct (As := [.int a1, .int a2]) (rest := []) (kX3_correct l g ad tk mem a1 a2 m16 h15) mL_X8_280 ⟨rfl, rfl, Nat.le_of_ble_eq_true rfl, Nat.le_of_ble_eq_true rfl, Nat.le_of_ble_eq_true rfl, Nat.le_of_ble_eq_true rfl⟩ 29 wX_29 rfl rfl rfl hl.1 rfl (Nat.le_of_ble_eq_true rfl) dX8_right_54 (fun H locs _ hP hS => ?_)
        refine lv_aload_n hx hb dX8_right_57 rfl (lv_at hl 0 rfl) ?_
        refine get_W C0 hK hP iwX8 0 wX_0 rfl 7 (by decide) mF_X8_61 rfl rfl dX8_right_58 ?_
        obtain ⟨r18, h17, hF⟩ := ob_some hF
        refine cV_Ri C0 eX_st hP hS hK pkX3_latestCount (As := []) (rest := []) (kX3_latestCount l g ad tk m16 r18 h17) mL_X8_271 ⟨rfl, rfl, Nat.le_of_ble_eq_true rfl, Nat.le_of_ble_eq_true rfl, Nat.le_of_ble_eq_true rfl, Nat.le_of_ble_eq_true rfl⟩ 29 wX_29 rfl rfl rfl hl.1 rfl (Nat.le_of_ble_eq_true rfl) dX8_right_61 (fun _ => ?_)
        cases hF
        exact ret_Wi C0 hP hS trivial dX8_right_64
      · replace hF := (if_neg c14).symm.trans hF
        refine lv_aload_n hx hb dX8_right_41 rfl (lv_at hl 0 rfl) ?_
        refine lv_ldc hx hb hown (hts _ mK_X8_89) dX8_right_42 ?_
        obtain ⟨r21, m20, h19, hF⟩ := ob2_some hF
        refine cV_Wi C0 eX_st hP hS hK pkX8_finding (As := [.int (-100005)]) (rest := []) (kX8_finding l g ad tk mem (-100005) r21 m20 h19) mL_X8_81 ⟨rfl, rfl, Nat.le_of_ble_eq_true rfl, Nat.le_of_ble_eq_true rfl, Nat.le_of_ble_eq_true rfl, Nat.le_of_ble_eq_true rfl⟩ 0 wX_0 rfl rfl rfl hl.1 rfl (Nat.le_of_ble_eq_true rfl) dX8_right_44 (fun H locs _ hP hS => ?_)
        cases hF
        exact ret_Wi C0 hP hS trivial dX8_right_47
    · replace hF := (if_pos c11).symm.trans hF
      refine lv_aload_n hx hb dX8_right_22 rfl (lv_at hl 0 rfl) ?_
      refine lv_ldc hx hb hown (hts _ mK_X8_80) dX8_right_23 ?_
      obtain ⟨r24, m23, h22, hF⟩ := ob2_some hF
      refine cV_Wi C0 eX_st hP hS hK pkX8_finding (As := [.int (-100001)]) (rest := []) (kX8_finding l g ad tk mem (-100001) r24 m23 h22) mL_X8_81 ⟨rfl, rfl, Nat.le_of_ble_eq_true rfl, Nat.le_of_ble_eq_true rfl, Nat.le_of_ble_eq_true rfl, Nat.le_of_ble_eq_true rfl⟩ 0 wX_0 rfl rfl rfl hl.1 rfl (Nat.le_of_ble_eq_true rfl) dX8_right_25 (fun H locs _ hP hS => ?_)
      cases hF
      exact ret_Wi C0 hP hS trivial dX8_right_28
theorem pkX8_sum : pkV yX8_sum cX8_sum 3 (some .int) RX8 2 := ⟨mI_X8_sum, mS_X8_sum, mN_X8, mC_X8_sum, by decide +kernel⟩
def fX8_sum (mem : Mem) (a1 : Int32) (a2 : Int32) : Option (Int32 × Mem) :=
  ob1 (fX4_has mem a1) (fun r2 => if r2 = 0 then (ob2 (fX8_finding mem (-100001)) (fun r7 m6 => some (r7, m6))) else (ob1 (fX3_latestCount mem) (fun r9 => ob1 (fX8_isWithin a2 0 r9) (fun r11 => if r11 = 0 then (ob2 (fX8_finding mem (-100001)) (fun r18 m17 => some (r18, m17))) else (ob1 (fX3_ticksOfMember mem a1 a2) (fun r15 => some (r15, mem)))))))
set_option maxHeartbeats 4000000 in
set_option maxRecDepth 100000 in
theorem kX8_sum (l : Launch) (g : gG) (ad : Nat → Nat) (tk : Nat) (mem : Mem) (a1 : Int32) (a2 : Int32) (r : Int32) (mem2 : Mem) (hF : fX8_sum mem a1 a2 = some (r, mem2)) : Met l yX8_sum (Cond.code yX8_sum cX8_sum 3 (some .int) :: gw) { frames := 7, cells := 0, slots := 0, locals := 155 } (pG (wX g ad mem) (eX g ad tk) g [.ref (ad 0), .int a1, .int a2]) (qW (wX g ad mem2) g (AW 44 ad) (some (.int r)) (True)) 0 0 (AW 44 ad) := by
  refine met_of (by decide) (Nat.le_of_ble_eq_true rfl) ?_
  intro p e s m args below meth c ls C0 hP hl
  obtain ⟨hx, hb, hml, hown, hts, hr, hlk, hE⟩ := id C0
  obtain ⟨hK, hN, hA, hZ, hT, hTA⟩ := id hE
  have hl : lv_has ls 3 [(0, .ref (ad 0)), (1, .int a1), (2, .int a2)] := hl
  have hS : va_S (AW 44 ad) s.heap s.heap [] := va_S.rf
  unfold fX8_sum at hF
  refine lv_aload_n hx hb dX8_sum_0 rfl (lv_at hl 0 rfl) ?_
  refine get_W C0 hK hP iwX8 0 wX_0 rfl 0 (by decide) mF_X8_10 rfl rfl dX8_sum_1 ?_
  refine lv_iload_n hx hb dX8_sum_4 rfl (lv_at hl 1 rfl) ?_
  obtain ⟨r2, h1, hF⟩ := ob_some hF
  refine cV_Ri C0 eX_st hP hS hK pkX4_has (As := [.int a1]) (rest := []) (kX4_has l g ad tk mem a1 r2 h1) mL_X8_94 ⟨rfl, rfl, Nat.le_of_ble_eq_true rfl, Nat.le_of_ble_eq_true rfl, Nat.le_of_ble_eq_true rfl, Nat.le_of_ble_eq_true rfl⟩ 1 wX_1 rfl rfl rfl hl.1 rfl (Nat.le_of_ble_eq_true rfl) dX8_sum_5 (fun b3 => ?_)
  refine lv_if_eq (tgt := 26) hx hb dX8_sum_8 (by decide) (fun c4 => ?_) (fun c4 => ?_)
  · replace hF := (if_pos c4).symm.trans hF
    refine lv_aload_n hx hb dX8_sum_26 rfl (lv_at hl 0 rfl) ?_
    refine lv_ldc hx hb hown (hts _ mK_X8_80) dX8_sum_27 ?_
    obtain ⟨r7, m6, h5, hF⟩ := ob2_some hF
    refine cV_Wi C0 eX_st hP hS hK pkX8_finding (As := [.int (-100001)]) (rest := []) (kX8_finding l g ad tk mem (-100001) r7 m6 h5) mL_X8_81 ⟨rfl, rfl, Nat.le_of_ble_eq_true rfl, Nat.le_of_ble_eq_true rfl, Nat.le_of_ble_eq_true rfl, Nat.le_of_ble_eq_true rfl⟩ 0 wX_0 rfl rfl rfl hl.1 rfl (Nat.le_of_ble_eq_true rfl) dX8_sum_29 (fun H locs _ hP hS => ?_)
    cases hF
    exact ret_Wi C0 hP hS trivial dX8_sum_32
  · replace hF := (if_neg c4).symm.trans hF
    refine lv_iload_n hx hb dX8_sum_11 rfl (lv_at hl 2 rfl) ?_
    refine lv_iconst (v := 0) hx hb dX8_sum_12 (by decide) ?_
    refine lv_aload_n hx hb dX8_sum_13 rfl (lv_at hl 0 rfl) ?_
    refine get_W C0 hK hP iwX8 0 wX_0 rfl 7 (by decide) mF_X8_61 rfl rfl dX8_sum_14 ?_
    obtain ⟨r9, h8, hF⟩ := ob_some hF
    refine cV_Ri C0 eX_st hP hS hK pkX3_latestCount (As := []) (rest := [.int 0, .int a2]) (kX3_latestCount l g ad tk mem r9 h8) mL_X8_271 ⟨rfl, rfl, Nat.le_of_ble_eq_true rfl, Nat.le_of_ble_eq_true rfl, Nat.le_of_ble_eq_true rfl, Nat.le_of_ble_eq_true rfl⟩ 29 wX_29 rfl rfl rfl hl.1 rfl (Nat.le_of_ble_eq_true rfl) dX8_sum_17 (fun _ => ?_)
    obtain ⟨r11, h10, hF⟩ := ob_some hF
    refine cS_Ri C0 pkX8_isWithin (As := [.int a2, .int 0, .int r9]) (rest := []) (kX8_isWithin l g a2 0 r9 r11 h10) mL_X8_76 ⟨rfl, rfl, Nat.le_of_ble_eq_true rfl, Nat.le_of_ble_eq_true rfl, Nat.le_of_ble_eq_true rfl, Nat.le_of_ble_eq_true rfl⟩ rfl hl.1 rfl (Nat.le_of_ble_eq_true rfl) dX8_sum_20 (fun b12 => ?_)
    refine lv_if_ne (tgt := 33) hx hb dX8_sum_23 (by decide) (fun c13 => ?_) (fun c13 => ?_)
    · replace hF := (if_neg c13).symm.trans hF
      refine lv_aload_n hx hb dX8_sum_33 rfl (lv_at hl 0 rfl) ?_
      refine get_W C0 hK hP iwX8 0 wX_0 rfl 7 (by decide) mF_X8_61 rfl rfl dX8_sum_34 ?_
      refine lv_iload_n hx hb dX8_sum_37 rfl (lv_at hl 1 rfl) ?_
      refine lv_iload_n hx hb dX8_sum_38 rfl (lv_at hl 2 rfl) ?_
      obtain ⟨r15, h14, hF⟩ := ob_some hF
      refine cV_Ri C0 eX_st hP hS hK pkX3_ticksOfMember (As := [.int a1, .int a2]) (rest := []) (kX3_ticksOfMember l g ad tk mem a1 a2 r15 h14) mL_X8_283 ⟨rfl, rfl, Nat.le_of_ble_eq_true rfl, Nat.le_of_ble_eq_true rfl, Nat.le_of_ble_eq_true rfl, Nat.le_of_ble_eq_true rfl⟩ 29 wX_29 rfl rfl rfl hl.1 rfl (Nat.le_of_ble_eq_true rfl) dX8_sum_39 (fun _ => ?_)
      cases hF
      exact ret_Wi C0 hP hS trivial dX8_sum_42
    · replace hF := (if_pos c13).symm.trans hF
      refine lv_aload_n hx hb dX8_sum_26 rfl (lv_at hl 0 rfl) ?_
      refine lv_ldc hx hb hown (hts _ mK_X8_80) dX8_sum_27 ?_
      obtain ⟨r18, m17, h16, hF⟩ := ob2_some hF
      refine cV_Wi C0 eX_st hP hS hK pkX8_finding (As := [.int (-100001)]) (rest := []) (kX8_finding l g ad tk mem (-100001) r18 m17 h16) mL_X8_81 ⟨rfl, rfl, Nat.le_of_ble_eq_true rfl, Nat.le_of_ble_eq_true rfl, Nat.le_of_ble_eq_true rfl, Nat.le_of_ble_eq_true rfl⟩ 0 wX_0 rfl rfl rfl hl.1 rfl (Nat.le_of_ble_eq_true rfl) dX8_sum_29 (fun H locs _ hP hS => ?_)
      cases hF
      exact ret_Wi C0 hP hS trivial dX8_sum_32
theorem pkX8_isWidth : pkS yX8_isWidth cX8_isWidth 1 (some .boolean) 1 := ⟨mT_X8_isWidth, mN_X8, mC_X8_isWidth, by decide +kernel⟩
def fX8_isWidth (a0 : Int32) : Option (Int32) :=
  if a0 = 0 then (some 1) else (if a0 = 8 then (some 1) else (if a0 = 16 then (some 1) else (if a0 = 32 then (some 1) else (some 0))))
set_option maxHeartbeats 4000000 in
set_option maxRecDepth 100000 in
theorem kX8_isWidth (l : Launch) (g : gG) (a0 : Int32) (r : Int32) (hF : fX8_isWidth a0 = some r) : Met l yX8_isWidth (Cond.code yX8_isWidth cX8_isWidth 1 (some .boolean) :: gw) { frames := 1, cells := 0, slots := 0, locals := 24 } (pG [] (fun _ => True) g [.int a0]) (qR (some (.int r)) (isB r)) 0 0 noA := by
  refine met_of (by decide) (Nat.le_of_ble_eq_true rfl) ?_
  intro p e s m args below meth c ls C0 hP hl
  obtain ⟨hx, hb, hml, hown, hts, hr, hlk, hE⟩ := id C0
  have hl : lv_has ls 1 [(0, .int a0)] := hl
  unfold fX8_isWidth at hF
  refine lv_iload_n hx hb dX8_isWidth_0 rfl (lv_at hl 0 rfl) ?_
  refine lv_if_eq (tgt := 22) hx hb dX8_isWidth_1 (by decide) (fun c1 => ?_) (fun c1 => ?_)
  · replace hF := (if_pos c1).symm.trans hF
    refine lv_iconst (v := 1) hx hb dX8_isWidth_22 (by decide) ?_
    refine lv_goto (tgt := 27) hx hb dX8_isWidth_23 (by decide) ?_
    cases hF
    exact ret_Rz C0 (Or.inr rfl) (Or.inr rfl) dX8_isWidth_27
  · replace hF := (if_neg c1).symm.trans hF
    refine lv_iload_n hx hb dX8_isWidth_4 rfl (lv_at hl 0 rfl) ?_
    refine lv_bipush (v := 8) hx hb dX8_isWidth_5 (by decide) ?_
    refine lv_icmp_eq (tgt := 22) hx hb dX8_isWidth_7 (by decide) (fun c2 => ?_) (fun c2 => ?_)
    · replace hF := (if_pos c2).symm.trans hF
      refine lv_iconst (v := 1) hx hb dX8_isWidth_22 (by decide) ?_
      refine lv_goto (tgt := 27) hx hb dX8_isWidth_23 (by decide) ?_
      cases hF
      exact ret_Rz C0 (Or.inr rfl) (Or.inr rfl) dX8_isWidth_27
    · replace hF := (if_neg c2).symm.trans hF
      refine lv_iload_n hx hb dX8_isWidth_10 rfl (lv_at hl 0 rfl) ?_
      refine lv_bipush (v := 16) hx hb dX8_isWidth_11 (by decide) ?_
      refine lv_icmp_eq (tgt := 22) hx hb dX8_isWidth_13 (by decide) (fun c3 => ?_) (fun c3 => ?_)
      · replace hF := (if_pos c3).symm.trans hF
        refine lv_iconst (v := 1) hx hb dX8_isWidth_22 (by decide) ?_
        refine lv_goto (tgt := 27) hx hb dX8_isWidth_23 (by decide) ?_
        cases hF
        exact ret_Rz C0 (Or.inr rfl) (Or.inr rfl) dX8_isWidth_27
      · replace hF := (if_neg c3).symm.trans hF
        refine lv_iload_n hx hb dX8_isWidth_16 rfl (lv_at hl 0 rfl) ?_
        refine lv_bipush (v := 32) hx hb dX8_isWidth_17 (by decide) ?_
        refine lv_icmp_ne (tgt := 26) hx hb dX8_isWidth_19 (by decide) (fun c4 => ?_) (fun c4 => ?_)
        · replace hF := (if_neg c4).symm.trans hF
          refine lv_iconst (v := 0) hx hb dX8_isWidth_26 (by decide) ?_
          cases hF
          exact ret_Rz C0 (Or.inl rfl) (Or.inl rfl) dX8_isWidth_27
        · replace hF := (if_pos c4).symm.trans hF
          refine lv_iconst (v := 1) hx hb dX8_isWidth_22 (by decide) ?_
          refine lv_goto (tgt := 27) hx hb dX8_isWidth_23 (by decide) ?_
          cases hF
          exact ret_Rz C0 (Or.inr rfl) (Or.inr rfl) dX8_isWidth_27
theorem pkX8_sheet : pkV yX8_sheet cX8_sheet 5 (some .int) RX8 3 := ⟨mI_X8_sheet, mS_X8_sheet, mN_X8, mC_X8_sheet, by decide +kernel⟩
def fX8_sheet (mem : Mem) (a1 : Int32) (a2 : Int32) (a3 : Int32) : Option (Int32 × Mem) :=
  oc (shF a1) (ob2 (fX8_finding mem (-100001)) (fun r4 m3 => some (r4, m3))) (fun k1 => ob1 (fX8_isWidth a2) (fun r6 => if r6 = 0 then (ob2 (fX8_finding mem (-100001)) (fun r23 m22 => some (r23, m22))) else (if 0 ≤ a3 then (if a3 ≤ 12 then (ob1 (fX6_lay k1 mem a2 a3) (fun m12 => ob1 (fX6_size k1 m12) (fun r14 => some (r14, m12)))) else (ob2 (fX8_finding mem (-100001)) (fun r17 m16 => some (r17, m16)))) else (ob2 (fX8_finding mem (-100003)) (fun r20 m19 => some (r20, m19))))))
set_option maxHeartbeats 4000000 in
set_option maxRecDepth 100000 in
theorem kX8_sheet (l : Launch) (g : gG) (ad : Nat → Nat) (tk : Nat) (mem : Mem) (a1 : Int32) (a2 : Int32) (a3 : Int32) (r : Int32) (mem2 : Mem) (hF : fX8_sheet mem a1 a2 a3 = some (r, mem2)) : Met l yX8_sheet (Cond.code yX8_sheet cX8_sheet 5 (some .int) :: gw) { frames := 2, cells := 0, slots := 0, locals := 47 } (pG (wX g ad mem) (eX g ad tk) g [.ref (ad 0), .int a1, .int a2, .int a3]) (qW (wX g ad mem2) g (AW 44 ad) (some (.int r)) (True)) 0 0 (AW 44 ad) := by
  refine met_of (by decide) (Nat.le_of_ble_eq_true rfl) ?_
  intro p e s m args below meth c ls C0 hP hl
  obtain ⟨hx, hb, hml, hown, hts, hr, hlk, hE⟩ := id C0
  obtain ⟨hK, hN, hA, hZ, hT, hTA⟩ := id hE
  have hl : lv_has ls 5 [(0, .ref (ad 0)), (1, .int a1), (2, .int a2), (3, .int a3)] := hl
  have hS : va_S (AW 44 ad) s.heap s.heap [] := va_S.rf
  unfold fX8_sheet at hF
  refine lv_aload_n hx hb dX8_sheet_0 rfl (lv_at hl 0 rfl) ?_
  refine lv_iload_n hx hb dX8_sheet_1 rfl (lv_at hl 1 rfl) ?_
  refine cV_Ra C0 eX_st hP hS hK pkX8_sheetAt (As := [.int a1]) (rest := []) (kX8_sheetAt l g ad tk mem a1) mL_X8_286 ⟨rfl, rfl, Nat.le_of_ble_eq_true rfl, Nat.le_of_ble_eq_true rfl, Nat.le_of_ble_eq_true rfl, Nat.le_of_ble_eq_true rfl⟩ 0 wX_0 rfl rfl rfl hl.1 rfl (Nat.le_of_ble_eq_true rfl) dX8_sheet_2 ?_
  cases ek1 : shF a1 with
  | none =>
    rw [ek1, oc_none] at hF
    show W _ _ _ _ _ _ _ _ _ _ _ _ _ _ _ (F0 _ _ _ (.null :: _))
    refine lv_astoreN (lv' := [(4, .null), (0, .ref (ad 0)), (1, .int a1), (2, .int a2), (3, .int a3)]) hx hb dX8_sheet_5 hl (by decide) rfl (fun ls hl => ?_)
    refine lv_aloadN hx hb dX8_sheet_7 (lv_at hl 0 rfl) ?_
    refine lv_ifnullN (tgt := 19) hx hb dX8_sheet_9 (by decide) ?_
    refine lv_aload_n hx hb dX8_sheet_19 rfl (lv_at hl 1 rfl) ?_
    refine lv_ldc hx hb hown (hts _ mK_X8_80) dX8_sheet_20 ?_
    obtain ⟨r4, m3, h2, hF⟩ := ob2_some hF
    refine cV_Wi C0 eX_st hP hS hK pkX8_finding (As := [.int (-100001)]) (rest := []) (kX8_finding l g ad tk mem (-100001) r4 m3 h2) mL_X8_81 ⟨rfl, rfl, Nat.le_of_ble_eq_true rfl, Nat.le_of_ble_eq_true rfl, Nat.le_of_ble_eq_true rfl, Nat.le_of_ble_eq_true rfl⟩ 0 wX_0 rfl rfl rfl hl.1 rfl (Nat.le_of_ble_eq_true rfl) dX8_sheet_22 (fun H locs _ hP hS => ?_)
    cases hF
    exact ret_Wi C0 hP hS trivial dX8_sheet_25
  | some k1 =>
    rw [ek1, oc_some] at hF
    have hk1 := shF_in ek1
    show W _ _ _ _ _ _ _ _ _ _ _ _ _ _ _ (F0 _ _ _ (.ref (ad k1) :: _))
    refine lv_astore (lv' := [(4, .ref (ad k1)), (0, .ref (ad 0)), (1, .int a1), (2, .int a2), (3, .int a3)]) hx hb dX8_sheet_5 hl (by decide) rfl (fun ls hl => ?_)
    refine lv_aload hx hb dX8_sheet_7 (lv_at hl 0 rfl) ?_
    refine lv_ifnull hx hb dX8_sheet_9 ?_
    refine lv_iload_n hx hb dX8_sheet_12 rfl (lv_at hl 3 rfl) ?_
    obtain ⟨r6, h5, hF⟩ := ob_some hF
    refine cS_Ri C0 pkX8_isWidth (As := [.int a2]) (rest := []) (kX8_isWidth l g a2 r6 h5) mL_X8_290 ⟨rfl, rfl, Nat.le_of_ble_eq_true rfl, Nat.le_of_ble_eq_true rfl, Nat.le_of_ble_eq_true rfl, Nat.le_of_ble_eq_true rfl⟩ rfl hl.1 rfl (Nat.le_of_ble_eq_true rfl) dX8_sheet_13 (fun b7 => ?_)
    refine lv_if_ne (tgt := 26) hx hb dX8_sheet_16 (by decide) (fun c8 => ?_) (fun c8 => ?_)
    · replace hF := (if_neg c8).symm.trans hF
      refine lv_iload_n hx hb dX8_sheet_26 rfl (lv_at hl 4 rfl) ?_
      refine lv_if_ge (tgt := 37) hx hb dX8_sheet_27 (by decide) (fun c9 => ?_) (fun c9 => ?_)
      · replace hF := (if_pos c9).symm.trans hF
        refine lv_iload_n hx hb dX8_sheet_37 rfl (lv_at hl 4 rfl) ?_
        refine lv_bipush (v := 12) hx hb dX8_sheet_38 (by decide) ?_
        refine lv_icmp_le (tgt := 50) hx hb dX8_sheet_40 (by decide) (fun c10 => ?_) (fun c10 => ?_)
        · replace hF := (if_pos c10).symm.trans hF
          refine lv_aload hx hb dX8_sheet_50 (lv_at hl 0 rfl) ?_
          refine lv_iload_n hx hb dX8_sheet_52 rfl (lv_at hl 3 rfl) ?_
          refine lv_iload_n hx hb dX8_sheet_53 rfl (lv_at hl 4 rfl) ?_
          obtain ⟨m12, h11, hF⟩ := ob_some hF
          refine cV_Wv C0 eX_st hP hS hK pkX6_lay (As := [.int a2, .int a3]) (rest := []) (kX6_lay l g ad tk mem k1 hk1 a2 a3 m12 h11) mL_X8_293 ⟨rfl, rfl, Nat.le_of_ble_eq_true rfl, Nat.le_of_ble_eq_true rfl, Nat.le_of_ble_eq_true rfl, Nat.le_of_ble_eq_true rfl⟩ k1 (wX_Sh hk1) rfl rfl rfl hl.1 rfl (Nat.le_of_ble_eq_true rfl) dX8_sheet_54 (fun H locs _ hP hS => ?_)
          refine lv_aload hx hb dX8_sheet_57 (lv_at hl 0 rfl) ?_
          obtain ⟨r14, h13, hF⟩ := ob_some hF
          refine cV_Ri C0 eX_st hP hS hK pkX6_size (As := []) (rest := []) (kX6_size l g ad tk m12 k1 hk1 r14 h13) mL_X8_295 ⟨rfl, rfl, Nat.le_of_ble_eq_true rfl, Nat.le_of_ble_eq_true rfl, Nat.le_of_ble_eq_true rfl, Nat.le_of_ble_eq_true rfl⟩ k1 (wX_Sh hk1) rfl rfl rfl hl.1 rfl (Nat.le_of_ble_eq_true rfl) dX8_sheet_59 (fun _ => ?_)
          cases hF
          exact ret_Wi C0 hP hS trivial dX8_sheet_62
        · replace hF := (if_neg c10).symm.trans hF
          refine lv_aload_n hx hb dX8_sheet_43 rfl (lv_at hl 1 rfl) ?_
          refine lv_ldc hx hb hown (hts _ mK_X8_80) dX8_sheet_44 ?_
          obtain ⟨r17, m16, h15, hF⟩ := ob2_some hF
          refine cV_Wi C0 eX_st hP hS hK pkX8_finding (As := [.int (-100001)]) (rest := []) (kX8_finding l g ad tk mem (-100001) r17 m16 h15) mL_X8_81 ⟨rfl, rfl, Nat.le_of_ble_eq_true rfl, Nat.le_of_ble_eq_true rfl, Nat.le_of_ble_eq_true rfl, Nat.le_of_ble_eq_true rfl⟩ 0 wX_0 rfl rfl rfl hl.1 rfl (Nat.le_of_ble_eq_true rfl) dX8_sheet_46 (fun H locs _ hP hS => ?_)
          cases hF
          exact ret_Wi C0 hP hS trivial dX8_sheet_49
      · replace hF := (if_neg c9).symm.trans hF
        refine lv_aload_n hx hb dX8_sheet_30 rfl (lv_at hl 1 rfl) ?_
        refine lv_ldc hx hb hown (hts _ mK_X8_131) dX8_sheet_31 ?_
        obtain ⟨r20, m19, h18, hF⟩ := ob2_some hF
        refine cV_Wi C0 eX_st hP hS hK pkX8_finding (As := [.int (-100003)]) (rest := []) (kX8_finding l g ad tk mem (-100003) r20 m19 h18) mL_X8_81 ⟨rfl, rfl, Nat.le_of_ble_eq_true rfl, Nat.le_of_ble_eq_true rfl, Nat.le_of_ble_eq_true rfl, Nat.le_of_ble_eq_true rfl⟩ 0 wX_0 rfl rfl rfl hl.1 rfl (Nat.le_of_ble_eq_true rfl) dX8_sheet_33 (fun H locs _ hP hS => ?_)
        cases hF
        exact ret_Wi C0 hP hS trivial dX8_sheet_36
    · replace hF := (if_pos c8).symm.trans hF
      refine lv_aload_n hx hb dX8_sheet_19 rfl (lv_at hl 1 rfl) ?_
      refine lv_ldc hx hb hown (hts _ mK_X8_80) dX8_sheet_20 ?_
      obtain ⟨r23, m22, h21, hF⟩ := ob2_some hF
      refine cV_Wi C0 eX_st hP hS hK pkX8_finding (As := [.int (-100001)]) (rest := []) (kX8_finding l g ad tk mem (-100001) r23 m22 h21) mL_X8_81 ⟨rfl, rfl, Nat.le_of_ble_eq_true rfl, Nat.le_of_ble_eq_true rfl, Nat.le_of_ble_eq_true rfl, Nat.le_of_ble_eq_true rfl⟩ 0 wX_0 rfl rfl rfl hl.1 rfl (Nat.le_of_ble_eq_true rfl) dX8_sheet_22 (fun H locs _ hP hS => ?_)
      cases hF
      exact ret_Wi C0 hP hS trivial dX8_sheet_25
theorem pkX8_put : pkV yX8_put cX8_put 5 (some .int) RX8 3 := ⟨mI_X8_put, mS_X8_put, mN_X8, mC_X8_put, by decide +kernel⟩
def fX8_put (mem : Mem) (a1 : Int32) (a2 : Int32) (a3 : Int32) : Option (Int32 × Mem) :=
  oc (shF a1) (ob2 (fX8_finding mem (-100001)) (fun r4 m3 => some (r4, m3))) (fun k1 => ob1 (fX6_isMissing k1 mem) (fun r6 => if r6 = 0 then (ob1 (fX6_size k1 mem) (fun r10 => ob1 (fX8_isWithin a2 0 (r10 - 1)) (fun r12 => if r12 = 0 then (ob2 (fX8_finding mem (-100001)) (fun r19 m18 => some (r19, m18))) else (ob1 (fX6_store k1 mem a2 a3) (fun m16 => some (0, m16)))))) else (ob2 (fX8_finding mem (-100002)) (fun r22 m21 => some (r22, m21)))))
set_option maxHeartbeats 4000000 in
set_option maxRecDepth 100000 in
theorem kX8_put (l : Launch) (g : gG) (ad : Nat → Nat) (tk : Nat) (mem : Mem) (a1 : Int32) (a2 : Int32) (a3 : Int32) (r : Int32) (mem2 : Mem) (hF : fX8_put mem a1 a2 a3 = some (r, mem2)) : Met l yX8_put (Cond.code yX8_put cX8_put 5 (some .int) :: gw) { frames := 3, cells := 0, slots := 0, locals := 67 } (pG (wX g ad mem) (eX g ad tk) g [.ref (ad 0), .int a1, .int a2, .int a3]) (qW (wX g ad mem2) g (AW 44 ad) (some (.int r)) (True)) 0 0 (AW 44 ad) := by
  refine met_of (by decide) (Nat.le_of_ble_eq_true rfl) ?_
  intro p e s m args below meth c ls C0 hP hl
  obtain ⟨hx, hb, hml, hown, hts, hr, hlk, hE⟩ := id C0
  obtain ⟨hK, hN, hA, hZ, hT, hTA⟩ := id hE
  have hl : lv_has ls 5 [(0, .ref (ad 0)), (1, .int a1), (2, .int a2), (3, .int a3)] := hl
  have hS : va_S (AW 44 ad) s.heap s.heap [] := va_S.rf
  unfold fX8_put at hF
  refine lv_aload_n hx hb dX8_put_0 rfl (lv_at hl 0 rfl) ?_
  refine lv_iload_n hx hb dX8_put_1 rfl (lv_at hl 1 rfl) ?_
  refine cV_Ra C0 eX_st hP hS hK pkX8_sheetAt (As := [.int a1]) (rest := []) (kX8_sheetAt l g ad tk mem a1) mL_X8_286 ⟨rfl, rfl, Nat.le_of_ble_eq_true rfl, Nat.le_of_ble_eq_true rfl, Nat.le_of_ble_eq_true rfl, Nat.le_of_ble_eq_true rfl⟩ 0 wX_0 rfl rfl rfl hl.1 rfl (Nat.le_of_ble_eq_true rfl) dX8_put_2 ?_
  cases ek1 : shF a1 with
  | none =>
    rw [ek1, oc_none] at hF
    show W _ _ _ _ _ _ _ _ _ _ _ _ _ _ _ (F0 _ _ _ (.null :: _))
    refine lv_astoreN (lv' := [(4, .null), (0, .ref (ad 0)), (1, .int a1), (2, .int a2), (3, .int a3)]) hx hb dX8_put_5 hl (by decide) rfl (fun ls hl => ?_)
    refine lv_aloadN hx hb dX8_put_7 (lv_at hl 0 rfl) ?_
    refine lv_ifnonnullN hx hb dX8_put_9 ?_
    refine lv_aload_n hx hb dX8_put_12 rfl (lv_at hl 1 rfl) ?_
    refine lv_ldc hx hb hown (hts _ mK_X8_80) dX8_put_13 ?_
    obtain ⟨r4, m3, h2, hF⟩ := ob2_some hF
    refine cV_Wi C0 eX_st hP hS hK pkX8_finding (As := [.int (-100001)]) (rest := []) (kX8_finding l g ad tk mem (-100001) r4 m3 h2) mL_X8_81 ⟨rfl, rfl, Nat.le_of_ble_eq_true rfl, Nat.le_of_ble_eq_true rfl, Nat.le_of_ble_eq_true rfl, Nat.le_of_ble_eq_true rfl⟩ 0 wX_0 rfl rfl rfl hl.1 rfl (Nat.le_of_ble_eq_true rfl) dX8_put_15 (fun H locs _ hP hS => ?_)
    cases hF
    exact ret_Wi C0 hP hS trivial dX8_put_18
  | some k1 =>
    rw [ek1, oc_some] at hF
    have hk1 := shF_in ek1
    show W _ _ _ _ _ _ _ _ _ _ _ _ _ _ _ (F0 _ _ _ (.ref (ad k1) :: _))
    refine lv_astore (lv' := [(4, .ref (ad k1)), (0, .ref (ad 0)), (1, .int a1), (2, .int a2), (3, .int a3)]) hx hb dX8_put_5 hl (by decide) rfl (fun ls hl => ?_)
    refine lv_aload hx hb dX8_put_7 (lv_at hl 0 rfl) ?_
    refine lv_ifnonnull (tgt := 19) hx hb dX8_put_9 (by decide) ?_
    refine lv_aload hx hb dX8_put_19 (lv_at hl 0 rfl) ?_
    obtain ⟨r6, h5, hF⟩ := ob_some hF
    refine cV_Ri C0 eX_st hP hS hK pkX6_isMissing (As := []) (rest := []) (kX6_isMissing l g ad tk mem k1 hk1 r6 h5) mL_X8_296 ⟨rfl, rfl, Nat.le_of_ble_eq_true rfl, Nat.le_of_ble_eq_true rfl, Nat.le_of_ble_eq_true rfl, Nat.le_of_ble_eq_true rfl⟩ k1 (wX_Sh hk1) rfl rfl rfl hl.1 rfl (Nat.le_of_ble_eq_true rfl) dX8_put_21 (fun b7 => ?_)
    refine lv_if_eq (tgt := 35) hx hb dX8_put_24 (by decide) (fun c8 => ?_) (fun c8 => ?_)
    · replace hF := (if_pos c8).symm.trans hF
      refine lv_iload_n hx hb dX8_put_35 rfl (lv_at hl 3 rfl) ?_
      refine lv_iconst (v := 0) hx hb dX8_put_36 (by decide) ?_
      refine lv_aload hx hb dX8_put_37 (lv_at hl 0 rfl) ?_
      obtain ⟨r10, h9, hF⟩ := ob_some hF
      refine cV_Ri C0 eX_st hP hS hK pkX6_size (As := []) (rest := [.int 0, .int a2]) (kX6_size l g ad tk mem k1 hk1 r10 h9) mL_X8_295 ⟨rfl, rfl, Nat.le_of_ble_eq_true rfl, Nat.le_of_ble_eq_true rfl, Nat.le_of_ble_eq_true rfl, Nat.le_of_ble_eq_true rfl⟩ k1 (wX_Sh hk1) rfl rfl rfl hl.1 rfl (Nat.le_of_ble_eq_true rfl) dX8_put_39 (fun _ => ?_)
      refine lv_iconst (v := 1) hx hb dX8_put_42 (by decide) ?_
      refine lv_isub hx hb dX8_put_43 ?_
      obtain ⟨r12, h11, hF⟩ := ob_some hF
      refine cS_Ri C0 pkX8_isWithin (As := [.int a2, .int 0, .int (r10 - 1)]) (rest := []) (kX8_isWithin l g a2 0 (r10 - 1) r12 h11) mL_X8_76 ⟨rfl, rfl, Nat.le_of_ble_eq_true rfl, Nat.le_of_ble_eq_true rfl, Nat.le_of_ble_eq_true rfl, Nat.le_of_ble_eq_true rfl⟩ rfl hl.1 rfl (Nat.le_of_ble_eq_true rfl) dX8_put_44 (fun b13 => ?_)
      refine lv_if_ne (tgt := 57) hx hb dX8_put_47 (by decide) (fun c14 => ?_) (fun c14 => ?_)
      · replace hF := (if_neg c14).symm.trans hF
        refine lv_aload hx hb dX8_put_57 (lv_at hl 0 rfl) ?_
        refine lv_iload_n hx hb dX8_put_59 rfl (lv_at hl 3 rfl) ?_
        refine lv_iload_n hx hb dX8_put_60 rfl (lv_at hl 4 rfl) ?_
        obtain ⟨m16, h15, hF⟩ := ob_some hF
        refine cV_Wv C0 eX_st hP hS hK pkX6_store (As := [.int a2, .int a3]) (rest := []) (kX6_store l g ad tk mem k1 hk1 a2 a3 m16 h15) mL_X8_300 ⟨rfl, rfl, Nat.le_of_ble_eq_true rfl, Nat.le_of_ble_eq_true rfl, Nat.le_of_ble_eq_true rfl, Nat.le_of_ble_eq_true rfl⟩ k1 (wX_Sh hk1) rfl rfl rfl hl.1 rfl (Nat.le_of_ble_eq_true rfl) dX8_put_61 (fun H locs _ hP hS => ?_)
        refine lv_iconst (v := 0) hx hb dX8_put_64 (by decide) ?_
        cases hF
        exact ret_Wi C0 hP hS trivial dX8_put_65
      · replace hF := (if_pos c14).symm.trans hF
        refine lv_aload_n hx hb dX8_put_50 rfl (lv_at hl 1 rfl) ?_
        refine lv_ldc hx hb hown (hts _ mK_X8_80) dX8_put_51 ?_
        obtain ⟨r19, m18, h17, hF⟩ := ob2_some hF
        refine cV_Wi C0 eX_st hP hS hK pkX8_finding (As := [.int (-100001)]) (rest := []) (kX8_finding l g ad tk mem (-100001) r19 m18 h17) mL_X8_81 ⟨rfl, rfl, Nat.le_of_ble_eq_true rfl, Nat.le_of_ble_eq_true rfl, Nat.le_of_ble_eq_true rfl, Nat.le_of_ble_eq_true rfl⟩ 0 wX_0 rfl rfl rfl hl.1 rfl (Nat.le_of_ble_eq_true rfl) dX8_put_53 (fun H locs _ hP hS => ?_)
        cases hF
        exact ret_Wi C0 hP hS trivial dX8_put_56
    · replace hF := (if_neg c8).symm.trans hF
      refine lv_aload_n hx hb dX8_put_27 rfl (lv_at hl 1 rfl) ?_
      refine lv_ldcw hx hb hown (hts _ mK_X8_299) dX8_put_28 ?_
      obtain ⟨r22, m21, h20, hF⟩ := ob2_some hF
      refine cV_Wi C0 eX_st hP hS hK pkX8_finding (As := [.int (-100002)]) (rest := []) (kX8_finding l g ad tk mem (-100002) r22 m21 h20) mL_X8_81 ⟨rfl, rfl, Nat.le_of_ble_eq_true rfl, Nat.le_of_ble_eq_true rfl, Nat.le_of_ble_eq_true rfl, Nat.le_of_ble_eq_true rfl⟩ 0 wX_0 rfl rfl rfl hl.1 rfl (Nat.le_of_ble_eq_true rfl) dX8_put_31 (fun H locs _ hP hS => ?_)
      cases hF
      exact ret_Wi C0 hP hS trivial dX8_put_34
theorem pkX8_copy : pkV yX8_copy cX8_copy 8 (some .int) RX8 5 := ⟨mI_X8_copy, mS_X8_copy, mN_X8, mC_X8_copy, by decide +kernel⟩
def fX8_copy (mem : Mem) (a1 : Int32) (a2 : Int32) (a3 : Int32) (a4 : Int32) (a5 : Int32) : Option (Int32 × Mem) :=
  oc (shF a1) (oc (shF a3) (ob2 (fX8_finding mem (-100001)) (fun r5 m4 => some (r5, m4))) (fun k2 => ob2 (fX8_finding mem (-100001)) (fun r8 m7 => some (r8, m7)))) (fun k1 => oc (shF a3) (ob2 (fX8_finding mem (-100001)) (fun r12 m11 => some (r12, m11))) (fun k9 => ob1 (fX6_isMissing k1 mem) (fun r14 => if r14 = 0 then (ob1 (fX6_isMissing k9 mem) (fun r21 => if r21 = 0 then (ob1 (fX6_width k1 mem) (fun r25 => ob1 (fX6_width k9 mem) (fun r27 => if r25 = r27 then (ob1 (fX6_spans k1 mem a2 a5) (fun r30 => if r30 = 0 then (ob2 (fX8_finding mem (-100001)) (fun r35 m34 => some (r35, m34))) else (ob1 (fX6_spans k9 mem a4 a5) (fun r37 => if r37 = 0 then (ob2 (fX8_finding mem (-100001)) (fun r44 m43 => some (r44, m43))) else (ob1 (fX6_take k9 k1 mem a4 a2 a5) (fun m41 => some (a5, m41))))))) else (ob2 (fX8_finding mem (-100004)) (fun r47 m46 => some (r47, m46)))))) else (ob2 (fX8_finding mem (-100002)) (fun r50 m49 => some (r50, m49))))) else (ob2 (fX8_finding mem (-100002)) (fun r19 m18 => some (r19, m18))))))
set_option maxHeartbeats 4000000 in
set_option maxRecDepth 100000 in
theorem kX8_copy (l : Launch) (g : gG) (ad : Nat → Nat) (tk : Nat) (mem : Mem) (a1 : Int32) (a2 : Int32) (a3 : Int32) (a4 : Int32) (a5 : Int32) (r : Int32) (mem2 : Mem) (hF : fX8_copy mem a1 a2 a3 a4 a5 = some (r, mem2)) : Met l yX8_copy (Cond.code yX8_copy cX8_copy 8 (some .int) :: gw) { frames := 4, cells := 0, slots := 0, locals := 83 } (pG (wX g ad mem) (eX g ad tk) g [.ref (ad 0), .int a1, .int a2, .int a3, .int a4, .int a5]) (qW (wX g ad mem2) g (AW 44 ad) (some (.int r)) (True)) 0 0 (AW 44 ad) := by
  refine met_of (by decide) (Nat.le_of_ble_eq_true rfl) ?_
  intro p e s m args below meth c ls C0 hP hl
  obtain ⟨hx, hb, hml, hown, hts, hr, hlk, hE⟩ := id C0
  obtain ⟨hK, hN, hA, hZ, hT, hTA⟩ := id hE
  have hl : lv_has ls 8 [(0, .ref (ad 0)), (1, .int a1), (2, .int a2), (3, .int a3), (4, .int a4), (5, .int a5)] := hl
  have hS : va_S (AW 44 ad) s.heap s.heap [] := va_S.rf
  unfold fX8_copy at hF
  refine lv_aload_n hx hb dX8_copy_0 rfl (lv_at hl 0 rfl) ?_
  refine lv_iload_n hx hb dX8_copy_1 rfl (lv_at hl 1 rfl) ?_
  refine cV_Ra C0 eX_st hP hS hK pkX8_sheetAt (As := [.int a1]) (rest := []) (kX8_sheetAt l g ad tk mem a1) mL_X8_286 ⟨rfl, rfl, Nat.le_of_ble_eq_true rfl, Nat.le_of_ble_eq_true rfl, Nat.le_of_ble_eq_true rfl, Nat.le_of_ble_eq_true rfl⟩ 0 wX_0 rfl rfl rfl hl.1 rfl (Nat.le_of_ble_eq_true rfl) dX8_copy_2 ?_
  cases ek1 : shF a1 with
  | none =>
    rw [ek1, oc_none] at hF
    show W _ _ _ _ _ _ _ _ _ _ _ _ _ _ _ (F0 _ _ _ (.null :: _))
    refine lv_astoreN (lv' := [(6, .null), (0, .ref (ad 0)), (1, .int a1), (2, .int a2), (3, .int a3), (4, .int a4), (5, .int a5)]) hx hb dX8_copy_5 hl (by decide) rfl (fun ls hl => ?_)
    refine lv_aload_n hx hb dX8_copy_7 rfl (lv_at hl 1 rfl) ?_
    refine lv_iload_n hx hb dX8_copy_8 rfl (lv_at hl 4 rfl) ?_
    refine cV_Ra C0 eX_st hP hS hK pkX8_sheetAt (As := [.int a3]) (rest := []) (kX8_sheetAt l g ad tk mem a3) mL_X8_286 ⟨rfl, rfl, Nat.le_of_ble_eq_true rfl, Nat.le_of_ble_eq_true rfl, Nat.le_of_ble_eq_true rfl, Nat.le_of_ble_eq_true rfl⟩ 0 wX_0 rfl rfl rfl hl.1 rfl (Nat.le_of_ble_eq_true rfl) dX8_copy_9 ?_
    cases ek2 : shF a3 with
    | none =>
      rw [ek2, oc_none] at hF
      show W _ _ _ _ _ _ _ _ _ _ _ _ _ _ _ (F0 _ _ _ (.null :: _))
      refine lv_astoreN (lv' := [(7, .null), (6, .null), (0, .ref (ad 0)), (1, .int a1), (2, .int a2), (3, .int a3), (4, .int a4), (5, .int a5)]) hx hb dX8_copy_12 hl (by decide) rfl (fun ls hl => ?_)
      refine lv_aloadN hx hb dX8_copy_14 (lv_at hl 1 rfl) ?_
      refine lv_ifnullN (tgt := 24) hx hb dX8_copy_16 (by decide) ?_
      refine lv_aload_n hx hb dX8_copy_24 rfl (lv_at hl 2 rfl) ?_
      refine lv_ldc hx hb hown (hts _ mK_X8_80) dX8_copy_25 ?_
      obtain ⟨r5, m4, h3, hF⟩ := ob2_some hF
      refine cV_Wi C0 eX_st hP hS hK pkX8_finding (As := [.int (-100001)]) (rest := []) (kX8_finding l g ad tk mem (-100001) r5 m4 h3) mL_X8_81 ⟨rfl, rfl, Nat.le_of_ble_eq_true rfl, Nat.le_of_ble_eq_true rfl, Nat.le_of_ble_eq_true rfl, Nat.le_of_ble_eq_true rfl⟩ 0 wX_0 rfl rfl rfl hl.1 rfl (Nat.le_of_ble_eq_true rfl) dX8_copy_27 (fun H locs _ hP hS => ?_)
      cases hF
      exact ret_Wi C0 hP hS trivial dX8_copy_30
    | some k2 =>
      rw [ek2, oc_some] at hF
      have hk2 := shF_in ek2
      show W _ _ _ _ _ _ _ _ _ _ _ _ _ _ _ (F0 _ _ _ (.ref (ad k2) :: _))
      refine lv_astore (lv' := [(7, .ref (ad k2)), (6, .null), (0, .ref (ad 0)), (1, .int a1), (2, .int a2), (3, .int a3), (4, .int a4), (5, .int a5)]) hx hb dX8_copy_12 hl (by decide) rfl (fun ls hl => ?_)
      refine lv_aloadN hx hb dX8_copy_14 (lv_at hl 1 rfl) ?_
      refine lv_ifnullN (tgt := 24) hx hb dX8_copy_16 (by decide) ?_
      refine lv_aload_n hx hb dX8_copy_24 rfl (lv_at hl 2 rfl) ?_
      refine lv_ldc hx hb hown (hts _ mK_X8_80) dX8_copy_25 ?_
      obtain ⟨r8, m7, h6, hF⟩ := ob2_some hF
      refine cV_Wi C0 eX_st hP hS hK pkX8_finding (As := [.int (-100001)]) (rest := []) (kX8_finding l g ad tk mem (-100001) r8 m7 h6) mL_X8_81 ⟨rfl, rfl, Nat.le_of_ble_eq_true rfl, Nat.le_of_ble_eq_true rfl, Nat.le_of_ble_eq_true rfl, Nat.le_of_ble_eq_true rfl⟩ 0 wX_0 rfl rfl rfl hl.1 rfl (Nat.le_of_ble_eq_true rfl) dX8_copy_27 (fun H locs _ hP hS => ?_)
      cases hF
      exact ret_Wi C0 hP hS trivial dX8_copy_30
  | some k1 =>
    rw [ek1, oc_some] at hF
    have hk1 := shF_in ek1
    show W _ _ _ _ _ _ _ _ _ _ _ _ _ _ _ (F0 _ _ _ (.ref (ad k1) :: _))
    refine lv_astore (lv' := [(6, .ref (ad k1)), (0, .ref (ad 0)), (1, .int a1), (2, .int a2), (3, .int a3), (4, .int a4), (5, .int a5)]) hx hb dX8_copy_5 hl (by decide) rfl (fun ls hl => ?_)
    refine lv_aload_n hx hb dX8_copy_7 rfl (lv_at hl 1 rfl) ?_
    refine lv_iload_n hx hb dX8_copy_8 rfl (lv_at hl 4 rfl) ?_
    refine cV_Ra C0 eX_st hP hS hK pkX8_sheetAt (As := [.int a3]) (rest := []) (kX8_sheetAt l g ad tk mem a3) mL_X8_286 ⟨rfl, rfl, Nat.le_of_ble_eq_true rfl, Nat.le_of_ble_eq_true rfl, Nat.le_of_ble_eq_true rfl, Nat.le_of_ble_eq_true rfl⟩ 0 wX_0 rfl rfl rfl hl.1 rfl (Nat.le_of_ble_eq_true rfl) dX8_copy_9 ?_
    cases ek9 : shF a3 with
    | none =>
      rw [ek9, oc_none] at hF
      show W _ _ _ _ _ _ _ _ _ _ _ _ _ _ _ (F0 _ _ _ (.null :: _))
      refine lv_astoreN (lv' := [(7, .null), (6, .ref (ad k1)), (0, .ref (ad 0)), (1, .int a1), (2, .int a2), (3, .int a3), (4, .int a4), (5, .int a5)]) hx hb dX8_copy_12 hl (by decide) rfl (fun ls hl => ?_)
      refine lv_aload hx hb dX8_copy_14 (lv_at hl 1 rfl) ?_
      refine lv_ifnull hx hb dX8_copy_16 ?_
      refine lv_aloadN hx hb dX8_copy_19 (lv_at hl 0 rfl) ?_
      refine lv_ifnonnullN hx hb dX8_copy_21 ?_
      refine lv_aload_n hx hb dX8_copy_24 rfl (lv_at hl 2 rfl) ?_
      refine lv_ldc hx hb hown (hts _ mK_X8_80) dX8_copy_25 ?_
      obtain ⟨r12, m11, h10, hF⟩ := ob2_some hF
      refine cV_Wi C0 eX_st hP hS hK pkX8_finding (As := [.int (-100001)]) (rest := []) (kX8_finding l g ad tk mem (-100001) r12 m11 h10) mL_X8_81 ⟨rfl, rfl, Nat.le_of_ble_eq_true rfl, Nat.le_of_ble_eq_true rfl, Nat.le_of_ble_eq_true rfl, Nat.le_of_ble_eq_true rfl⟩ 0 wX_0 rfl rfl rfl hl.1 rfl (Nat.le_of_ble_eq_true rfl) dX8_copy_27 (fun H locs _ hP hS => ?_)
      cases hF
      exact ret_Wi C0 hP hS trivial dX8_copy_30
    | some k9 =>
      rw [ek9, oc_some] at hF
      have hk9 := shF_in ek9
      show W _ _ _ _ _ _ _ _ _ _ _ _ _ _ _ (F0 _ _ _ (.ref (ad k9) :: _))
      refine lv_astore (lv' := [(7, .ref (ad k9)), (6, .ref (ad k1)), (0, .ref (ad 0)), (1, .int a1), (2, .int a2), (3, .int a3), (4, .int a4), (5, .int a5)]) hx hb dX8_copy_12 hl (by decide) rfl (fun ls hl => ?_)
      refine lv_aload hx hb dX8_copy_14 (lv_at hl 1 rfl) ?_
      refine lv_ifnull hx hb dX8_copy_16 ?_
      refine lv_aload hx hb dX8_copy_19 (lv_at hl 0 rfl) ?_
      refine lv_ifnonnull (tgt := 31) hx hb dX8_copy_21 (by decide) ?_
      refine lv_aload hx hb dX8_copy_31 (lv_at hl 1 rfl) ?_
      obtain ⟨r14, h13, hF⟩ := ob_some hF
      refine cV_Ri C0 eX_st hP hS hK pkX6_isMissing (As := []) (rest := []) (kX6_isMissing l g ad tk mem k1 hk1 r14 h13) mL_X8_296 ⟨rfl, rfl, Nat.le_of_ble_eq_true rfl, Nat.le_of_ble_eq_true rfl, Nat.le_of_ble_eq_true rfl, Nat.le_of_ble_eq_true rfl⟩ k1 (wX_Sh hk1) rfl rfl rfl hl.1 rfl (Nat.le_of_ble_eq_true rfl) dX8_copy_33 (fun b15 => ?_)
      refine lv_if_ne (tgt := 47) hx hb dX8_copy_36 (by decide) (fun c16 => ?_) (fun c16 => ?_)
      · replace hF := (if_neg c16).symm.trans hF
        refine lv_aload_n hx hb dX8_copy_47 rfl (lv_at hl 2 rfl) ?_
        refine lv_ldcw hx hb hown (hts _ mK_X8_299) dX8_copy_48 ?_
        obtain ⟨r19, m18, h17, hF⟩ := ob2_some hF
        refine cV_Wi C0 eX_st hP hS hK pkX8_finding (As := [.int (-100002)]) (rest := []) (kX8_finding l g ad tk mem (-100002) r19 m18 h17) mL_X8_81 ⟨rfl, rfl, Nat.le_of_ble_eq_true rfl, Nat.le_of_ble_eq_true rfl, Nat.le_of_ble_eq_true rfl, Nat.le_of_ble_eq_true rfl⟩ 0 wX_0 rfl rfl rfl hl.1 rfl (Nat.le_of_ble_eq_true rfl) dX8_copy_51 (fun H locs _ hP hS => ?_)
        cases hF
        exact ret_Wi C0 hP hS trivial dX8_copy_54
      · replace hF := (if_pos c16).symm.trans hF
        refine lv_aload hx hb dX8_copy_39 (lv_at hl 0 rfl) ?_
        obtain ⟨r21, h20, hF⟩ := ob_some hF
        refine cV_Ri C0 eX_st hP hS hK pkX6_isMissing (As := []) (rest := []) (kX6_isMissing l g ad tk mem k9 hk9 r21 h20) mL_X8_296 ⟨rfl, rfl, Nat.le_of_ble_eq_true rfl, Nat.le_of_ble_eq_true rfl, Nat.le_of_ble_eq_true rfl, Nat.le_of_ble_eq_true rfl⟩ k9 (wX_Sh hk9) rfl rfl rfl hl.1 rfl (Nat.le_of_ble_eq_true rfl) dX8_copy_41 (fun b22 => ?_)
        refine lv_if_eq (tgt := 55) hx hb dX8_copy_44 (by decide) (fun c23 => ?_) (fun c23 => ?_)
        · replace hF := (if_pos c23).symm.trans hF
          refine lv_aload hx hb dX8_copy_55 (lv_at hl 1 rfl) ?_
          obtain ⟨r25, h24, hF⟩ := ob_some hF
          refine cV_Ri C0 eX_st hP hS hK pkX6_width (As := []) (rest := []) (kX6_width l g ad tk mem k1 hk1 r25 h24) mL_X8_303 ⟨rfl, rfl, Nat.le_of_ble_eq_true rfl, Nat.le_of_ble_eq_true rfl, Nat.le_of_ble_eq_true rfl, Nat.le_of_ble_eq_true rfl⟩ k1 (wX_Sh hk1) rfl rfl rfl hl.1 rfl (Nat.le_of_ble_eq_true rfl) dX8_copy_57 (fun _ => ?_)
          refine lv_aload hx hb dX8_copy_60 (lv_at hl 0 rfl) ?_
          obtain ⟨r27, h26, hF⟩ := ob_some hF
          refine cV_Ri C0 eX_st hP hS hK pkX6_width (As := []) (rest := [.int r25]) (kX6_width l g ad tk mem k9 hk9 r27 h26) mL_X8_303 ⟨rfl, rfl, Nat.le_of_ble_eq_true rfl, Nat.le_of_ble_eq_true rfl, Nat.le_of_ble_eq_true rfl, Nat.le_of_ble_eq_true rfl⟩ k9 (wX_Sh hk9) rfl rfl rfl hl.1 rfl (Nat.le_of_ble_eq_true rfl) dX8_copy_62 (fun _ => ?_)
          refine lv_icmp_eq (tgt := 75) hx hb dX8_copy_65 (by decide) (fun c28 => ?_) (fun c28 => ?_)
          · replace hF := (if_pos c28).symm.trans hF
            refine lv_aload hx hb dX8_copy_75 (lv_at hl 1 rfl) ?_
            refine lv_iload_n hx hb dX8_copy_77 rfl (lv_at hl 4 rfl) ?_
            refine lv_iload hx hb dX8_copy_78 (lv_at hl 7 rfl) ?_
            obtain ⟨r30, h29, hF⟩ := ob_some hF
            refine cV_Ri C0 eX_st hP hS hK pkX6_spans (As := [.int a2, .int a5]) (rest := []) (kX6_spans l g ad tk mem k1 hk1 a2 a5 r30 h29) mL_X8_306 ⟨rfl, rfl, Nat.le_of_ble_eq_true rfl, Nat.le_of_ble_eq_true rfl, Nat.le_of_ble_eq_true rfl, Nat.le_of_ble_eq_true rfl⟩ k1 (wX_Sh hk1) rfl rfl rfl hl.1 rfl (Nat.le_of_ble_eq_true rfl) dX8_copy_80 (fun b31 => ?_)
            refine lv_if_eq (tgt := 98) hx hb dX8_copy_83 (by decide) (fun c32 => ?_) (fun c32 => ?_)
            · replace hF := (if_pos c32).symm.trans hF
              refine lv_aload_n hx hb dX8_copy_98 rfl (lv_at hl 2 rfl) ?_
              refine lv_ldc hx hb hown (hts _ mK_X8_80) dX8_copy_99 ?_
              obtain ⟨r35, m34, h33, hF⟩ := ob2_some hF
              refine cV_Wi C0 eX_st hP hS hK pkX8_finding (As := [.int (-100001)]) (rest := []) (kX8_finding l g ad tk mem (-100001) r35 m34 h33) mL_X8_81 ⟨rfl, rfl, Nat.le_of_ble_eq_true rfl, Nat.le_of_ble_eq_true rfl, Nat.le_of_ble_eq_true rfl, Nat.le_of_ble_eq_true rfl⟩ 0 wX_0 rfl rfl rfl hl.1 rfl (Nat.le_of_ble_eq_true rfl) dX8_copy_101 (fun H locs _ hP hS => ?_)
              cases hF
              exact ret_Wi C0 hP hS trivial dX8_copy_104
            · replace hF := (if_neg c32).symm.trans hF
              refine lv_aload hx hb dX8_copy_86 (lv_at hl 0 rfl) ?_
              refine lv_iload hx hb dX8_copy_88 (lv_at hl 6 rfl) ?_
              refine lv_iload hx hb dX8_copy_90 (lv_at hl 7 rfl) ?_
              obtain ⟨r37, h36, hF⟩ := ob_some hF
              refine cV_Ri C0 eX_st hP hS hK pkX6_spans (As := [.int a4, .int a5]) (rest := []) (kX6_spans l g ad tk mem k9 hk9 a4 a5 r37 h36) mL_X8_306 ⟨rfl, rfl, Nat.le_of_ble_eq_true rfl, Nat.le_of_ble_eq_true rfl, Nat.le_of_ble_eq_true rfl, Nat.le_of_ble_eq_true rfl⟩ k9 (wX_Sh hk9) rfl rfl rfl hl.1 rfl (Nat.le_of_ble_eq_true rfl) dX8_copy_92 (fun b38 => ?_)
              refine lv_if_ne (tgt := 105) hx hb dX8_copy_95 (by decide) (fun c39 => ?_) (fun c39 => ?_)
              · replace hF := (if_neg c39).symm.trans hF
                refine lv_aload hx hb dX8_copy_105 (lv_at hl 0 rfl) ?_
                refine lv_iload hx hb dX8_copy_107 (lv_at hl 6 rfl) ?_
                refine lv_aload hx hb dX8_copy_109 (lv_at hl 1 rfl) ?_
                refine lv_iload_n hx hb dX8_copy_111 rfl (lv_at hl 4 rfl) ?_
                refine lv_iload hx hb dX8_copy_112 (lv_at hl 7 rfl) ?_
                obtain ⟨m41, h40, hF⟩ := ob_some hF
                refine cV_Wv C0 eX_st hP hS hK pkX6_take (As := [.int a4, .ref (ad k1), .int a2, .int a5]) (rest := []) (kX6_take l g ad tk mem k9 hk9 k1 hk1 a4 a2 a5 m41 h40) mL_X8_309 ⟨rfl, rfl, Nat.le_of_ble_eq_true rfl, Nat.le_of_ble_eq_true rfl, Nat.le_of_ble_eq_true rfl, Nat.le_of_ble_eq_true rfl⟩ k9 (wX_Sh hk9) rfl rfl rfl hl.1 rfl (Nat.le_of_ble_eq_true rfl) dX8_copy_114 (fun H locs _ hP hS => ?_)
                refine lv_iload hx hb dX8_copy_117 (lv_at hl 7 rfl) ?_
                cases hF
                exact ret_Wi C0 hP hS trivial dX8_copy_119
              · replace hF := (if_pos c39).symm.trans hF
                refine lv_aload_n hx hb dX8_copy_98 rfl (lv_at hl 2 rfl) ?_
                refine lv_ldc hx hb hown (hts _ mK_X8_80) dX8_copy_99 ?_
                obtain ⟨r44, m43, h42, hF⟩ := ob2_some hF
                refine cV_Wi C0 eX_st hP hS hK pkX8_finding (As := [.int (-100001)]) (rest := []) (kX8_finding l g ad tk mem (-100001) r44 m43 h42) mL_X8_81 ⟨rfl, rfl, Nat.le_of_ble_eq_true rfl, Nat.le_of_ble_eq_true rfl, Nat.le_of_ble_eq_true rfl, Nat.le_of_ble_eq_true rfl⟩ 0 wX_0 rfl rfl rfl hl.1 rfl (Nat.le_of_ble_eq_true rfl) dX8_copy_101 (fun H locs _ hP hS => ?_)
                cases hF
                exact ret_Wi C0 hP hS trivial dX8_copy_104
          · replace hF := (if_neg c28).symm.trans hF
            refine lv_aload_n hx hb dX8_copy_68 rfl (lv_at hl 2 rfl) ?_
            refine lv_ldc hx hb hown (hts _ mK_X8_102) dX8_copy_69 ?_
            obtain ⟨r47, m46, h45, hF⟩ := ob2_some hF
            refine cV_Wi C0 eX_st hP hS hK pkX8_finding (As := [.int (-100004)]) (rest := []) (kX8_finding l g ad tk mem (-100004) r47 m46 h45) mL_X8_81 ⟨rfl, rfl, Nat.le_of_ble_eq_true rfl, Nat.le_of_ble_eq_true rfl, Nat.le_of_ble_eq_true rfl, Nat.le_of_ble_eq_true rfl⟩ 0 wX_0 rfl rfl rfl hl.1 rfl (Nat.le_of_ble_eq_true rfl) dX8_copy_71 (fun H locs _ hP hS => ?_)
            cases hF
            exact ret_Wi C0 hP hS trivial dX8_copy_74
        · replace hF := (if_neg c23).symm.trans hF
          refine lv_aload_n hx hb dX8_copy_47 rfl (lv_at hl 2 rfl) ?_
          refine lv_ldcw hx hb hown (hts _ mK_X8_299) dX8_copy_48 ?_
          obtain ⟨r50, m49, h48, hF⟩ := ob2_some hF
          refine cV_Wi C0 eX_st hP hS hK pkX8_finding (As := [.int (-100002)]) (rest := []) (kX8_finding l g ad tk mem (-100002) r50 m49 h48) mL_X8_81 ⟨rfl, rfl, Nat.le_of_ble_eq_true rfl, Nat.le_of_ble_eq_true rfl, Nat.le_of_ble_eq_true rfl, Nat.le_of_ble_eq_true rfl⟩ 0 wX_0 rfl rfl rfl hl.1 rfl (Nat.le_of_ble_eq_true rfl) dX8_copy_51 (fun H locs _ hP hS => ?_)
          cases hF
          exact ret_Wi C0 hP hS trivial dX8_copy_54
theorem pkX8_faultOfKeys : pkS yX8_faultOfKeys cX8_faultOfKeys 4 (some .int) 2 := ⟨mT_X8_faultOfKeys, mN_X8, mC_X8_faultOfKeys, by decide +kernel⟩
def fX8_faultOfKeys_36 (k : Nat) (mem : Mem) (z1 : Int32) (z2 : Int32) (kc : Int32 → Option (Int32)) : Nat → Int32 → Option (Int32)
  | 0, _ => none
  | n + 1, x3 =>
    if z2 ≤ x3 then (kc (z2 + 1)) else (ob1 (fX6_numberAt k mem z2) (fun r6 => ob1 (fX6_numberAt k mem x3) (fun r8 => if r6 = r8 then (some (-100003)) else (fX8_faultOfKeys_36 k mem z1 z2 kc n (x3 + 1)))))
set_option maxHeartbeats 4000000 in
set_option maxRecDepth 100000 in
theorem lpX8_faultOfKeys_36 {p : Program} {l : Launch} {e : Env} {s : State} {m : MethodId} {args : Array Value} {below : List Frame} {meth : Method} {c : Code} (g : gG) (ad : Nat → Nat) (tk : Nat) (k : Nat) (hk : isSh k) (mem : Mem) (z1 : Int32) (z2 : Int32) (kc : Int32 → Option (Int32)) (r : Int32) (C0 : cxt (eX g ad tk) cX8_faultOfKeys 4 RX8 (some .int) p s m args meth c) (hP : va_P g.1 vwCl (wX g ad mem) s.heap)
    (hkc : ∀ (x2 : Int32) (ls : Array Slot), kc x2 = some r → lv_has ls 4 [(0, .ref (ad k)), (1, .int z1), (2, .int x2)] → W p l e { frames := 3, cells := 0, slots := 0, locals := 66 } s m args below meth c s.heap [] 0 0 (MQ below (qR (some (.int r)) (True)) args s 0 0 noA) (F0 m 29 ls [])) :
    ∀ (n : Nat) (x3 : Int32) (ls : Array Slot), fX8_faultOfKeys_36 k mem z1 z2 kc n x3 = some r → lv_has ls 4 [(0, .ref (ad k)), (1, .int z1), (2, .int z2), (3, .int x3)] → W p l e { frames := 3, cells := 0, slots := 0, locals := 66 } s m args below meth c s.heap [] 0 0 (MQ below (qR (some (.int r)) (True)) args s 0 0 noA) (F0 m 36 ls []) := by
  obtain ⟨hx, hb, hml, hown, hts, hr, hlk, hE⟩ := id C0
  obtain ⟨hK, hN, hA, hZ, hT, hTA⟩ := id hE
  intro n
  induction n with
  | zero =>
    intro x3 ls hF hl
    cases hF
  | succ n ih =>
    intro x3 ls hF hl
    rw [fX8_faultOfKeys_36] at hF
    have hS : va_S (AW 44 ad) s.heap s.heap [] := va_S.rf
    refine lv_iload_n hx hb dX8_faultOfKeys_36 rfl (lv_at hl 3 rfl) ?_
    refine lv_iload_n hx hb dX8_faultOfKeys_37 rfl (lv_at hl 2 rfl) ?_
    refine lv_icmp_ge (tgt := 63) hx hb dX8_faultOfKeys_38 (by decide) (fun c4 => ?_) (fun c4 => ?_)
    · replace hF := (if_pos c4).symm.trans hF
      refine lv_iinc (v := z2 + 1) (lv' := [(2, .int (z2 + 1)), (0, .ref (ad k)), (1, .int z1), (3, .int x3)]) hx hb dX8_faultOfKeys_63 hl (k := 2) rfl rfl (by decide) rfl (fun ls hl => ?_)
      refine lv_goto (tgt := 29) hx hb dX8_faultOfKeys_66 (by decide) ?_
      exact hkc (z2 + 1) ls hF (lv_sub hl [1, 2, 0] rfl)
    · replace hF := (if_neg c4).symm.trans hF
      refine lv_aload_n hx hb dX8_faultOfKeys_41 rfl (lv_at hl 0 rfl) ?_
      refine lv_iload_n hx hb dX8_faultOfKeys_42 rfl (lv_at hl 2 rfl) ?_
      obtain ⟨r6, h5, hF⟩ := ob_some hF
      refine cV_Ri C0 eX_st hP hS hK pkX6_numberAt (As := [.int z2]) (rest := []) (kX6_numberAt l g ad tk mem k hk z2 r6 h5) mL_X8_319 ⟨rfl, rfl, Nat.le_of_ble_eq_true rfl, Nat.le_of_ble_eq_true rfl, Nat.le_of_ble_eq_true rfl, Nat.le_of_ble_eq_true rfl⟩ k (wX_Sh hk) rfl rfl rfl hl.1 rfl (Nat.le_of_ble_eq_true rfl) dX8_faultOfKeys_43 (fun _ => ?_)
      refine lv_aload_n hx hb dX8_faultOfKeys_46 rfl (lv_at hl 0 rfl) ?_
      refine lv_iload_n hx hb dX8_faultOfKeys_47 rfl (lv_at hl 3 rfl) ?_
      obtain ⟨r8, h7, hF⟩ := ob_some hF
      refine cV_Ri C0 eX_st hP hS hK pkX6_numberAt (As := [.int x3]) (rest := [.int r6]) (kX6_numberAt l g ad tk mem k hk x3 r8 h7) mL_X8_319 ⟨rfl, rfl, Nat.le_of_ble_eq_true rfl, Nat.le_of_ble_eq_true rfl, Nat.le_of_ble_eq_true rfl, Nat.le_of_ble_eq_true rfl⟩ k (wX_Sh hk) rfl rfl rfl hl.1 rfl (Nat.le_of_ble_eq_true rfl) dX8_faultOfKeys_48 (fun _ => ?_)
      refine lv_icmp_ne (tgt := 57) hx hb dX8_faultOfKeys_51 (by decide) (fun c9 => ?_) (fun c9 => ?_)
      · replace hF := (if_neg c9).symm.trans hF
        refine lv_iinc (v := x3 + 1) (lv' := [(3, .int (x3 + 1)), (0, .ref (ad k)), (1, .int z1), (2, .int z2)]) hx hb dX8_faultOfKeys_57 hl (k := 3) rfl rfl (by decide) rfl (fun ls hl => ?_)
        refine lv_goto (tgt := 36) hx hb dX8_faultOfKeys_60 (by decide) ?_
        exact ih (x3 + 1) ls hF (lv_sub hl [1, 2, 3, 0] rfl)
      · replace hF := (if_pos c9).symm.trans hF
        refine lv_ldc hx hb hown (hts _ mK_X8_131) dX8_faultOfKeys_54 ?_
        cases hF
        exact ret_Ri C0 trivial dX8_faultOfKeys_56
def fX8_faultOfKeys_29 (k : Nat) (mem : Mem) (z1 : Int32) : Nat → Int32 → Option (Int32)
  | 0, _ => none
  | n + 1, x2 =>
    if z1 ≤ x2 then (if z1 ≤ 6 then (some 0) else (some (-100005))) else (fX8_faultOfKeys_36 k mem z1 x2 (fX8_faultOfKeys_29 k mem z1 n) fu 0)
set_option maxHeartbeats 4000000 in
set_option maxRecDepth 100000 in
theorem lpX8_faultOfKeys_29 {p : Program} {l : Launch} {e : Env} {s : State} {m : MethodId} {args : Array Value} {below : List Frame} {meth : Method} {c : Code} (g : gG) (ad : Nat → Nat) (tk : Nat) (k : Nat) (hk : isSh k) (mem : Mem) (z1 : Int32) (r : Int32) (C0 : cxt (eX g ad tk) cX8_faultOfKeys 4 RX8 (some .int) p s m args meth c) (hP : va_P g.1 vwCl (wX g ad mem) s.heap) :
    ∀ (n : Nat) (x2 : Int32) (ls : Array Slot), fX8_faultOfKeys_29 k mem z1 n x2 = some r → lv_has ls 4 [(0, .ref (ad k)), (1, .int z1), (2, .int x2)] → W p l e { frames := 3, cells := 0, slots := 0, locals := 66 } s m args below meth c s.heap [] 0 0 (MQ below (qR (some (.int r)) (True)) args s 0 0 noA) (F0 m 29 ls []) := by
  obtain ⟨hx, hb, hml, hown, hts, hr, hlk, hE⟩ := id C0
  obtain ⟨hK, hN, hA, hZ, hT, hTA⟩ := id hE
  intro n
  induction n with
  | zero =>
    intro x2 ls hF hl
    cases hF
  | succ n ih =>
    intro x2 ls hF hl
    rw [fX8_faultOfKeys_29] at hF
    have hS : va_S (AW 44 ad) s.heap s.heap [] := va_S.rf
    refine lv_iload_n hx hb dX8_faultOfKeys_29 rfl (lv_at hl 2 rfl) ?_
    refine lv_iload_n hx hb dX8_faultOfKeys_30 rfl (lv_at hl 1 rfl) ?_
    refine lv_icmp_ge (tgt := 69) hx hb dX8_faultOfKeys_31 (by decide) (fun c2 => ?_) (fun c2 => ?_)
    · replace hF := (if_pos c2).symm.trans hF
      refine lv_iload_n hx hb dX8_faultOfKeys_69 rfl (lv_at hl 1 rfl) ?_
      refine lv_bipush (v := 6) hx hb dX8_faultOfKeys_70 (by decide) ?_
      refine lv_icmp_le (tgt := 80) hx hb dX8_faultOfKeys_72 (by decide) (fun c3 => ?_) (fun c3 => ?_)
      · replace hF := (if_pos c3).symm.trans hF
        refine lv_iconst (v := 0) hx hb dX8_faultOfKeys_80 (by decide) ?_
        cases hF
        exact ret_Ri C0 trivial dX8_faultOfKeys_81
      · replace hF := (if_neg c3).symm.trans hF
        refine lv_ldc hx hb hown (hts _ mK_X8_89) dX8_faultOfKeys_75 ?_
        refine lv_goto (tgt := 81) hx hb dX8_faultOfKeys_77 (by decide) ?_
        cases hF
        exact ret_Ri C0 trivial dX8_faultOfKeys_81
    · replace hF := (if_neg c2).symm.trans hF
      refine lv_iconst (v := 0) hx hb dX8_faultOfKeys_34 (by decide) ?_
      refine lv_istore_n (lv' := [(3, .int 0), (0, .ref (ad k)), (1, .int z1), (2, .int x2)]) hx hb dX8_faultOfKeys_35 rfl hl (by decide) rfl (fun ls hl => ?_)
      exact lpX8_faultOfKeys_36 g ad tk k hk mem z1 x2 (fX8_faultOfKeys_29 k mem z1 n) r C0 hP ih fu 0 ls hF (lv_sub hl [1, 2, 3, 0] rfl)
def fX8_faultOfKeys_2 (k : Nat) (mem : Mem) (z1 : Int32) : Nat → Int32 → Option (Int32)
  | 0, _ => none
  | n + 1, x2 =>
    if z1 ≤ x2 then (fX8_faultOfKeys_29 k mem z1 fu 0) else (ob1 (fX6_numberAt k mem x2) (fun r11 => ob1 (fX8_isKey r11) (fun r13 => if r13 = 0 then (some (-100001)) else (fX8_faultOfKeys_2 k mem z1 n (x2 + 1)))))
set_option maxHeartbeats 4000000 in
set_option maxRecDepth 100000 in
theorem lpX8_faultOfKeys_2 {p : Program} {l : Launch} {e : Env} {s : State} {m : MethodId} {args : Array Value} {below : List Frame} {meth : Method} {c : Code} (g : gG) (ad : Nat → Nat) (tk : Nat) (k : Nat) (hk : isSh k) (mem : Mem) (z1 : Int32) (r : Int32) (C0 : cxt (eX g ad tk) cX8_faultOfKeys 4 RX8 (some .int) p s m args meth c) (hP : va_P g.1 vwCl (wX g ad mem) s.heap) :
    ∀ (n : Nat) (x2 : Int32) (ls : Array Slot), fX8_faultOfKeys_2 k mem z1 n x2 = some r → lv_has ls 4 [(0, .ref (ad k)), (1, .int z1), (2, .int x2)] → W p l e { frames := 3, cells := 0, slots := 0, locals := 66 } s m args below meth c s.heap [] 0 0 (MQ below (qR (some (.int r)) (True)) args s 0 0 noA) (F0 m 2 ls []) := by
  obtain ⟨hx, hb, hml, hown, hts, hr, hlk, hE⟩ := id C0
  obtain ⟨hK, hN, hA, hZ, hT, hTA⟩ := id hE
  intro n
  induction n with
  | zero =>
    intro x2 ls hF hl
    cases hF
  | succ n ih =>
    intro x2 ls hF hl
    rw [fX8_faultOfKeys_2] at hF
    have hS : va_S (AW 44 ad) s.heap s.heap [] := va_S.rf
    refine lv_iload_n hx hb dX8_faultOfKeys_2 rfl (lv_at hl 2 rfl) ?_
    refine lv_iload_n hx hb dX8_faultOfKeys_3 rfl (lv_at hl 1 rfl) ?_
    refine lv_icmp_ge (tgt := 27) hx hb dX8_faultOfKeys_4 (by decide) (fun c1 => ?_) (fun c1 => ?_)
    · replace hF := (if_pos c1).symm.trans hF
      refine lv_iconst (v := 0) hx hb dX8_faultOfKeys_27 (by decide) ?_
      refine lv_istore_n (lv' := [(2, .int 0), (0, .ref (ad k)), (1, .int z1)]) hx hb dX8_faultOfKeys_28 rfl hl (by decide) rfl (fun ls hl => ?_)
      exact lpX8_faultOfKeys_29 g ad tk k hk mem z1 r C0 hP fu 0 ls hF (lv_sub hl [1, 2, 0] rfl)
    · replace hF := (if_neg c1).symm.trans hF
      refine lv_aload_n hx hb dX8_faultOfKeys_7 rfl (lv_at hl 0 rfl) ?_
      refine lv_iload_n hx hb dX8_faultOfKeys_8 rfl (lv_at hl 2 rfl) ?_
      obtain ⟨r11, h10, hF⟩ := ob_some hF
      refine cV_Ri C0 eX_st hP hS hK pkX6_numberAt (As := [.int x2]) (rest := []) (kX6_numberAt l g ad tk mem k hk x2 r11 h10) mL_X8_319 ⟨rfl, rfl, Nat.le_of_ble_eq_true rfl, Nat.le_of_ble_eq_true rfl, Nat.le_of_ble_eq_true rfl, Nat.le_of_ble_eq_true rfl⟩ k (wX_Sh hk) rfl rfl rfl hl.1 rfl (Nat.le_of_ble_eq_true rfl) dX8_faultOfKeys_9 (fun _ => ?_)
      obtain ⟨r13, h12, hF⟩ := ob_some hF
      refine cS_Ri C0 pkX8_isKey (As := [.int r11]) (rest := []) (kX8_isKey l g r11 r13 h12) mL_X8_142 ⟨rfl, rfl, Nat.le_of_ble_eq_true rfl, Nat.le_of_ble_eq_true rfl, Nat.le_of_ble_eq_true rfl, Nat.le_of_ble_eq_true rfl⟩ rfl hl.1 rfl (Nat.le_of_ble_eq_true rfl) dX8_faultOfKeys_12 (fun b14 => ?_)
      refine lv_if_ne (tgt := 21) hx hb dX8_faultOfKeys_15 (by decide) (fun c15 => ?_) (fun c15 => ?_)
      · replace hF := (if_neg c15).symm.trans hF
        refine lv_iinc (v := x2 + 1) (lv' := [(2, .int (x2 + 1)), (0, .ref (ad k)), (1, .int z1)]) hx hb dX8_faultOfKeys_21 hl (k := 2) rfl rfl (by decide) rfl (fun ls hl => ?_)
        refine lv_goto (tgt := 2) hx hb dX8_faultOfKeys_24 (by decide) ?_
        exact ih (x2 + 1) ls hF (lv_sub hl [1, 2, 0] rfl)
      · replace hF := (if_pos c15).symm.trans hF
        refine lv_ldc hx hb hown (hts _ mK_X8_80) dX8_faultOfKeys_18 ?_
        cases hF
        exact ret_Ri C0 trivial dX8_faultOfKeys_20
def fX8_faultOfKeys (k : Nat) (mem : Mem) (a1 : Int32) : Option (Int32) :=
  fX8_faultOfKeys_2 k mem a1 fu 0
set_option maxHeartbeats 4000000 in
set_option maxRecDepth 100000 in
theorem kX8_faultOfKeys (l : Launch) (g : gG) (ad : Nat → Nat) (tk : Nat) (mem : Mem) (k : Nat) (hk : isSh k) (a1 : Int32) (r : Int32) (hF : fX8_faultOfKeys k mem a1 = some r) : Met l yX8_faultOfKeys (Cond.code yX8_faultOfKeys cX8_faultOfKeys 4 (some .int) :: gw) { frames := 3, cells := 0, slots := 0, locals := 66 } (pG (wX g ad mem) (eX g ad tk) g [.ref (ad k), .int a1]) (qR (some (.int r)) (True)) 0 0 noA := by
  refine met_of (by decide) (Nat.le_of_ble_eq_true rfl) ?_
  intro p e s m args below meth c ls C0 hP hl
  obtain ⟨hx, hb, hml, hown, hts, hr, hlk, hE⟩ := id C0
  obtain ⟨hK, hN, hA, hZ, hT, hTA⟩ := id hE
  have hl : lv_has ls 4 [(0, .ref (ad k)), (1, .int a1)] := hl
  have hS : va_S (AW 44 ad) s.heap s.heap [] := va_S.rf
  unfold fX8_faultOfKeys at hF
  refine lv_iconst (v := 0) hx hb dX8_faultOfKeys_0 (by decide) ?_
  refine lv_istore_n (lv' := [(2, .int 0), (0, .ref (ad k)), (1, .int a1)]) hx hb dX8_faultOfKeys_1 rfl hl (by decide) rfl (fun ls hl => ?_)
  exact lpX8_faultOfKeys_2 g ad tk k hk mem a1 r C0 hP fu 0 ls hF (lv_sub hl [1, 2, 0] rfl)
theorem pkX8_read : pkV yX8_read cX8_read 6 (some .int) RX8 1 := ⟨mI_X8_read, mS_X8_read, mN_X8, mC_X8_read, by decide +kernel⟩
def fX8_read_66 (k1 : Nat) (z1 : Int32) (z3 : Int32) (z4 : Int32) : Nat → Mem → Int32 → Option (Int32 × Mem)
  | 0, _, _ => none
  | n + 1, mem, x5 =>
    if z3 ≤ x5 then (some (z3, mem)) else (ob1 (fX6_numberAt k1 mem x5) (fun r18 => ob1 (fX5_append mem r18) (fun m20 => fX8_read_66 k1 z1 z3 z4 n m20 (x5 + 1))))
set_option maxHeartbeats 4000000 in
set_option maxRecDepth 100000 in
theorem lpX8_read_66 {p : Program} {l : Launch} {e : Env} {s : State} {m : MethodId} {args : Array Value} {below : List Frame} {meth : Method} {c : Code} (g : gG) (ad : Nat → Nat) (tk : Nat) (k1 : Nat) (hk1 : isSh k1) (z1 : Int32) (z3 : Int32) (z4 : Int32) (r : Int32) (mem2 : Mem) (C0 : cxt (eX g ad tk) cX8_read 6 RX8 (some .int) p s m args meth c) :
    ∀ (n : Nat) (mem : Mem) (x5 : Int32) (H : Heap) (locs : List Loc) (ls : Array Slot), fX8_read_66 k1 z1 z3 z4 n mem x5 = some (r, mem2) → va_P g.1 vwCl (wX g ad mem) H → va_S (AW 44 ad) s.heap H locs → lv_has ls 6 [(0, .ref (ad 0)), (1, .int z1), (2, .ref (ad k1)), (3, .int z3), (4, .int z4), (5, .int x5)] → W p l e { frames := 4, cells := 0, slots := 0, locals := 89 } s m args below meth c H locs 0 0 (MQ below (qW (wX g ad mem2) g (AW 44 ad) (some (.int r)) (True)) args s 0 0 (AW 44 ad)) (F0 m 66 ls []) := by
  obtain ⟨hx, hb, hml, hown, hts, hr, hlk, hE⟩ := id C0
  obtain ⟨hK, hN, hA, hZ, hT, hTA⟩ := id hE
  intro n
  induction n with
  | zero =>
    intro mem x5 H locs ls hF hP hS hl
    cases hF
  | succ n ih =>
    intro mem x5 H locs ls hF hP hS hl
    rw [fX8_read_66] at hF
    refine lv_iload hx hb dX8_read_66 (lv_at hl 5 rfl) ?_
    refine lv_iload_n hx hb dX8_read_68 rfl (lv_at hl 3 rfl) ?_
    refine lv_icmp_ge (tgt := 91) hx hb dX8_read_69 (by decide) (fun c16 => ?_) (fun c16 => ?_)
    · replace hF := (if_pos c16).symm.trans hF
      refine lv_iload_n hx hb dX8_read_91 rfl (lv_at hl 3 rfl) ?_
      cases hF
      exact ret_Wi C0 hP hS trivial dX8_read_92
    · replace hF := (if_neg c16).symm.trans hF
      refine lv_aload_n hx hb dX8_read_72 rfl (lv_at hl 0 rfl) ?_
      refine get_W C0 hK hP iwX8 0 wX_0 rfl 3 (by decide) mF_X8_31 rfl rfl dX8_read_73 ?_
      refine lv_aload_n hx hb dX8_read_76 rfl (lv_at hl 2 rfl) ?_
      refine lv_iload hx hb dX8_read_77 (lv_at hl 5 rfl) ?_
      obtain ⟨r18, h17, hF⟩ := ob_some hF
      refine cV_Ri C0 eX_st hP hS hK pkX6_numberAt (As := [.int x5]) (rest := [.ref (ad 17)]) (kX6_numberAt l g ad tk mem k1 hk1 x5 r18 h17) mL_X8_319 ⟨rfl, rfl, Nat.le_of_ble_eq_true rfl, Nat.le_of_ble_eq_true rfl, Nat.le_of_ble_eq_true rfl, Nat.le_of_ble_eq_true rfl⟩ k1 (wX_Sh hk1) rfl rfl rfl hl.1 rfl (Nat.le_of_ble_eq_true rfl) dX8_read_79 (fun _ => ?_)
      obtain ⟨m20, h19, hF⟩ := ob_some hF
      refine cV_Wv C0 eX_st hP hS hK pkX5_append (As := [.int r18]) (rest := []) (kX5_append l g ad tk mem r18 m20 h19) mL_X8_147 ⟨rfl, rfl, Nat.le_of_ble_eq_true rfl, Nat.le_of_ble_eq_true rfl, Nat.le_of_ble_eq_true rfl, Nat.le_of_ble_eq_true rfl⟩ 17 wX_17 rfl rfl rfl hl.1 rfl (Nat.le_of_ble_eq_true rfl) dX8_read_82 (fun H locs _ hP hS => ?_)
      refine lv_iinc (v := x5 + 1) (lv' := [(5, .int (x5 + 1)), (0, .ref (ad 0)), (1, .int z1), (2, .ref (ad k1)), (3, .int z3), (4, .int z4)]) hx hb dX8_read_85 hl (k := 5) rfl rfl (by decide) rfl (fun ls hl => ?_)
      refine lv_goto (tgt := 66) hx hb dX8_read_88 (by decide) ?_
      exact ih m20 (x5 + 1) _ _ ls hF hP hS (lv_sub hl [1, 2, 3, 4, 5, 0] rfl)
def fX8_read (mem : Mem) (a1 : Int32) : Option (Int32 × Mem) :=
  oc (shF a1) (ob2 (fX8_finding mem (-100001)) (fun r4 m3 => some (r4, m3))) (fun k1 => ob1 (fX6_isMissing k1 mem) (fun r6 => if r6 = 0 then (ob1 (fX6_lengthToZero k1 mem) (fun r10 => ob1 (fX8_faultOfKeys k1 mem r10) (fun r12 => if r12 = 0 then (ob1 (fX5_clear mem) (fun m15 => fX8_read_66 k1 a1 r10 r12 fu m15 0)) else (ob2 (fX8_finding mem r12) (fun r23 m22 => some (r23, m22)))))) else (ob2 (fX8_finding mem (-100002)) (fun r26 m25 => some (r26, m25)))))
set_option maxHeartbeats 4000000 in
set_option maxRecDepth 100000 in
theorem kX8_read (l : Launch) (g : gG) (ad : Nat → Nat) (tk : Nat) (mem : Mem) (a1 : Int32) (r : Int32) (mem2 : Mem) (hF : fX8_read mem a1 = some (r, mem2)) : Met l yX8_read (Cond.code yX8_read cX8_read 6 (some .int) :: gw) { frames := 4, cells := 0, slots := 0, locals := 89 } (pG (wX g ad mem) (eX g ad tk) g [.ref (ad 0), .int a1]) (qW (wX g ad mem2) g (AW 44 ad) (some (.int r)) (True)) 0 0 (AW 44 ad) := by
  refine met_of (by decide) (Nat.le_of_ble_eq_true rfl) ?_
  intro p e s m args below meth c ls C0 hP hl
  obtain ⟨hx, hb, hml, hown, hts, hr, hlk, hE⟩ := id C0
  obtain ⟨hK, hN, hA, hZ, hT, hTA⟩ := id hE
  have hl : lv_has ls 6 [(0, .ref (ad 0)), (1, .int a1)] := hl
  have hS : va_S (AW 44 ad) s.heap s.heap [] := va_S.rf
  unfold fX8_read at hF
  refine lv_aload_n hx hb dX8_read_0 rfl (lv_at hl 0 rfl) ?_
  refine lv_iload_n hx hb dX8_read_1 rfl (lv_at hl 1 rfl) ?_
  refine cV_Ra C0 eX_st hP hS hK pkX8_sheetAt (As := [.int a1]) (rest := []) (kX8_sheetAt l g ad tk mem a1) mL_X8_286 ⟨rfl, rfl, Nat.le_of_ble_eq_true rfl, Nat.le_of_ble_eq_true rfl, Nat.le_of_ble_eq_true rfl, Nat.le_of_ble_eq_true rfl⟩ 0 wX_0 rfl rfl rfl hl.1 rfl (Nat.le_of_ble_eq_true rfl) dX8_read_2 ?_
  cases ek1 : shF a1 with
  | none =>
    rw [ek1, oc_none] at hF
    show W _ _ _ _ _ _ _ _ _ _ _ _ _ _ _ (F0 _ _ _ (.null :: _))
    refine lv_astore_nN (lv' := [(2, .null), (0, .ref (ad 0)), (1, .int a1)]) hx hb dX8_read_5 rfl hl (by decide) rfl (fun ls hl => ?_)
    refine lv_aload_nN hx hb dX8_read_6 rfl (lv_at hl 0 rfl) ?_
    refine lv_ifnonnullN hx hb dX8_read_7 ?_
    refine lv_aload_n hx hb dX8_read_10 rfl (lv_at hl 1 rfl) ?_
    refine lv_ldc hx hb hown (hts _ mK_X8_80) dX8_read_11 ?_
    obtain ⟨r4, m3, h2, hF⟩ := ob2_some hF
    refine cV_Wi C0 eX_st hP hS hK pkX8_finding (As := [.int (-100001)]) (rest := []) (kX8_finding l g ad tk mem (-100001) r4 m3 h2) mL_X8_81 ⟨rfl, rfl, Nat.le_of_ble_eq_true rfl, Nat.le_of_ble_eq_true rfl, Nat.le_of_ble_eq_true rfl, Nat.le_of_ble_eq_true rfl⟩ 0 wX_0 rfl rfl rfl hl.1 rfl (Nat.le_of_ble_eq_true rfl) dX8_read_13 (fun H locs _ hP hS => ?_)
    cases hF
    exact ret_Wi C0 hP hS trivial dX8_read_16
  | some k1 =>
    rw [ek1, oc_some] at hF
    have hk1 := shF_in ek1
    show W _ _ _ _ _ _ _ _ _ _ _ _ _ _ _ (F0 _ _ _ (.ref (ad k1) :: _))
    refine lv_astore_n (lv' := [(2, .ref (ad k1)), (0, .ref (ad 0)), (1, .int a1)]) hx hb dX8_read_5 rfl hl (by decide) rfl (fun ls hl => ?_)
    refine lv_aload_n hx hb dX8_read_6 rfl (lv_at hl 0 rfl) ?_
    refine lv_ifnonnull (tgt := 17) hx hb dX8_read_7 (by decide) ?_
    refine lv_aload_n hx hb dX8_read_17 rfl (lv_at hl 0 rfl) ?_
    obtain ⟨r6, h5, hF⟩ := ob_some hF
    refine cV_Ri C0 eX_st hP hS hK pkX6_isMissing (As := []) (rest := []) (kX6_isMissing l g ad tk mem k1 hk1 r6 h5) mL_X8_296 ⟨rfl, rfl, Nat.le_of_ble_eq_true rfl, Nat.le_of_ble_eq_true rfl, Nat.le_of_ble_eq_true rfl, Nat.le_of_ble_eq_true rfl⟩ k1 (wX_Sh hk1) rfl rfl rfl hl.1 rfl (Nat.le_of_ble_eq_true rfl) dX8_read_18 (fun b7 => ?_)
    refine lv_if_eq (tgt := 32) hx hb dX8_read_21 (by decide) (fun c8 => ?_) (fun c8 => ?_)
    · replace hF := (if_pos c8).symm.trans hF
      refine lv_aload_n hx hb dX8_read_32 rfl (lv_at hl 0 rfl) ?_
      obtain ⟨r10, h9, hF⟩ := ob_some hF
      refine cV_Ri C0 eX_st hP hS hK pkX6_lengthToZero (As := []) (rest := []) (kX6_lengthToZero l g ad tk mem k1 hk1 r10 h9) mL_X8_312 ⟨rfl, rfl, Nat.le_of_ble_eq_true rfl, Nat.le_of_ble_eq_true rfl, Nat.le_of_ble_eq_true rfl, Nat.le_of_ble_eq_true rfl⟩ k1 (wX_Sh hk1) rfl rfl rfl hl.1 rfl (Nat.le_of_ble_eq_true rfl) dX8_read_33 (fun _ => ?_)
      refine lv_istore_n (lv' := [(3, .int r10), (2, .ref (ad k1)), (0, .ref (ad 0)), (1, .int a1)]) hx hb dX8_read_36 rfl hl (by decide) rfl (fun ls hl => ?_)
      refine lv_aload_n hx hb dX8_read_37 rfl (lv_at hl 1 rfl) ?_
      refine lv_iload_n hx hb dX8_read_38 rfl (lv_at hl 0 rfl) ?_
      obtain ⟨r12, h11, hF⟩ := ob_some hF
      refine cS_RWi C0 eX_st hP hS pkX8_faultOfKeys (As := [.ref (ad k1), .int r10]) (rest := []) (kX8_faultOfKeys l g ad tk mem k1 hk1 r10 r12 h11) mL_X8_315 ⟨rfl, rfl, Nat.le_of_ble_eq_true rfl, Nat.le_of_ble_eq_true rfl, Nat.le_of_ble_eq_true rfl, Nat.le_of_ble_eq_true rfl⟩ rfl hl.1 rfl (Nat.le_of_ble_eq_true rfl) dX8_read_39 (fun _ => ?_)
      refine lv_istore (lv' := [(4, .int r12), (3, .int r10), (2, .ref (ad k1)), (0, .ref (ad 0)), (1, .int a1)]) hx hb dX8_read_42 hl (by decide) rfl (fun ls hl => ?_)
      refine lv_iload hx hb dX8_read_44 (lv_at hl 0 rfl) ?_
      refine lv_if_eq (tgt := 56) hx hb dX8_read_46 (by decide) (fun c13 => ?_) (fun c13 => ?_)
      · replace hF := (if_pos c13).symm.trans hF
        refine lv_aload_n hx hb dX8_read_56 rfl (lv_at hl 3 rfl) ?_
        refine get_W C0 hK hP iwX8 0 wX_0 rfl 3 (by decide) mF_X8_31 rfl rfl dX8_read_57 ?_
        obtain ⟨m15, h14, hF⟩ := ob_some hF
        refine cV_Wv C0 eX_st hP hS hK pkX5_clear (As := []) (rest := []) (kX5_clear l g ad tk mem m15 h14) mL_X8_149 ⟨rfl, rfl, Nat.le_of_ble_eq_true rfl, Nat.le_of_ble_eq_true rfl, Nat.le_of_ble_eq_true rfl, Nat.le_of_ble_eq_true rfl⟩ 17 wX_17 rfl rfl rfl hl.1 rfl (Nat.le_of_ble_eq_true rfl) dX8_read_60 (fun H locs _ hP hS => ?_)
        refine lv_iconst (v := 0) hx hb dX8_read_63 (by decide) ?_
        refine lv_istore (lv' := [(5, .int 0), (4, .int r12), (3, .int r10), (2, .ref (ad k1)), (0, .ref (ad 0)), (1, .int a1)]) hx hb dX8_read_64 hl (by decide) rfl (fun ls hl => ?_)
        exact lpX8_read_66 g ad tk k1 hk1 a1 r10 r12 r mem2 C0 fu m15 0 _ _ ls hF hP hS (lv_sub hl [4, 5, 3, 2, 1, 0] rfl)
      · replace hF := (if_neg c13).symm.trans hF
        refine lv_aload_n hx hb dX8_read_49 rfl (lv_at hl 3 rfl) ?_
        refine lv_iload hx hb dX8_read_50 (lv_at hl 0 rfl) ?_
        obtain ⟨r23, m22, h21, hF⟩ := ob2_some hF
        refine cV_Wi C0 eX_st hP hS hK pkX8_finding (As := [.int r12]) (rest := []) (kX8_finding l g ad tk mem r12 r23 m22 h21) mL_X8_81 ⟨rfl, rfl, Nat.le_of_ble_eq_true rfl, Nat.le_of_ble_eq_true rfl, Nat.le_of_ble_eq_true rfl, Nat.le_of_ble_eq_true rfl⟩ 0 wX_0 rfl rfl rfl hl.1 rfl (Nat.le_of_ble_eq_true rfl) dX8_read_52 (fun H locs _ hP hS => ?_)
        cases hF
        exact ret_Wi C0 hP hS trivial dX8_read_55
    · replace hF := (if_neg c8).symm.trans hF
      refine lv_aload_n hx hb dX8_read_24 rfl (lv_at hl 1 rfl) ?_
      refine lv_ldcw hx hb hown (hts _ mK_X8_299) dX8_read_25 ?_
      obtain ⟨r26, m25, h24, hF⟩ := ob2_some hF
      refine cV_Wi C0 eX_st hP hS hK pkX8_finding (As := [.int (-100002)]) (rest := []) (kX8_finding l g ad tk mem (-100002) r26 m25 h24) mL_X8_81 ⟨rfl, rfl, Nat.le_of_ble_eq_true rfl, Nat.le_of_ble_eq_true rfl, Nat.le_of_ble_eq_true rfl, Nat.le_of_ble_eq_true rfl⟩ 0 wX_0 rfl rfl rfl hl.1 rfl (Nat.le_of_ble_eq_true rfl) dX8_read_28 (fun H locs _ hP hS => ?_)
      cases hF
      exact ret_Wi C0 hP hS trivial dX8_read_31
theorem pkX8_told : pkV yX8_told cX8_told 2 (some .int) RX8 1 := ⟨mI_X8_told, mS_X8_told, mN_X8, mC_X8_told, by decide +kernel⟩
def fX8_told (mem : Mem) (a1 : Int32) : Option (Int32 × Mem) :=
  if a1 = 0 then (ob1 (fX4_size mem) (fun r3 => some (r3, mem))) else (if a1 = 1 then (ob1 (fX7_size 5 mem) (fun r6 => some (r6, mem))) else (if a1 = 2 then (ob1 (fX5_size mem) (fun r9 => some (r9, mem))) else (if a1 = 3 then (ob1 (fX3_size mem) (fun r12 => some (r12, mem))) else (if a1 = 4 then (some (mem 0 9, mem)) else (if a1 = 5 then (ob1 (fX3_latestCount mem) (fun r16 => some (r16, mem))) else (if a1 = 6 then (ob1 (fX0_isOpen mem) (fun r19 => if r19 = 0 then (some (0, mem)) else (some (1, mem)))) else (ob2 (fX8_finding mem (-100001)) (fun r24 m23 => some (r24, m23)))))))))
set_option maxHeartbeats 4000000 in
set_option maxRecDepth 100000 in
theorem kX8_told (l : Launch) (g : gG) (ad : Nat → Nat) (tk : Nat) (mem : Mem) (a1 : Int32) (r : Int32) (mem2 : Mem) (hF : fX8_told mem a1 = some (r, mem2)) : Met l yX8_told (Cond.code yX8_told cX8_told 2 (some .int) :: gw) { frames := 2, cells := 0, slots := 0, locals := 45 } (pG (wX g ad mem) (eX g ad tk) g [.ref (ad 0), .int a1]) (qW (wX g ad mem2) g (AW 44 ad) (some (.int r)) (True)) 0 0 (AW 44 ad) := by
  refine met_of (by decide) (Nat.le_of_ble_eq_true rfl) ?_
  intro p e s m args below meth c ls C0 hP hl
  obtain ⟨hx, hb, hml, hown, hts, hr, hlk, hE⟩ := id C0
  obtain ⟨hK, hN, hA, hZ, hT, hTA⟩ := id hE
  have hl : lv_has ls 2 [(0, .ref (ad 0)), (1, .int a1)] := hl
  have hS : va_S (AW 44 ad) s.heap s.heap [] := va_S.rf
  unfold fX8_told at hF
  refine lv_iload_n hx hb dX8_told_0 rfl (lv_at hl 1 rfl) ?_
  by_cases c1 : a1 = 0
  · replace hF := (if_pos c1).symm.trans hF
    refine lv_tableIn (off := 43) (tgt := 44) hx hb dX8_told_1 (by rw [c1]; decide) (by rw [c1]; decide) (by rw [c1]; rfl) (by decide) ?_
    refine lv_aload_n hx hb dX8_told_44 rfl (lv_at hl 0 rfl) ?_
    refine get_W C0 hK hP iwX8 0 wX_0 rfl 0 (by decide) mF_X8_10 rfl rfl dX8_told_45 ?_
    obtain ⟨r3, h2, hF⟩ := ob_some hF
    refine cV_Ri C0 eX_st hP hS hK pkX4_size (As := []) (rest := []) (kX4_size l g ad tk mem r3 h2) mL_X8_85 ⟨rfl, rfl, Nat.le_of_ble_eq_true rfl, Nat.le_of_ble_eq_true rfl, Nat.le_of_ble_eq_true rfl, Nat.le_of_ble_eq_true rfl⟩ 1 wX_1 rfl rfl rfl hl.1 rfl (Nat.le_of_ble_eq_true rfl) dX8_told_48 (fun _ => ?_)
    cases hF
    exact ret_Wi C0 hP hS trivial dX8_told_51
  replace hF := (if_neg c1).symm.trans hF
  by_cases c4 : a1 = 1
  · replace hF := (if_pos c4).symm.trans hF
    refine lv_tableIn (off := 51) (tgt := 52) hx hb dX8_told_1 (by rw [c4]; decide) (by rw [c4]; decide) (by rw [c4]; rfl) (by decide) ?_
    refine lv_aload_n hx hb dX8_told_52 rfl (lv_at hl 0 rfl) ?_
    refine get_W C0 hK hP iwX8 0 wX_0 rfl 1 (by decide) mF_X8_21 rfl rfl dX8_told_53 ?_
    obtain ⟨r6, h5, hF⟩ := ob_some hF
    refine cV_Ri C0 eX_st hP hS hK pkX7_size (As := []) (rest := []) (kX7_size l g ad tk mem 5 (by decide) r6 h5) mL_X8_132 ⟨rfl, rfl, Nat.le_of_ble_eq_true rfl, Nat.le_of_ble_eq_true rfl, Nat.le_of_ble_eq_true rfl, Nat.le_of_ble_eq_true rfl⟩ 5 wX_5 rfl rfl rfl hl.1 rfl (Nat.le_of_ble_eq_true rfl) dX8_told_56 (fun _ => ?_)
    cases hF
    exact ret_Wi C0 hP hS trivial dX8_told_59
  replace hF := (if_neg c4).symm.trans hF
  by_cases c7 : a1 = 2
  · replace hF := (if_pos c7).symm.trans hF
    refine lv_tableIn (off := 59) (tgt := 60) hx hb dX8_told_1 (by rw [c7]; decide) (by rw [c7]; decide) (by rw [c7]; rfl) (by decide) ?_
    refine lv_aload_n hx hb dX8_told_60 rfl (lv_at hl 0 rfl) ?_
    refine get_W C0 hK hP iwX8 0 wX_0 rfl 3 (by decide) mF_X8_31 rfl rfl dX8_told_61 ?_
    obtain ⟨r9, h8, hF⟩ := ob_some hF
    refine cV_Ri C0 eX_st hP hS hK pkX5_size (As := []) (rest := []) (kX5_size l g ad tk mem r9 h8) mL_X8_146 ⟨rfl, rfl, Nat.le_of_ble_eq_true rfl, Nat.le_of_ble_eq_true rfl, Nat.le_of_ble_eq_true rfl, Nat.le_of_ble_eq_true rfl⟩ 17 wX_17 rfl rfl rfl hl.1 rfl (Nat.le_of_ble_eq_true rfl) dX8_told_64 (fun _ => ?_)
    cases hF
    exact ret_Wi C0 hP hS trivial dX8_told_67
  replace hF := (if_neg c7).symm.trans hF
  by_cases c10 : a1 = 3
  · replace hF := (if_pos c10).symm.trans hF
    refine lv_tableIn (off := 67) (tgt := 68) hx hb dX8_told_1 (by rw [c10]; decide) (by rw [c10]; decide) (by rw [c10]; rfl) (by decide) ?_
    refine lv_aload_n hx hb dX8_told_68 rfl (lv_at hl 0 rfl) ?_
    refine get_W C0 hK hP iwX8 0 wX_0 rfl 7 (by decide) mF_X8_61 rfl rfl dX8_told_69 ?_
    obtain ⟨r12, h11, hF⟩ := ob_some hF
    refine cV_Ri C0 eX_st hP hS hK pkX3_size (As := []) (rest := []) (kX3_size l g ad tk mem r12 h11) mL_X8_322 ⟨rfl, rfl, Nat.le_of_ble_eq_true rfl, Nat.le_of_ble_eq_true rfl, Nat.le_of_ble_eq_true rfl, Nat.le_of_ble_eq_true rfl⟩ 29 wX_29 rfl rfl rfl hl.1 rfl (Nat.le_of_ble_eq_true rfl) dX8_told_72 (fun _ => ?_)
    cases hF
    exact ret_Wi C0 hP hS trivial dX8_told_75
  replace hF := (if_neg c10).symm.trans hF
  by_cases c13 : a1 = 4
  · replace hF := (if_pos c13).symm.trans hF
    refine lv_tableIn (off := 75) (tgt := 76) hx hb dX8_told_1 (by rw [c13]; decide) (by rw [c13]; decide) (by rw [c13]; rfl) (by decide) ?_
    refine lv_aload_n hx hb dX8_told_76 rfl (lv_at hl 0 rfl) ?_
    refine get_W C0 hK hP iwX8 0 wX_0 rfl 9 (by decide) mF_X8_72 rfl rfl dX8_told_77 ?_
    cases hF
    exact ret_Wi C0 hP hS trivial dX8_told_80
  replace hF := (if_neg c13).symm.trans hF
  by_cases c14 : a1 = 5
  · replace hF := (if_pos c14).symm.trans hF
    refine lv_tableIn (off := 80) (tgt := 81) hx hb dX8_told_1 (by rw [c14]; decide) (by rw [c14]; decide) (by rw [c14]; rfl) (by decide) ?_
    refine lv_aload_n hx hb dX8_told_81 rfl (lv_at hl 0 rfl) ?_
    refine get_W C0 hK hP iwX8 0 wX_0 rfl 7 (by decide) mF_X8_61 rfl rfl dX8_told_82 ?_
    obtain ⟨r16, h15, hF⟩ := ob_some hF
    refine cV_Ri C0 eX_st hP hS hK pkX3_latestCount (As := []) (rest := []) (kX3_latestCount l g ad tk mem r16 h15) mL_X8_271 ⟨rfl, rfl, Nat.le_of_ble_eq_true rfl, Nat.le_of_ble_eq_true rfl, Nat.le_of_ble_eq_true rfl, Nat.le_of_ble_eq_true rfl⟩ 29 wX_29 rfl rfl rfl hl.1 rfl (Nat.le_of_ble_eq_true rfl) dX8_told_85 (fun _ => ?_)
    cases hF
    exact ret_Wi C0 hP hS trivial dX8_told_88
  replace hF := (if_neg c14).symm.trans hF
  by_cases c17 : a1 = 6
  · replace hF := (if_pos c17).symm.trans hF
    refine lv_tableIn (off := 88) (tgt := 89) hx hb dX8_told_1 (by rw [c17]; decide) (by rw [c17]; decide) (by rw [c17]; rfl) (by decide) ?_
    refine lv_aload_n hx hb dX8_told_89 rfl (lv_at hl 0 rfl) ?_
    refine get_W C0 hK hP iwX8 0 wX_0 rfl 6 (by decide) mF_X8_54 rfl rfl dX8_told_90 ?_
    obtain ⟨r19, h18, hF⟩ := ob_some hF
    refine cV_Ri C0 eX_st hP hS hK pkX0_isOpen (As := []) (rest := []) (kX0_isOpen l g ad tk mem r19 h18) mL_X8_218 ⟨rfl, rfl, Nat.le_of_ble_eq_true rfl, Nat.le_of_ble_eq_true rfl, Nat.le_of_ble_eq_true rfl, Nat.le_of_ble_eq_true rfl⟩ 27 wX_27 rfl rfl rfl hl.1 rfl (Nat.le_of_ble_eq_true rfl) dX8_told_93 (fun b20 => ?_)
    refine lv_if_eq (tgt := 103) hx hb dX8_told_96 (by decide) (fun c21 => ?_) (fun c21 => ?_)
    · replace hF := (if_pos c21).symm.trans hF
      refine lv_iconst (v := 0) hx hb dX8_told_103 (by decide) ?_
      cases hF
      exact ret_Wi C0 hP hS trivial dX8_told_104
    · replace hF := (if_neg c21).symm.trans hF
      refine lv_iconst (v := 1) hx hb dX8_told_99 (by decide) ?_
      refine lv_goto (tgt := 104) hx hb dX8_told_100 (by decide) ?_
      cases hF
      exact ret_Wi C0 hP hS trivial dX8_told_104
  replace hF := (if_neg c17).symm.trans hF
  have tc1 := ne_toInt c1 (k := 0) rfl
  have tc4 := ne_toInt c4 (k := 1) rfl
  have tc7 := ne_toInt c7 (k := 2) rfl
  have tc10 := ne_toInt c10 (k := 3) rfl
  have tc13 := ne_toInt c13 (k := 4) rfl
  have tc14 := ne_toInt c14 (k := 5) rfl
  have tc17 := ne_toInt c17 (k := 6) rfl
  refine lv_tableOut (tgt := 105) hx hb dX8_told_1 (by omega) (by decide) ?_
  refine lv_aload_n hx hb dX8_told_105 rfl (lv_at hl 0 rfl) ?_
  refine lv_ldc hx hb hown (hts _ mK_X8_80) dX8_told_106 ?_
  obtain ⟨r24, m23, h22, hF⟩ := ob2_some hF
  refine cV_Wi C0 eX_st hP hS hK pkX8_finding (As := [.int (-100001)]) (rest := []) (kX8_finding l g ad tk mem (-100001) r24 m23 h22) mL_X8_81 ⟨rfl, rfl, Nat.le_of_ble_eq_true rfl, Nat.le_of_ble_eq_true rfl, Nat.le_of_ble_eq_true rfl, Nat.le_of_ble_eq_true rfl⟩ 0 wX_0 rfl rfl rfl hl.1 rfl (Nat.le_of_ble_eq_true rfl) dX8_told_108 (fun H locs _ hP hS => ?_)
  cases hF
  exact ret_Wi C0 hP hS trivial dX8_told_111
