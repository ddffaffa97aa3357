theorem pkX8_vote : pkV yX8_vote cX8_vote 1 (some .int) RX8 0 := ⟨mI_X8_vote, mS_X8_vote, mN_X8, mC_X8_vote, by decide +kernel⟩
def fX8_vote (mem : Mem) : Option (Int32 × Mem) :=
  ob1 (fX0_isOpen mem) (fun r2 => if r2 = 0 then (ob1 (fX0_open mem) (fun m6 => some (1, m6))) else (ob2 (fX8_finding mem (-100007)) (fun r9 m8 => some (r9, m8))))
set_option maxHeartbeats 4000000 in
set_option maxRecDepth 100000 in
theorem kX8_vote (l : Launch) (g : gG) (ad : Nat → Nat) (tk : Nat) (mem : Mem) (r : Int32) (mem2 : Mem) (hF : fX8_vote mem = some (r, mem2)) : Met l yX8_vote (Cond.code yX8_vote cX8_vote 1 (some .int) :: gw) { frames := 2, cells := 0, slots := 0, locals := 45 } (pG (wX g ad mem) (eX g ad tk) g [.ref (ad 0)]) (qW (wX g ad mem2) g (AW 44 ad) (some (.int r)) (True)) 0 0 (AW 44 ad) := by
  refine met_of (by decide) (Nat.le_of_ble_eq_true rfl) ?_
  intro p e s m args below meth c ls C0 hP hl
  obtain ⟨hx, hb, hml, hown, hts, hr, hlk, hE⟩ := id C0
  obtain ⟨hK, hN, hA, hZ, hT, hTA⟩ := id hE
  have hl : lv_has ls 1 [(0, .ref (ad 0))] := hl
  have hS : va_S (AW 44 ad) s.heap s.heap [] := va_S.rf
  unfold fX8_vote at hF
  refine lv_aload_n hx hb dX8_vote_0 rfl (lv_at hl 0 rfl) ?_
  refine get_W C0 hK hP iwX8 0 wX_0 rfl 6 (by decide) mF_X8_54 rfl rfl dX8_vote_1 ?_
  obtain ⟨r2, h1, hF⟩ := ob_some hF
  refine cV_Ri C0 eX_st hP hS hK pkX0_isOpen (As := []) (rest := []) (kX0_isOpen l g ad tk mem r2 h1) mL_X8_218 ⟨rfl, rfl, Nat.le_of_ble_eq_true rfl, Nat.le_of_ble_eq_true rfl, Nat.le_of_ble_eq_true rfl, Nat.le_of_ble_eq_true rfl⟩ 27 wX_27 rfl rfl rfl hl.1 rfl (Nat.le_of_ble_eq_true rfl) dX8_vote_4 (fun b3 => ?_)
  refine lv_if_eq (tgt := 17) hx hb dX8_vote_7 (by decide) (fun c4 => ?_) (fun c4 => ?_)
  · replace hF := (if_pos c4).symm.trans hF
    refine lv_aload_n hx hb dX8_vote_17 rfl (lv_at hl 0 rfl) ?_
    refine get_W C0 hK hP iwX8 0 wX_0 rfl 6 (by decide) mF_X8_54 rfl rfl dX8_vote_18 ?_
    obtain ⟨m6, h5, hF⟩ := ob_some hF
    refine cV_Wv C0 eX_st hP hS hK pkX0_open (As := []) (rest := []) (kX0_open l g ad tk mem m6 h5) mL_X8_221 ⟨rfl, rfl, Nat.le_of_ble_eq_true rfl, Nat.le_of_ble_eq_true rfl, Nat.le_of_ble_eq_true rfl, Nat.le_of_ble_eq_true rfl⟩ 27 wX_27 rfl rfl rfl hl.1 rfl (Nat.le_of_ble_eq_true rfl) dX8_vote_21 (fun H locs _ hP hS => ?_)
    refine lv_iconst (v := 1) hx hb dX8_vote_24 (by decide) ?_
    cases hF
    exact ret_Wi C0 hP hS trivial dX8_vote_25
  · replace hF := (if_neg c4).symm.trans hF
    refine lv_aload_n hx hb dX8_vote_10 rfl (lv_at hl 0 rfl) ?_
    refine lv_ldc hx hb hown (hts _ mK_X8_190) dX8_vote_11 ?_
    obtain ⟨r9, m8, h7, hF⟩ := ob2_some hF
    refine cV_Wi C0 eX_st hP hS hK pkX8_finding (As := [.int (-100007)]) (rest := []) (kX8_finding l g ad tk mem (-100007) r9 m8 h7) mL_X8_81 ⟨rfl, rfl, Nat.le_of_ble_eq_true rfl, Nat.le_of_ble_eq_true rfl, Nat.le_of_ble_eq_true rfl, Nat.le_of_ble_eq_true rfl⟩ 0 wX_0 rfl rfl rfl hl.1 rfl (Nat.le_of_ble_eq_true rfl) dX8_vote_13 (fun H locs _ hP hS => ?_)
    cases hF
    exact ret_Wi C0 hP hS trivial dX8_vote_16
theorem pkX8_say : pkV yX8_say cX8_say 4 (some .int) RX8 2 := ⟨mI_X8_say, mS_X8_say, mN_X8, mC_X8_say, by decide +kernel⟩
def fX8_say (mem : Mem) (a1 : Int32) (a2 : Int32) : Option (Int32 × Mem) :=
  ob1 (fX4_has mem a1) (fun r2 => if r2 = 0 then (ob2 (fX8_finding mem (-100001)) (fun r7 m6 => some (r7, m6))) else (ob1 (fX8_isWithin a2 0 2) (fun r9 => if r9 = 0 then (ob2 (fX8_finding mem (-100001)) (fun r32 m31 => some (r32, m31))) else (ob1 (fX0_isOpen mem) (fun r13 => if r13 = 0 then (ob2 (fX8_finding mem (-100006)) (fun r29 m28 => some (r29, m28))) else (ob1 (fX4_mayVote mem a1) (fun r17 => if r17 = 0 then (ob2 (fX8_finding mem (-100004)) (fun r26 m25 => some (r26, m25))) else (ob1 (fX0_saidBy mem a1) (fun r21 => ob1 (fX0_mark mem a1 a2) (fun m23 => some (r21, m23)))))))))))
set_option maxHeartbeats 4000000 in
set_option maxRecDepth 100000 in
theorem kX8_say (l : Launch) (g : gG) (ad : Nat → Nat) (tk : Nat) (mem : Mem) (a1 : Int32) (a2 : Int32) (r : Int32) (mem2 : Mem) (hF : fX8_say mem a1 a2 = some (r, mem2)) : Met l yX8_say (Cond.code yX8_say cX8_say 4 (some .int) :: gw) { frames := 4, cells := 0, slots := 0, locals := 82 } (pG (wX g ad mem) (eX g ad tk) g [.ref (ad 0), .int a1, .int a2]) (qW (wX g ad mem2) g (AW 44 ad) (some (.int r)) (True)) 0 0 (AW 44 ad) := by
  refine met_of (by decide) (Nat.le_of_ble_eq_true rfl) ?_
  intro p e s m args below meth c ls C0 hP hl
  obtain ⟨hx, hb, hml, hown, hts, hr, hlk, hE⟩ := id C0
  obtain ⟨hK, hN, hA, hZ, hT, hTA⟩ := id hE
  have hl : lv_has ls 4 [(0, .ref (ad 0)), (1, .int a1), (2, .int a2)] := hl
  have hS : va_S (AW 44 ad) s.heap s.heap [] := va_S.rf
  unfold fX8_say at hF
  refine lv_aload_n hx hb dX8_say_0 rfl (lv_at hl 0 rfl) ?_
  refine get_W C0 hK hP iwX8 0 wX_0 rfl 0 (by decide) mF_X8_10 rfl rfl dX8_say_1 ?_
  refine lv_iload_n hx hb dX8_say_4 rfl (lv_at hl 1 rfl) ?_
  obtain ⟨r2, h1, hF⟩ := ob_some hF
  refine cV_Ri C0 eX_st hP hS hK pkX4_has (As := [.int a1]) (rest := []) (kX4_has l g ad tk mem a1 r2 h1) mL_X8_94 ⟨rfl, rfl, Nat.le_of_ble_eq_true rfl, Nat.le_of_ble_eq_true rfl, Nat.le_of_ble_eq_true rfl, Nat.le_of_ble_eq_true rfl⟩ 1 wX_1 rfl rfl rfl hl.1 rfl (Nat.le_of_ble_eq_true rfl) dX8_say_5 (fun b3 => ?_)
  refine lv_if_eq (tgt := 20) hx hb dX8_say_8 (by decide) (fun c4 => ?_) (fun c4 => ?_)
  · replace hF := (if_pos c4).symm.trans hF
    refine lv_aload_n hx hb dX8_say_20 rfl (lv_at hl 0 rfl) ?_
    refine lv_ldc hx hb hown (hts _ mK_X8_80) dX8_say_21 ?_
    obtain ⟨r7, m6, h5, hF⟩ := ob2_some hF
    refine cV_Wi C0 eX_st hP hS hK pkX8_finding (As := [.int (-100001)]) (rest := []) (kX8_finding l g ad tk mem (-100001) r7 m6 h5) mL_X8_81 ⟨rfl, rfl, Nat.le_of_ble_eq_true rfl, Nat.le_of_ble_eq_true rfl, Nat.le_of_ble_eq_true rfl, Nat.le_of_ble_eq_true rfl⟩ 0 wX_0 rfl rfl rfl hl.1 rfl (Nat.le_of_ble_eq_true rfl) dX8_say_23 (fun H locs _ hP hS => ?_)
    cases hF
    exact ret_Wi C0 hP hS trivial dX8_say_26
  · replace hF := (if_neg c4).symm.trans hF
    refine lv_iload_n hx hb dX8_say_11 rfl (lv_at hl 2 rfl) ?_
    refine lv_iconst (v := 0) hx hb dX8_say_12 (by decide) ?_
    refine lv_iconst (v := 2) hx hb dX8_say_13 (by decide) ?_
    obtain ⟨r9, h8, hF⟩ := ob_some hF
    refine cS_Ri C0 pkX8_isWithin (As := [.int a2, .int 0, .int 2]) (rest := []) (kX8_isWithin l g a2 0 2 r9 h8) mL_X8_76 ⟨rfl, rfl, Nat.le_of_ble_eq_true rfl, Nat.le_of_ble_eq_true rfl, Nat.le_of_ble_eq_true rfl, Nat.le_of_ble_eq_true rfl⟩ rfl hl.1 rfl (Nat.le_of_ble_eq_true rfl) dX8_say_14 (fun b10 => ?_)
    refine lv_if_ne (tgt := 27) hx hb dX8_say_17 (by decide) (fun c11 => ?_) (fun c11 => ?_)
    · replace hF := (if_neg c11).symm.trans hF
      refine lv_aload_n hx hb dX8_say_27 rfl (lv_at hl 0 rfl) ?_
      refine get_W C0 hK hP iwX8 0 wX_0 rfl 6 (by decide) mF_X8_54 rfl rfl dX8_say_28 ?_
      obtain ⟨r13, h12, hF⟩ := ob_some hF
      refine cV_Ri C0 eX_st hP hS hK pkX0_isOpen (As := []) (rest := []) (kX0_isOpen l g ad tk mem r13 h12) mL_X8_218 ⟨rfl, rfl, Nat.le_of_ble_eq_true rfl, Nat.le_of_ble_eq_true rfl, Nat.le_of_ble_eq_true rfl, Nat.le_of_ble_eq_true rfl⟩ 27 wX_27 rfl rfl rfl hl.1 rfl (Nat.le_of_ble_eq_true rfl) dX8_say_31 (fun b14 => ?_)
      refine lv_if_ne (tgt := 44) hx hb dX8_say_34 (by decide) (fun c15 => ?_) (fun c15 => ?_)
      · replace hF := (if_neg c15).symm.trans hF
        refine lv_aload_n hx hb dX8_say_44 rfl (lv_at hl 0 rfl) ?_
        refine get_W C0 hK hP iwX8 0 wX_0 rfl 0 (by decide) mF_X8_10 rfl rfl dX8_say_45 ?_
        refine lv_iload_n hx hb dX8_say_48 rfl (lv_at hl 1 rfl) ?_
        obtain ⟨r17, h16, hF⟩ := ob_some hF
        refine cV_Ri C0 eX_st hP hS hK pkX4_mayVote (As := [.int a1]) (rest := []) (kX4_mayVote l g ad tk mem a1 r17 h16) mL_X8_224 ⟨rfl, rfl, Nat.le_of_ble_eq_true rfl, Nat.le_of_ble_eq_true rfl, Nat.le_of_ble_eq_true rfl, Nat.le_of_ble_eq_true rfl⟩ 1 wX_1 rfl rfl rfl hl.1 rfl (Nat.le_of_ble_eq_true rfl) dX8_say_49 (fun b18 => ?_)
        refine lv_if_ne (tgt := 62) hx hb dX8_say_52 (by decide) (fun c19 => ?_) (fun c19 => ?_)
        · replace hF := (if_neg c19).symm.trans hF
          refine lv_aload_n hx hb dX8_say_62 rfl (lv_at hl 0 rfl) ?_
          refine get_W C0 hK hP iwX8 0 wX_0 rfl 6 (by decide) mF_X8_54 rfl rfl dX8_say_63 ?_
          refine lv_iload_n hx hb dX8_say_66 rfl (lv_at hl 1 rfl) ?_
          obtain ⟨r21, h20, hF⟩ := ob_some hF
          refine cV_Ri C0 eX_st hP hS hK pkX0_saidBy (As := [.int a1]) (rest := []) (kX0_saidBy l g ad tk mem a1 r21 h20) mL_X8_227 ⟨rfl, rfl, Nat.le_of_ble_eq_true rfl, Nat.le_of_ble_eq_true rfl, Nat.le_of_ble_eq_true rfl, Nat.le_of_ble_eq_true rfl⟩ 27 wX_27 rfl rfl rfl hl.1 rfl (Nat.le_of_ble_eq_true rfl) dX8_say_67 (fun _ => ?_)
          refine lv_istore_n (lv' := [(3, .int r21), (0, .ref (ad 0)), (1, .int a1), (2, .int a2)]) hx hb dX8_say_70 rfl hl (by decide) rfl (fun ls hl => ?_)
          refine lv_aload_n hx hb dX8_say_71 rfl (lv_at hl 1 rfl) ?_
          refine get_W C0 hK hP iwX8 0 wX_0 rfl 6 (by decide) mF_X8_54 rfl rfl dX8_say_72 ?_
          refine lv_iload_n hx hb dX8_say_75 rfl (lv_at hl 2 rfl) ?_
          refine lv_iload_n hx hb dX8_say_76 rfl (lv_at hl 3 rfl) ?_
          obtain ⟨m23, h22, hF⟩ := ob_some hF
          refine cV_Wv C0 eX_st hP hS hK pkX0_mark (As := [.int a1, .int a2]) (rest := []) (kX0_mark l g ad tk mem a1 a2 m23 h22) mL_X8_230 ⟨rfl, rfl, Nat.le_of_ble_eq_true rfl, Nat.le_of_ble_eq_true rfl, Nat.le_of_ble_eq_true rfl, Nat.le_of_ble_eq_true rfl⟩ 27 wX_27 rfl rfl rfl hl.1 rfl (Nat.le_of_ble_eq_true rfl) dX8_say_77 (fun H locs _ hP hS => ?_)
          refine lv_iload_n hx hb dX8_say_80 rfl (lv_at hl 0 rfl) ?_
          cases hF
          exact ret_Wi C0 hP hS trivial dX8_say_81
        · replace hF := (if_pos c19).symm.trans hF
          refine lv_aload_n hx hb dX8_say_55 rfl (lv_at hl 0 rfl) ?_
          refine lv_ldc hx hb hown (hts _ mK_X8_102) dX8_say_56 ?_
          obtain ⟨r26, m25, h24, hF⟩ := ob2_some hF
          refine cV_Wi C0 eX_st hP hS hK pkX8_finding (As := [.int (-100004)]) (rest := []) (kX8_finding l g ad tk mem (-100004) r26 m25 h24) mL_X8_81 ⟨rfl, rfl, Nat.le_of_ble_eq_true rfl, Nat.le_of_ble_eq_true rfl, Nat.le_of_ble_eq_true rfl, Nat.le_of_ble_eq_true rfl⟩ 0 wX_0 rfl rfl rfl hl.1 rfl (Nat.le_of_ble_eq_true rfl) dX8_say_58 (fun H locs _ hP hS => ?_)
          cases hF
          exact ret_Wi C0 hP hS trivial dX8_say_61
      · replace hF := (if_pos c15).symm.trans hF
        refine lv_aload_n hx hb dX8_say_37 rfl (lv_at hl 0 rfl) ?_
        refine lv_ldc hx hb hown (hts _ mK_X8_137) dX8_say_38 ?_
        obtain ⟨r29, m28, h27, hF⟩ := ob2_some hF
        refine cV_Wi C0 eX_st hP hS hK pkX8_finding (As := [.int (-100006)]) (rest := []) (kX8_finding l g ad tk mem (-100006) r29 m28 h27) mL_X8_81 ⟨rfl, rfl, Nat.le_of_ble_eq_true rfl, Nat.le_of_ble_eq_true rfl, Nat.le_of_ble_eq_true rfl, Nat.le_of_ble_eq_true rfl⟩ 0 wX_0 rfl rfl rfl hl.1 rfl (Nat.le_of_ble_eq_true rfl) dX8_say_40 (fun H locs _ hP hS => ?_)
        cases hF
        exact ret_Wi C0 hP hS trivial dX8_say_43
    · replace hF := (if_pos c11).symm.trans hF
      refine lv_aload_n hx hb dX8_say_20 rfl (lv_at hl 0 rfl) ?_
      refine lv_ldc hx hb hown (hts _ mK_X8_80) dX8_say_21 ?_
      obtain ⟨r32, m31, h30, hF⟩ := ob2_some hF
      refine cV_Wi C0 eX_st hP hS hK pkX8_finding (As := [.int (-100001)]) (rest := []) (kX8_finding l g ad tk mem (-100001) r32 m31 h30) mL_X8_81 ⟨rfl, rfl, Nat.le_of_ble_eq_true rfl, Nat.le_of_ble_eq_true rfl, Nat.le_of_ble_eq_true rfl, Nat.le_of_ble_eq_true rfl⟩ 0 wX_0 rfl rfl rfl hl.1 rfl (Nat.le_of_ble_eq_true rfl) dX8_say_23 (fun H locs _ hP hS => ?_)
      cases hF
      exact ret_Wi C0 hP hS trivial dX8_say_26
theorem pkX8_votes : pkV yX8_votes cX8_votes 2 (some .int) RX8 1 := ⟨mI_X8_votes, mS_X8_votes, mN_X8, mC_X8_votes, by decide +kernel⟩
def fX8_votes (mem : Mem) (a1 : Int32) : Option (Int32 × Mem) :=
  ob1 (fX8_isWithin a1 0 2) (fun r2 => if r2 = 0 then (ob2 (fX8_finding mem (-100001)) (fun r16 m15 => some (r16, m15))) else (ob1 (fX0_isOpen mem) (fun r6 => if r6 = 0 then (ob2 (fX8_finding mem (-100006)) (fun r13 m12 => some (r13, m12))) else (ob1 (fX0_count mem a1) (fun r10 => some (r10, mem))))))
set_option maxHeartbeats 4000000 in
set_option maxRecDepth 100000 in
theorem kX8_votes (l : Launch) (g : gG) (ad : Nat → Nat) (tk : Nat) (mem : Mem) (a1 : Int32) (r : Int32) (mem2 : Mem) (hF : fX8_votes mem a1 = some (r, mem2)) : Met l yX8_votes (Cond.code yX8_votes cX8_votes 2 (some .int) :: gw) { frames := 5, cells := 0, slots := 0, locals := 105 } (pG (wX g ad mem) (eX g ad tk) g [.ref (ad 0), .int a1]) (qW (wX g ad mem2) g (AW 44 ad) (some (.int r)) (True)) 0 0 (AW 44 ad) := by
  refine met_of (by decide) (Nat.le_of_ble_eq_true rfl) ?_
  intro p e s m args below meth c ls C0 hP hl
  obtain ⟨hx, hb, hml, hown, hts, hr, hlk, hE⟩ := id C0
  obtain ⟨hK, hN, hA, hZ, hT, hTA⟩ := id hE
  have hl : lv_has ls 2 [(0, .ref (ad 0)), (1, .int a1)] := hl
  have hS : va_S (AW 44 ad) s.heap s.heap [] := va_S.rf
  unfold fX8_votes at hF
  refine lv_iload_n hx hb dX8_votes_0 rfl (lv_at hl 1 rfl) ?_
  refine lv_iconst (v := 0) hx hb dX8_votes_1 (by decide) ?_
  refine lv_iconst (v := 2) hx hb dX8_votes_2 (by decide) ?_
  obtain ⟨r2, h1, hF⟩ := ob_some hF
  refine cS_Ri C0 pkX8_isWithin (As := [.int a1, .int 0, .int 2]) (rest := []) (kX8_isWithin l g a1 0 2 r2 h1) mL_X8_76 ⟨rfl, rfl, Nat.le_of_ble_eq_true rfl, Nat.le_of_ble_eq_true rfl, Nat.le_of_ble_eq_true rfl, Nat.le_of_ble_eq_true rfl⟩ rfl hl.1 rfl (Nat.le_of_ble_eq_true rfl) dX8_votes_3 (fun b3 => ?_)
  refine lv_if_ne (tgt := 16) hx hb dX8_votes_6 (by decide) (fun c4 => ?_) (fun c4 => ?_)
  · replace hF := (if_neg c4).symm.trans hF
    refine lv_aload_n hx hb dX8_votes_16 rfl (lv_at hl 0 rfl) ?_
    refine get_W C0 hK hP iwX8 0 wX_0 rfl 6 (by decide) mF_X8_54 rfl rfl dX8_votes_17 ?_
    obtain ⟨r6, h5, hF⟩ := ob_some hF
    refine cV_Ri C0 eX_st hP hS hK pkX0_isOpen (As := []) (rest := []) (kX0_isOpen l g ad tk mem r6 h5) mL_X8_218 ⟨rfl, rfl, Nat.le_of_ble_eq_true rfl, Nat.le_of_ble_eq_true rfl, Nat.le_of_ble_eq_true rfl, Nat.le_of_ble_eq_true rfl⟩ 27 wX_27 rfl rfl rfl hl.1 rfl (Nat.le_of_ble_eq_true rfl) dX8_votes_20 (fun b7 => ?_)
    refine lv_if_ne (tgt := 33) hx hb dX8_votes_23 (by decide) (fun c8 => ?_) (fun c8 => ?_)
    · replace hF := (if_neg c8).symm.trans hF
      refine lv_aload_n hx hb dX8_votes_33 rfl (lv_at hl 0 rfl) ?_
      refine get_W C0 hK hP iwX8 0 wX_0 rfl 6 (by decide) mF_X8_54 rfl rfl dX8_votes_34 ?_
      refine lv_iload_n hx hb dX8_votes_37 rfl (lv_at hl 1 rfl) ?_
      obtain ⟨r10, h9, hF⟩ := ob_some hF
      refine cV_Ri C0 eX_st hP hS hK pkX0_count (As := [.int a1]) (rest := []) (kX0_count l g ad tk mem a1 r10 h9) mL_X8_233 ⟨rfl, rfl, Nat.le_of_ble_eq_true rfl, Nat.le_of_ble_eq_true rfl, Nat.le_of_ble_eq_true rfl, Nat.le_of_ble_eq_true rfl⟩ 27 wX_27 rfl rfl rfl hl.1 rfl (Nat.le_of_ble_eq_true rfl) dX8_votes_38 (fun _ => ?_)
      cases hF
      exact ret_Wi C0 hP hS trivial dX8_votes_41
    · replace hF := (if_pos c8).symm.trans hF
      refine lv_aload_n hx hb dX8_votes_26 rfl (lv_at hl 0 rfl) ?_
      refine lv_ldc hx hb hown (hts _ mK_X8_137) dX8_votes_27 ?_
      obtain ⟨r13, m12, h11, hF⟩ := ob2_some hF
      refine cV_Wi C0 eX_st hP hS hK pkX8_finding (As := [.int (-100006)]) (rest := []) (kX8_finding l g ad tk mem (-100006) r13 m12 h11) mL_X8_81 ⟨rfl, rfl, Nat.le_of_ble_eq_true rfl, Nat.le_of_ble_eq_true rfl, Nat.le_of_ble_eq_true rfl, Nat.le_of_ble_eq_true rfl⟩ 0 wX_0 rfl rfl rfl hl.1 rfl (Nat.le_of_ble_eq_true rfl) dX8_votes_29 (fun H locs _ hP hS => ?_)
      cases hF
      exact ret_Wi C0 hP hS trivial dX8_votes_32
  · replace hF := (if_pos c4).symm.trans hF
    refine lv_aload_n hx hb dX8_votes_9 rfl (lv_at hl 0 rfl) ?_
    refine lv_ldc hx hb hown (hts _ mK_X8_80) dX8_votes_10 ?_
    obtain ⟨r16, m15, h14, hF⟩ := ob2_some hF
    refine cV_Wi C0 eX_st hP hS hK pkX8_finding (As := [.int (-100001)]) (rest := []) (kX8_finding l g ad tk mem (-100001) r16 m15 h14) mL_X8_81 ⟨rfl, rfl, Nat.le_of_ble_eq_true rfl, Nat.le_of_ble_eq_true rfl, Nat.le_of_ble_eq_true rfl, Nat.le_of_ble_eq_true rfl⟩ 0 wX_0 rfl rfl rfl hl.1 rfl (Nat.le_of_ble_eq_true rfl) dX8_votes_12 (fun H locs _ hP hS => ?_)
    cases hF
    exact ret_Wi C0 hP hS trivial dX8_votes_15
theorem pkX8_isNeed : pkS yX8_isNeed cX8_isNeed 1 (some .boolean) 1 := ⟨mT_X8_isNeed, mN_X8, mC_X8_isNeed, by decide +kernel⟩
def fX8_isNeed (a0 : Int32) : Option (Int32) :=
  ob1 (fX8_isWithin a0 1 3) (fun r2 => some r2)
set_option maxHeartbeats 4000000 in
set_option maxRecDepth 100000 in
theorem kX8_isNeed (l : Launch) (g : gG) (a0 : Int32) (r : Int32) (hF : fX8_isNeed a0 = some r) : Met l yX8_isNeed (Cond.code yX8_isNeed cX8_isNeed 1 (some .boolean) :: gw) { frames := 2, cells := 0, slots := 0, locals := 46 } (pG [] (fun _ => True) g [.int a0]) (qR (some (.int r)) (isB r)) 0 0 noA := by
  refine met_of (by decide) (Nat.le_of_ble_eq_true rfl) ?_
  intro p e s m args below meth c ls C0 hP hl
  obtain ⟨hx, hb, hml, hown, hts, hr, hlk, hE⟩ := id C0
  have hl : lv_has ls 1 [(0, .int a0)] := hl
  unfold fX8_isNeed at hF
  refine lv_iload_n hx hb dX8_isNeed_0 rfl (lv_at hl 0 rfl) ?_
  refine lv_iconst (v := 1) hx hb dX8_isNeed_1 (by decide) ?_
  refine lv_iconst (v := 3) hx hb dX8_isNeed_2 (by decide) ?_
  obtain ⟨r2, h1, hF⟩ := ob_some hF
  refine cS_Ri C0 pkX8_isWithin (As := [.int a0, .int 1, .int 3]) (rest := []) (kX8_isWithin l g a0 1 3 r2 h1) mL_X8_76 ⟨rfl, rfl, Nat.le_of_ble_eq_true rfl, Nat.le_of_ble_eq_true rfl, Nat.le_of_ble_eq_true rfl, Nat.le_of_ble_eq_true rfl⟩ rfl hl.1 rfl (Nat.le_of_ble_eq_true rfl) dX8_isNeed_3 (fun b3 => ?_)
  cases hF
  exact ret_Rz C0 b3 b3 dX8_isNeed_6
theorem pkX8_passes : pkS yX8_passes cX8_passes 3 (some .boolean) 3 := ⟨mT_X8_passes, mN_X8, mC_X8_passes, by decide +kernel⟩
def fX8_passes (a0 : Int32) (a1 : Int32) (a2 : Int32) : Option (Int32) :=
  if a0 = 1 then (if a1 ≤ a2 then (some 0) else (some 1)) else (if a0 = 2 then (if a1 ≤ 0 then (some 0) else (if 3 * a1 < 2 * (a1 + a2) then (some 0) else (some 1))) else (if a1 ≤ 0 then (some 0) else (if a2 = 0 then (some 1) else (some 0))))
set_option maxHeartbeats 4000000 in
set_option maxRecDepth 100000 in
theorem kX8_passes (l : Launch) (g : gG) (a0 : Int32) (a1 : Int32) (a2 : Int32) (r : Int32) (hF : fX8_passes a0 a1 a2 = some r) : Met l yX8_passes (Cond.code yX8_passes cX8_passes 3 (some .boolean) :: gw) { frames := 1, cells := 0, slots := 0, locals := 24 } (pG [] (fun _ => True) g [.int a0, .int a1, .int a2]) (qR (some (.int r)) (isB r)) 0 0 noA := by
  refine met_of (by decide) (Nat.le_of_ble_eq_true rfl) ?_
  intro p e s m args below meth c ls C0 hP hl
  obtain ⟨hx, hb, hml, hown, hts, hr, hlk, hE⟩ := id C0
  have hl : lv_has ls 3 [(0, .int a0), (1, .int a1), (2, .int a2)] := hl
  unfold fX8_passes at hF
  refine lv_iload_n hx hb dX8_passes_0 rfl (lv_at hl 0 rfl) ?_
  by_cases c1 : a0 = 1
  · replace hF := (if_pos c1).symm.trans hF
    refine lv_lookup (off := 27) (tgt := 28) hx hb dX8_passes_1 (by decide) (by rw [c1]; rfl) (by decide) ?_
    refine lv_iload_n hx hb dX8_passes_28 rfl (lv_at hl 1 rfl) ?_
    refine lv_iload_n hx hb dX8_passes_29 rfl (lv_at hl 2 rfl) ?_
    refine lv_icmp_le (tgt := 37) hx hb dX8_passes_30 (by decide) (fun c2 => ?_) (fun c2 => ?_)
    · replace hF := (if_pos c2).symm.trans hF
      refine lv_iconst (v := 0) hx hb dX8_passes_37 (by decide) ?_
      cases hF
      exact ret_Rz C0 (Or.inl rfl) (Or.inl rfl) dX8_passes_38
    · replace hF := (if_neg c2).symm.trans hF
      refine lv_iconst (v := 1) hx hb dX8_passes_33 (by decide) ?_
      refine lv_goto (tgt := 38) hx hb dX8_passes_34 (by decide) ?_
      cases hF
      exact ret_Rz C0 (Or.inr rfl) (Or.inr rfl) dX8_passes_38
  replace hF := (if_neg c1).symm.trans hF
  by_cases c3 : a0 = 2
  · replace hF := (if_pos c3).symm.trans hF
    refine lv_lookup (off := 38) (tgt := 39) hx hb dX8_passes_1 (by decide) (by rw [c3]; rfl) (by decide) ?_
    refine lv_iload_n hx hb dX8_passes_39 rfl (lv_at hl 1 rfl) ?_
    refine lv_if_le (tgt := 58) hx hb dX8_passes_40 (by decide) (fun c4 => ?_) (fun c4 => ?_)
    · replace hF := (if_pos c4).symm.trans hF
      refine lv_iconst (v := 0) hx hb dX8_passes_58 (by decide) ?_
      cases hF
      exact ret_Rz C0 (Or.inl rfl) (Or.inl rfl) dX8_passes_59
    · replace hF := (if_neg c4).symm.trans hF
      refine lv_iconst (v := 3) hx hb dX8_passes_43 (by decide) ?_
      refine lv_iload_n hx hb dX8_passes_44 rfl (lv_at hl 1 rfl) ?_
      refine lv_imul hx hb dX8_passes_45 ?_
      refine lv_iconst (v := 2) hx hb dX8_passes_46 (by decide) ?_
      refine lv_iload_n hx hb dX8_passes_47 rfl (lv_at hl 1 rfl) ?_
      refine lv_iload_n hx hb dX8_passes_48 rfl (lv_at hl 2 rfl) ?_
      refine lv_iadd hx hb dX8_passes_49 ?_
      refine lv_imul hx hb dX8_passes_50 ?_
      refine lv_icmp_lt (tgt := 58) hx hb dX8_passes_51 (by decide) (fun c5 => ?_) (fun c5 => ?_)
      · replace hF := (if_pos c5).symm.trans hF
        refine lv_iconst (v := 0) hx hb dX8_passes_58 (by decide) ?_
        cases hF
        exact ret_Rz C0 (Or.inl rfl) (Or.inl rfl) dX8_passes_59
      · replace hF := (if_neg c5).symm.trans hF
        refine lv_iconst (v := 1) hx hb dX8_passes_54 (by decide) ?_
        refine lv_goto (tgt := 59) hx hb dX8_passes_55 (by decide) ?_
        cases hF
        exact ret_Rz C0 (Or.inr rfl) (Or.inr rfl) dX8_passes_59
  replace hF := (if_neg c3).symm.trans hF
  refine lv_lookup (off := 59) (tgt := 60) hx hb dX8_passes_1 (by decide) (by rw [show (#[(1, 27), (2, 38)] : Array (Int × Int)).toList = [(1, 27), (2, 38)] from rfl, lv_osw c1 (a := 1) (by decide), lv_osw c3 (a := 2) (by decide)]; rfl) (by decide) ?_
  refine lv_iload_n hx hb dX8_passes_60 rfl (lv_at hl 1 rfl) ?_
  refine lv_if_le (tgt := 72) hx hb dX8_passes_61 (by decide) (fun c6 => ?_) (fun c6 => ?_)
  · replace hF := (if_pos c6).symm.trans hF
    refine lv_iconst (v := 0) hx hb dX8_passes_72 (by decide) ?_
    cases hF
    exact ret_Rz C0 (Or.inl rfl) (Or.inl rfl) dX8_passes_73
  · replace hF := (if_neg c6).symm.trans hF
    refine lv_iload_n hx hb dX8_passes_64 rfl (lv_at hl 2 rfl) ?_
    refine lv_if_ne (tgt := 72) hx hb dX8_passes_65 (by decide) (fun c7 => ?_) (fun c7 => ?_)
    · replace hF := (if_neg c7).symm.trans hF
      refine lv_iconst (v := 0) hx hb dX8_passes_72 (by decide) ?_
      cases hF
      exact ret_Rz C0 (Or.inl rfl) (Or.inl rfl) dX8_passes_73
    · replace hF := (if_pos c7).symm.trans hF
      refine lv_iconst (v := 1) hx hb dX8_passes_68 (by decide) ?_
      refine lv_goto (tgt := 73) hx hb dX8_passes_69 (by decide) ?_
      cases hF
      exact ret_Rz C0 (Or.inr rfl) (Or.inr rfl) dX8_passes_73
theorem pkX8_close : pkV yX8_close cX8_close 3 (some .int) RX8 1 := ⟨mI_X8_close, mS_X8_close, mN_X8, mC_X8_close, by decide +kernel⟩
def fX8_close (mem : Mem) (a1 : Int32) : Option (Int32 × Mem) :=
  ob1 (fX8_isNeed a1) (fun r2 => if r2 = 0 then (ob2 (fX8_finding mem (-100001)) (fun r24 m23 => some (r24, m23))) else (ob1 (fX0_isOpen mem) (fun r6 => if r6 = 0 then (ob2 (fX8_finding mem (-100006)) (fun r21 m20 => some (r21, m20))) else (ob1 (fX0_count mem 1) (fun r10 => ob1 (fX0_count mem 2) (fun r12 => ob1 (fX8_passes a1 r10 r12) (fun r14 => ob1 (fX0_shut mem) (fun m17 => if r14 = 0 then (some (0, m17)) else (some (1, m17))))))))))
set_option maxHeartbeats 4000000 in
set_option maxRecDepth 100000 in
theorem kX8_close (l : Launch) (g : gG) (ad : Nat → Nat) (tk : Nat) (mem : Mem) (a1 : Int32) (r : Int32) (mem2 : Mem) (hF : fX8_close mem a1 = some (r, mem2)) : Met l yX8_close (Cond.code yX8_close cX8_close 3 (some .int) :: gw) { frames := 5, cells := 0, slots := 0, locals := 105 } (pG (wX g ad mem) (eX g ad tk) g [.ref (ad 0), .int a1]) (qW (wX g ad mem2) g (AW 44 ad) (some (.int r)) (True)) 0 0 (AW 44 ad) := by
  refine met_of (by decide) (Nat.le_of_ble_eq_true rfl) ?_
  intro p e s m args below meth c ls C0 hP hl
  obtain ⟨hx, hb, hml, hown, hts, hr, hlk, hE⟩ := id C0
  obtain ⟨hK, hN, hA, hZ, hT, hTA⟩ := id hE
  have hl : lv_has ls 3 [(0, .ref (ad 0)), (1, .int a1)] := hl
  have hS : va_S (AW 44 ad) s.heap s.heap [] := va_S.rf
  unfold fX8_close at hF
  refine lv_iload_n hx hb dX8_close_0 rfl (lv_at hl 1 rfl) ?_
  obtain ⟨r2, h1, hF⟩ := ob_some hF
  refine cS_Ri C0 pkX8_isNeed (As := [.int a1]) (rest := []) (kX8_isNeed l g a1 r2 h1) mL_X8_236 ⟨rfl, rfl, Nat.le_of_ble_eq_true rfl, Nat.le_of_ble_eq_true rfl, Nat.le_of_ble_eq_true rfl, Nat.le_of_ble_eq_true rfl⟩ rfl hl.1 rfl (Nat.le_of_ble_eq_true rfl) dX8_close_1 (fun b3 => ?_)
  refine lv_if_ne (tgt := 14) hx hb dX8_close_4 (by decide) (fun c4 => ?_) (fun c4 => ?_)
  · replace hF := (if_neg c4).symm.trans hF
    refine lv_aload_n hx hb dX8_close_14 rfl (lv_at hl 0 rfl) ?_
    refine get_W C0 hK hP iwX8 0 wX_0 rfl 6 (by decide) mF_X8_54 rfl rfl dX8_close_15 ?_
    obtain ⟨r6, h5, hF⟩ := ob_some hF
    refine cV_Ri C0 eX_st hP hS hK pkX0_isOpen (As := []) (rest := []) (kX0_isOpen l g ad tk mem r6 h5) mL_X8_218 ⟨rfl, rfl, Nat.le_of_ble_eq_true rfl, Nat.le_of_ble_eq_true rfl, Nat.le_of_ble_eq_true rfl, Nat.le_of_ble_eq_true rfl⟩ 27 wX_27 rfl rfl rfl hl.1 rfl (Nat.le_of_ble_eq_true rfl) dX8_close_18 (fun b7 => ?_)
    refine lv_if_ne (tgt := 31) hx hb dX8_close_21 (by decide) (fun c8 => ?_) (fun c8 => ?_)
    · replace hF := (if_neg c8).symm.trans hF
      refine lv_iload_n hx hb dX8_close_31 rfl (lv_at hl 1 rfl) ?_
      refine lv_aload_n hx hb dX8_close_32 rfl (lv_at hl 0 rfl) ?_
      refine get_W C0 hK hP iwX8 0 wX_0 rfl 6 (by decide) mF_X8_54 rfl rfl dX8_close_33 ?_
      refine lv_iconst (v := 1) hx hb dX8_close_36 (by decide) ?_
      obtain ⟨r10, h9, hF⟩ := ob_some hF
      refine cV_Ri C0 eX_st hP hS hK pkX0_count (As := [.int 1]) (rest := [.int a1]) (kX0_count l g ad tk mem 1 r10 h9) mL_X8_233 ⟨rfl, rfl, Nat.le_of_ble_eq_true rfl, Nat.le_of_ble_eq_true rfl, Nat.le_of_ble_eq_true rfl, Nat.le_of_ble_eq_true rfl⟩ 27 wX_27 rfl rfl rfl hl.1 rfl (Nat.le_of_ble_eq_true rfl) dX8_close_37 (fun _ => ?_)
      refine lv_aload_n hx hb dX8_close_40 rfl (lv_at hl 0 rfl) ?_
      refine get_W C0 hK hP iwX8 0 wX_0 rfl 6 (by decide) mF_X8_54 rfl rfl dX8_close_41 ?_
      refine lv_iconst (v := 2) hx hb dX8_close_44 (by decide) ?_
      obtain ⟨r12, h11, hF⟩ := ob_some hF
      refine cV_Ri C0 eX_st hP hS hK pkX0_count (As := [.int 2]) (rest := [.int r10, .int a1]) (kX0_count l g ad tk mem 2 r12 h11) mL_X8_233 ⟨rfl, rfl, Nat.le_of_ble_eq_true rfl, Nat.le_of_ble_eq_true rfl, Nat.le_of_ble_eq_true rfl, Nat.le_of_ble_eq_true rfl⟩ 27 wX_27 rfl rfl rfl hl.1 rfl (Nat.le_of_ble_eq_true rfl) dX8_close_45 (fun _ => ?_)
      obtain ⟨r14, h13, hF⟩ := ob_some hF
      refine cS_Ri C0 pkX8_passes (As := [.int a1, .int r10, .int r12]) (rest := []) (kX8_passes l g a1 r10 r12 r14 h13) mL_X8_239 ⟨rfl, rfl, Nat.le_of_ble_eq_true rfl, Nat.le_of_ble_eq_true rfl, Nat.le_of_ble_eq_true rfl, Nat.le_of_ble_eq_true rfl⟩ rfl hl.1 rfl (Nat.le_of_ble_eq_true rfl) dX8_close_48 (fun b15 => ?_)
      refine lv_istore_n (lv' := [(2, .int r14), (0, .ref (ad 0)), (1, .int a1)]) hx hb dX8_close_51 rfl hl (by decide) rfl (fun ls hl => ?_)
      refine lv_aload_n hx hb dX8_close_52 rfl (lv_at hl 1 rfl) ?_
      refine get_W C0 hK hP iwX8 0 wX_0 rfl 6 (by decide) mF_X8_54 rfl rfl dX8_close_53 ?_
      obtain ⟨m17, h16, hF⟩ := ob_some hF
      refine cV_Wv C0 eX_st hP hS hK pkX0_shut (As := []) (rest := []) (kX0_shut l g ad tk mem m17 h16) mL_X8_242 ⟨rfl, rfl, Nat.le_of_ble_eq_true rfl, Nat.le_of_ble_eq_true rfl, Nat.le_of_ble_eq_true rfl, Nat.le_of_ble_eq_true rfl⟩ 27 wX_27 rfl rfl rfl hl.1 rfl (Nat.le_of_ble_eq_true rfl) dX8_close_56 (fun H locs _ hP hS => ?_)
      refine lv_iload_n hx hb dX8_close_59 rfl (lv_at hl 0 rfl) ?_
      refine lv_if_eq (tgt := 67) hx hb dX8_close_60 (by decide) (fun c18 => ?_) (fun c18 => ?_)
      · replace hF := (if_pos c18).symm.trans hF
        refine lv_iconst (v := 0) hx hb dX8_close_67 (by decide) ?_
        cases hF
        exact ret_Wi C0 hP hS trivial dX8_close_68
      · replace hF := (if_neg c18).symm.trans hF
        refine lv_iconst (v := 1) hx hb dX8_close_63 (by decide) ?_
        refine lv_goto (tgt := 68) hx hb dX8_close_64 (by decide) ?_
        cases hF
        exact ret_Wi C0 hP hS trivial dX8_close_68
    · replace hF := (if_pos c8).symm.trans hF
      refine lv_aload_n hx hb dX8_close_24 rfl (lv_at hl 0 rfl) ?_
      refine lv_ldc hx hb hown (hts _ mK_X8_137) dX8_close_25 ?_
      obtain ⟨r21, m20, h19, hF⟩ := ob2_some hF
      refine cV_Wi C0 eX_st hP hS hK pkX8_finding (As := [.int (-100006)]) (rest := []) (kX8_finding l g ad tk mem (-100006) r21 m20 h19) mL_X8_81 ⟨rfl, rfl, Nat.le_of_ble_eq_true rfl, Nat.le_of_ble_eq_true rfl, Nat.le_of_ble_eq_true rfl, Nat.le_of_ble_eq_true rfl⟩ 0 wX_0 rfl rfl rfl hl.1 rfl (Nat.le_of_ble_eq_true rfl) dX8_close_27 (fun H locs _ hP hS => ?_)
      cases hF
      exact ret_Wi C0 hP hS trivial dX8_close_30
  · replace hF := (if_pos c4).symm.trans hF
    refine lv_aload_n hx hb dX8_close_7 rfl (lv_at hl 0 rfl) ?_
    refine lv_ldc hx hb hown (hts _ mK_X8_80) dX8_close_8 ?_
    obtain ⟨r24, m23, h22, hF⟩ := ob2_some hF
    refine cV_Wi C0 eX_st hP hS hK pkX8_finding (As := [.int (-100001)]) (rest := []) (kX8_finding l g ad tk mem (-100001) r24 m23 h22) mL_X8_81 ⟨rfl, rfl, Nat.le_of_ble_eq_true rfl, Nat.le_of_ble_eq_true rfl, Nat.le_of_ble_eq_true rfl, Nat.le_of_ble_eq_true rfl⟩ 0 wX_0 rfl rfl rfl hl.1 rfl (Nat.le_of_ble_eq_true rfl) dX8_close_10 (fun H locs _ hP hS => ?_)
    cases hF
    exact ret_Wi C0 hP hS trivial dX8_close_13
theorem pkX8_hands : pkV yX8_hands cX8_hands 5 (some .int) RX8 4 := ⟨mI_X8_hands, mS_X8_hands, mN_X8, mC_X8_hands, by decide +kernel⟩
def fX8_hands (mem : Mem) (a1 : Int32) (a2 : Int32) (a3 : Int32) (a4 : Int32) : Option (Int32 × Mem) :=
  ob1 (fX8_isNeed a1) (fun r2 => if r2 = 0 then (ob2 (fX8_finding mem (-100001)) (fun r7 m6 => some (r7, m6))) else (ob1 (fX8_isWithin a2 0 1000) (fun r9 => if r9 = 0 then (ob2 (fX8_finding mem (-100001)) (fun r14 m13 => some (r14, m13))) else (ob1 (fX8_isWithin a3 0 1000) (fun r16 => if r16 = 0 then (ob2 (fX8_finding mem (-100001)) (fun r21 m20 => some (r21, m20))) else (ob1 (fX8_isWithin a4 0 100) (fun r23 => if r23 = 0 then (ob2 (fX8_finding mem (-100001)) (fun r36 m35 => some (r36, m35))) else (ob1 (fX8_passes a1 (if 0 < a2 - a4 then a2 - a4 else 0) (a3 + a4)) (fun r27 => if r27 = 0 then (ob1 (fX8_passes a1 (a2 + a4) (if 0 < a3 - a4 then a3 - a4 else 0)) (fun r31 => if r31 = 0 then (some (0, mem)) else (some (2, mem)))) else (some (1, mem)))))))))))
set_option maxHeartbeats 4000000 in
set_option maxRecDepth 100000 in
theorem kX8_hands (l : Launch) (g : gG) (ad : Nat → Nat) (tk : Nat) (mem : Mem) (a1 : Int32) (a2 : Int32) (a3 : Int32) (a4 : Int32) (r : Int32) (mem2 : Mem) (hF : fX8_hands mem a1 a2 a3 a4 = some (r, mem2)) : Met l yX8_hands (Cond.code yX8_hands cX8_hands 5 (some .int) :: gw) { frames := 3, cells := 0, slots := 0, locals := 66 } (pG (wX g ad mem) (eX g ad tk) g [.ref (ad 0), .int a1, .int a2, .int a3, .int a4]) (qW (wX g ad mem2) g (AW 44 ad) (some (.int r)) (True)) 0 0 (AW 44 ad) := by
  refine met_of (by decide) (Nat.le_of_ble_eq_true rfl) ?_
  intro p e s m args below meth c ls C0 hP hl
  obtain ⟨hx, hb, hml, hown, hts, hr, hlk, hE⟩ := id C0
  obtain ⟨hK, hN, hA, hZ, hT, hTA⟩ := id hE
  have hl : lv_has ls 5 [(0, .ref (ad 0)), (1, .int a1), (2, .int a2), (3, .int a3), (4, .int a4)] := hl
  have hS : va_S (AW 44 ad) s.heap s.heap [] := va_S.rf
  unfold fX8_hands at hF
  refine lv_iload_n hx hb dX8_hands_0 rfl (lv_at hl 1 rfl) ?_
  obtain ⟨r2, h1, hF⟩ := ob_some hF
  refine cS_Ri C0 pkX8_isNeed (As := [.int a1]) (rest := []) (kX8_isNeed l g a1 r2 h1) mL_X8_236 ⟨rfl, rfl, Nat.le_of_ble_eq_true rfl, Nat.le_of_ble_eq_true rfl, Nat.le_of_ble_eq_true rfl, Nat.le_of_ble_eq_true rfl⟩ rfl hl.1 rfl (Nat.le_of_ble_eq_true rfl) dX8_hands_1 (fun b3 => ?_)
  refine lv_if_eq (tgt := 40) hx hb dX8_hands_4 (by decide) (fun c4 => ?_) (fun c4 => ?_)
  · replace hF := (if_pos c4).symm.trans hF
    refine lv_aload_n hx hb dX8_hands_40 rfl (lv_at hl 0 rfl) ?_
    refine lv_ldc hx hb hown (hts _ mK_X8_80) dX8_hands_41 ?_
    obtain ⟨r7, m6, h5, hF⟩ := ob2_some hF
    refine cV_Wi C0 eX_st hP hS hK pkX8_finding (As := [.int (-100001)]) (rest := []) (kX8_finding l g ad tk mem (-100001) r7 m6 h5) mL_X8_81 ⟨rfl, rfl, Nat.le_of_ble_eq_true rfl, Nat.le_of_ble_eq_true rfl, Nat.le_of_ble_eq_true rfl, Nat.le_of_ble_eq_true rfl⟩ 0 wX_0 rfl rfl rfl hl.1 rfl (Nat.le_of_ble_eq_true rfl) dX8_hands_43 (fun H locs _ hP hS => ?_)
    cases hF
    exact ret_Wi C0 hP hS trivial dX8_hands_46
  · replace hF := (if_neg c4).symm.trans hF
    refine lv_iload_n hx hb dX8_hands_7 rfl (lv_at hl 2 rfl) ?_
    refine lv_iconst (v := 0) hx hb dX8_hands_8 (by decide) ?_
    refine lv_sipush (v := 1000) hx hb dX8_hands_9 (by decide) ?_
    obtain ⟨r9, h8, hF⟩ := ob_some hF
    refine cS_Ri C0 pkX8_isWithin (As := [.int a2, .int 0, .int 1000]) (rest := []) (kX8_isWithin l g a2 0 1000 r9 h8) mL_X8_76 ⟨rfl, rfl, Nat.le_of_ble_eq_true rfl, Nat.le_of_ble_eq_true rfl, Nat.le_of_ble_eq_true rfl, Nat.le_of_ble_eq_true rfl⟩ rfl hl.1 rfl (Nat.le_of_ble_eq_true rfl) dX8_hands_12 (fun b10 => ?_)
    refine lv_if_eq (tgt := 40) hx hb dX8_hands_15 (by decide) (fun c11 => ?_) (fun c11 => ?_)
    · replace hF := (if_pos c11).symm.trans hF
      refine lv_aload_n hx hb dX8_hands_40 rfl (lv_at hl 0 rfl) ?_
      refine lv_ldc hx hb hown (hts _ mK_X8_80) dX8_hands_41 ?_
      obtain ⟨r14, m13, h12, hF⟩ := ob2_some hF
      refine cV_Wi C0 eX_st hP hS hK pkX8_finding (As := [.int (-100001)]) (rest := []) (kX8_finding l g ad tk mem (-100001) r14 m13 h12) mL_X8_81 ⟨rfl, rfl, Nat.le_of_ble_eq_true rfl, Nat.le_of_ble_eq_true rfl, Nat.le_of_ble_eq_true rfl, Nat.le_of_ble_eq_true rfl⟩ 0 wX_0 rfl rfl rfl hl.1 rfl (Nat.le_of_ble_eq_true rfl) dX8_hands_43 (fun H locs _ hP hS => ?_)
      cases hF
      exact ret_Wi C0 hP hS trivial dX8_hands_46
    · replace hF := (if_neg c11).symm.trans hF
      refine lv_iload_n hx hb dX8_hands_18 rfl (lv_at hl 3 rfl) ?_
      refine lv_iconst (v := 0) hx hb dX8_hands_19 (by decide) ?_
      refine lv_sipush (v := 1000) hx hb dX8_hands_20 (by decide) ?_
      obtain ⟨r16, h15, hF⟩ := ob_some hF
      refine cS_Ri C0 pkX8_isWithin (As := [.int a3, .int 0, .int 1000]) (rest := []) (kX8_isWithin l g a3 0 1000 r16 h15) mL_X8_76 ⟨rfl, rfl, Nat.le_of_ble_eq_true rfl, Nat.le_of_ble_eq_true rfl, Nat.le_of_ble_eq_true rfl, Nat.le_of_ble_eq_true rfl⟩ rfl hl.1 rfl (Nat.le_of_ble_eq_true rfl) dX8_hands_23 (fun b17 => ?_)
      refine lv_if_eq (tgt := 40) hx hb dX8_hands_26 (by decide) (fun c18 => ?_) (fun c18 => ?_)
      · replace hF := (if_pos c18).symm.trans hF
        refine lv_aload_n hx hb dX8_hands_40 rfl (lv_at hl 0 rfl) ?_
        refine lv_ldc hx hb hown (hts _ mK_X8_80) dX8_hands_41 ?_
        obtain ⟨r21, m20, h19, hF⟩ := ob2_some hF
        refine cV_Wi C0 eX_st hP hS hK pkX8_finding (As := [.int (-100001)]) (rest := []) (kX8_finding l g ad tk mem (-100001) r21 m20 h19) mL_X8_81 ⟨rfl, rfl, Nat.le_of_ble_eq_true rfl, Nat.le_of_ble_eq_true rfl, Nat.le_of_ble_eq_true rfl, Nat.le_of_ble_eq_true rfl⟩ 0 wX_0 rfl rfl rfl hl.1 rfl (Nat.le_of_ble_eq_true rfl) dX8_hands_43 (fun H locs _ hP hS => ?_)
        cases hF
        exact ret_Wi C0 hP hS trivial dX8_hands_46
      · replace hF := (if_neg c18).symm.trans hF
        refine lv_iload hx hb dX8_hands_29 (lv_at hl 4 rfl) ?_
        refine lv_iconst (v := 0) hx hb dX8_hands_31 (by decide) ?_
        refine lv_bipush (v := 100) hx hb dX8_hands_32 (by decide) ?_
        obtain ⟨r23, h22, hF⟩ := ob_some hF
        refine cS_Ri C0 pkX8_isWithin (As := [.int a4, .int 0, .int 100]) (rest := []) (kX8_isWithin l g a4 0 100 r23 h22) mL_X8_76 ⟨rfl, rfl, Nat.le_of_ble_eq_true rfl, Nat.le_of_ble_eq_true rfl, Nat.le_of_ble_eq_true rfl, Nat.le_of_ble_eq_true rfl⟩ rfl hl.1 rfl (Nat.le_of_ble_eq_true rfl) dX8_hands_34 (fun b24 => ?_)
        refine lv_if_ne (tgt := 47) hx hb dX8_hands_37 (by decide) (fun c25 => ?_) (fun c25 => ?_)
        · replace hF := (if_neg c25).symm.trans hF
          refine lv_iload_n hx hb dX8_hands_47 rfl (lv_at hl 1 rfl) ?_
          refine lv_iconst (v := 0) hx hb dX8_hands_48 (by decide) ?_
          refine lv_iload_n hx hb dX8_hands_49 rfl (lv_at hl 2 rfl) ?_
          refine lv_iload hx hb dX8_hands_50 (lv_at hl 4 rfl) ?_
          refine lv_isub hx hb dX8_hands_52 ?_
          refine va_mmax hx hb (hml.trans hl.1.symm) hown (hts _ mL_X8_245) (hts _ mT_J9_max_7cf53) (hts _ mN_J9) (hts _ mC_J9_max_7cf53) (Nat.le_of_ble_eq_true rfl) (Nat.le_of_ble_eq_true rfl) (Nat.le_of_ble_eq_true rfl) (Nat.le_of_ble_eq_true rfl) dX8_hands_53 ?_
          refine lv_iload_n hx hb dX8_hands_56 rfl (lv_at hl 3 rfl) ?_
          refine lv_iload hx hb dX8_hands_57 (lv_at hl 4 rfl) ?_
          refine lv_iadd hx hb dX8_hands_59 ?_
          obtain ⟨r27, h26, hF⟩ := ob_some hF
          refine cS_Ri C0 pkX8_passes (As := [.int a1, .int (if 0 < a2 - a4 then a2 - a4 else 0), .int (a3 + a4)]) (rest := []) (kX8_passes l g a1 (if 0 < a2 - a4 then a2 - a4 else 0) (a3 + a4) r27 h26) mL_X8_239 ⟨rfl, rfl, Nat.le_of_ble_eq_true rfl, Nat.le_of_ble_eq_true rfl, Nat.le_of_ble_eq_true rfl, Nat.le_of_ble_eq_true rfl⟩ rfl hl.1 rfl (Nat.le_of_ble_eq_true rfl) dX8_hands_60 (fun b28 => ?_)
          refine lv_if_eq (tgt := 68) hx hb dX8_hands_63 (by decide) (fun c29 => ?_) (fun c29 => ?_)
          · replace hF := (if_pos c29).symm.trans hF
            refine lv_iload_n hx hb dX8_hands_68 rfl (lv_at hl 1 rfl) ?_
            refine lv_iload_n hx hb dX8_hands_69 rfl (lv_at hl 2 rfl) ?_
            refine lv_iload hx hb dX8_hands_70 (lv_at hl 4 rfl) ?_
            refine lv_iadd hx hb dX8_hands_72 ?_
            refine lv_iconst (v := 0) hx hb dX8_hands_73 (by decide) ?_
            refine lv_iload_n hx hb dX8_hands_74 rfl (lv_at hl 3 rfl) ?_
            refine lv_iload hx hb dX8_hands_75 (lv_at hl 4 rfl) ?_
            refine lv_isub hx hb dX8_hands_77 ?_
            refine va_mmax hx hb (hml.trans hl.1.symm) hown (hts _ mL_X8_245) (hts _ mT_J9_max_7cf53) (hts _ mN_J9) (hts _ mC_J9_max_7cf53) (Nat.le_of_ble_eq_true rfl) (Nat.le_of_ble_eq_true rfl) (Nat.le_of_ble_eq_true rfl) (Nat.le_of_ble_eq_true rfl) dX8_hands_78 ?_
            obtain ⟨r31, h30, hF⟩ := ob_some hF
            refine cS_Ri C0 pkX8_passes (As := [.int a1, .int (a2 + a4), .int (if 0 < a3 - a4 then a3 - a4 else 0)]) (rest := []) (kX8_passes l g a1 (a2 + a4) (if 0 < a3 - a4 then a3 - a4 else 0) r31 h30) mL_X8_239 ⟨rfl, rfl, Nat.le_of_ble_eq_true rfl, Nat.le_of_ble_eq_true rfl, Nat.le_of_ble_eq_true rfl, Nat.le_of_ble_eq_true rfl⟩ rfl hl.1 rfl (Nat.le_of_ble_eq_true rfl) dX8_hands_81 (fun b32 => ?_)
            refine lv_if_eq (tgt := 91) hx hb dX8_hands_84 (by decide) (fun c33 => ?_) (fun c33 => ?_)
            · replace hF := (if_pos c33).symm.trans hF
              refine lv_iconst (v := 0) hx hb dX8_hands_91 (by decide) ?_
              cases hF
              exact ret_Wi C0 hP hS trivial dX8_hands_92
            · replace hF := (if_neg c33).symm.trans hF
              refine lv_iconst (v := 2) hx hb dX8_hands_87 (by decide) ?_
              refine lv_goto (tgt := 92) hx hb dX8_hands_88 (by decide) ?_
              cases hF
              exact ret_Wi C0 hP hS trivial dX8_hands_92
          · replace hF := (if_neg c29).symm.trans hF
            refine lv_iconst (v := 1) hx hb dX8_hands_66 (by decide) ?_
            cases hF
            exact ret_Wi C0 hP hS trivial dX8_hands_67
        · replace hF := (if_pos c25).symm.trans hF
          refine lv_aload_n hx hb dX8_hands_40 rfl (lv_at hl 0 rfl) ?_
          refine lv_ldc hx hb hown (hts _ mK_X8_80) dX8_hands_41 ?_
          obtain ⟨r36, m35, h34, hF⟩ := ob2_some hF
          refine cV_Wi C0 eX_st hP hS hK pkX8_finding (As := [.int (-100001)]) (rest := []) (kX8_finding l g ad tk mem (-100001) r36 m35 h34) mL_X8_81 ⟨rfl, rfl, Nat.le_of_ble_eq_true rfl, Nat.le_of_ble_eq_true rfl, Nat.le_of_ble_eq_true rfl, Nat.le_of_ble_eq_true rfl⟩ 0 wX_0 rfl rfl rfl hl.1 rfl (Nat.le_of_ble_eq_true rfl) dX8_hands_43 (fun H locs _ hP hS => ?_)
          cases hF
          exact ret_Wi C0 hP hS trivial dX8_hands_46
theorem pkX8_apart : pkV yX8_apart cX8_apart 6 (some .int) RX8 0 := ⟨mI_X8_apart, mS_X8_apart, mN_X8, mC_X8_apart, by decide +kernel⟩
def fX8_apart_9 (mem : Mem) : Nat → Int32 → Int32 → Int32 → Int32 → Option (Int32)
  | 0, _, _, _, _ => none
  | n + 1, x1, x2, x3, x4 =>
    if 5 ≤ x4 then (some (x1 - x2)) else (ob1 (fX4_isPeopled mem x4) (fun r3 => if r3 = 0 then (fX8_apart_9 mem n x1 x2 x3 (x4 + 1)) else (ob1 (fX7_delegationTime 5 mem x4) (fun r7 => if x3 = 0 then (if x3 = 0 then (fX8_apart_9 mem n r7 r7 1 (x4 + 1)) else (fX8_apart_9 mem n r7 (if r7 < x2 then r7 else x2) 1 (x4 + 1))) else (if x3 = 0 then (fX8_apart_9 mem n (if x1 < r7 then r7 else x1) r7 1 (x4 + 1)) else (fX8_apart_9 mem n (if x1 < r7 then r7 else x1) (if r7 < x2 then r7 else x2) 1 (x4 + 1)))))))
set_option maxHeartbeats 4000000 in
set_option maxRecDepth 100000 in
theorem lpX8_apart_9 {p : Program} {l : Launch} {e : Env} {s : State} {m : MethodId} {args : Array Value} {below : List Frame} {meth : Method} {c : Code} (g : gG) (ad : Nat → Nat) (tk : Nat) (mem : Mem) (r : Int32) (C0 : cxt (eX g ad tk) cX8_apart 6 RX8 (some .int) p s m args meth c) (hP : va_P g.1 vwCl (wX g ad mem) s.heap) :
    ∀ (n : Nat) (x1 : Int32) (x2 : Int32) (x3 : Int32) (x4 : Int32) (ls : Array Slot), fX8_apart_9 mem n x1 x2 x3 x4 = some r → lv_has ls 6 [(0, .ref (ad 0)), (1, .int x1), (2, .int x2), (3, .int x3), (4, .int x4)] → W p l e { frames := 4, cells := 0, slots := 0, locals := 80 } s m args below meth c s.heap [] 0 0 (MQ below (qR (some (.int r)) (True)) args s 0 0 noA) (F0 m 9 ls []) := by
  obtain ⟨hx, hb, hml, hown, hts, hr, hlk, hE⟩ := id C0
  obtain ⟨hK, hN, hA, hZ, hT, hTA⟩ := id hE
  intro n
  induction n with
  | zero =>
    intro x1 x2 x3 x4 ls hF hl
    cases hF
  | succ n ih =>
    intro x1 x2 x3 x4 ls hF hl
    rw [fX8_apart_9] at hF
    have hS : va_S (AW 44 ad) s.heap s.heap [] := va_S.rf
    refine lv_iload hx hb dX8_apart_9 (lv_at hl 4 rfl) ?_
    refine lv_iconst (v := 5) hx hb dX8_apart_11 (by decide) ?_
    refine lv_icmp_ge (tgt := 78) hx hb dX8_apart_12 (by decide) (fun c1 => ?_) (fun c1 => ?_)
    · replace hF := (if_pos c1).symm.trans hF
      refine lv_iload_n hx hb dX8_apart_78 rfl (lv_at hl 1 rfl) ?_
      refine lv_iload_n hx hb dX8_apart_79 rfl (lv_at hl 2 rfl) ?_
      refine lv_isub hx hb dX8_apart_80 ?_
      cases hF
      exact ret_Ri C0 trivial dX8_apart_81
    · replace hF := (if_neg c1).symm.trans hF
      refine lv_aload_n hx hb dX8_apart_15 rfl (lv_at hl 0 rfl) ?_
      refine get_W C0 hK hP iwX8 0 wX_0 rfl 0 (by decide) mF_X8_10 rfl rfl dX8_apart_16 ?_
      refine lv_iload hx hb dX8_apart_19 (lv_at hl 4 rfl) ?_
      obtain ⟨r3, h2, hF⟩ := ob_some hF
      refine cV_Ri C0 eX_st hP hS hK pkX4_isPeopled (As := [.int x4]) (rest := []) (kX4_isPeopled l g ad tk mem x4 r3 h2) mL_X8_250 ⟨rfl, rfl, Nat.le_of_ble_eq_true rfl, Nat.le_of_ble_eq_true rfl, Nat.le_of_ble_eq_true rfl, Nat.le_of_ble_eq_true rfl⟩ 1 wX_1 rfl rfl rfl hl.1 rfl (Nat.le_of_ble_eq_true rfl) dX8_apart_21 (fun b4 => ?_)
      refine lv_if_eq (tgt := 72) hx hb dX8_apart_24 (by decide) (fun c5 => ?_) (fun c5 => ?_)
      · replace hF := (if_pos c5).symm.trans hF
        refine lv_iinc (v := x4 + 1) (lv' := [(4, .int (x4 + 1)), (0, .ref (ad 0)), (1, .int x1), (2, .int x2), (3, .int x3)]) hx hb dX8_apart_72 hl (k := 4) rfl rfl (by decide) rfl (fun ls hl => ?_)
        refine lv_goto (tgt := 9) hx hb dX8_apart_75 (by decide) ?_
        exact ih x1 x2 x3 (x4 + 1) ls hF (lv_sub hl [1, 2, 3, 4, 0] rfl)
      · replace hF := (if_neg c5).symm.trans hF
        refine lv_aload_n hx hb dX8_apart_27 rfl (lv_at hl 0 rfl) ?_
        refine get_W C0 hK hP iwX8 0 wX_0 rfl 1 (by decide) mF_X8_21 rfl rfl dX8_apart_28 ?_
        refine lv_iload hx hb dX8_apart_31 (lv_at hl 4 rfl) ?_
        obtain ⟨r7, h6, hF⟩ := ob_some hF
        refine cV_Ri C0 eX_st hP hS hK pkX7_delegationTime (As := [.int x4]) (rest := []) (kX7_delegationTime l g ad tk mem 5 (by decide) x4 r7 h6) mL_X8_122 ⟨rfl, rfl, Nat.le_of_ble_eq_true rfl, Nat.le_of_ble_eq_true rfl, Nat.le_of_ble_eq_true rfl, Nat.le_of_ble_eq_true rfl⟩ 5 wX_5 rfl rfl rfl hl.1 rfl (Nat.le_of_ble_eq_true rfl) dX8_apart_33 (fun _ => ?_)
        refine lv_istore (lv' := [(5, .int r7), (0, .ref (ad 0)), (1, .int x1), (2, .int x2), (3, .int x3), (4, .int x4)]) hx hb dX8_apart_36 hl (by decide) rfl (fun ls hl => ?_)
        refine lv_iload_n hx hb dX8_apart_38 rfl (lv_at hl 4 rfl) ?_
        refine lv_if_eq (tgt := 51) hx hb dX8_apart_39 (by decide) (fun c8 => ?_) (fun c8 => ?_)
        · replace hF := (if_pos c8).symm.trans hF
          refine lv_iload hx hb dX8_apart_51 (lv_at hl 0 rfl) ?_
          refine lv_istore_n (lv' := [(1, .int r7), (5, .int r7), (0, .ref (ad 0)), (2, .int x2), (3, .int x3), (4, .int x4)]) hx hb dX8_apart_53 rfl hl (by decide) rfl (fun ls hl => ?_)
          refine lv_iload_n hx hb dX8_apart_54 rfl (lv_at hl 4 rfl) ?_
          refine lv_if_eq (tgt := 67) hx hb dX8_apart_55 (by decide) (fun c9 => ?_) (fun c9 => ?_)
          · replace hF := (if_pos c9).symm.trans hF
            refine lv_iload hx hb dX8_apart_67 (lv_at hl 1 rfl) ?_
            refine lv_istore_n (lv' := [(2, .int r7), (1, .int r7), (5, .int r7), (0, .ref (ad 0)), (3, .int x3), (4, .int x4)]) hx hb dX8_apart_69 rfl hl (by decide) rfl (fun ls hl => ?_)
            refine lv_iconst (v := 1) hx hb dX8_apart_70 (by decide) ?_
            refine lv_istore_n (lv' := [(3, .int 1), (2, .int r7), (1, .int r7), (5, .int r7), (0, .ref (ad 0)), (4, .int x4)]) hx hb dX8_apart_71 rfl hl (by decide) rfl (fun ls hl => ?_)
            refine lv_iinc (v := x4 + 1) (lv' := [(4, .int (x4 + 1)), (3, .int 1), (2, .int r7), (1, .int r7), (5, .int r7), (0, .ref (ad 0))]) hx hb dX8_apart_72 hl (k := 5) rfl rfl (by decide) rfl (fun ls hl => ?_)
            refine lv_goto (tgt := 9) hx hb dX8_apart_75 (by decide) ?_
            exact ih r7 r7 1 (x4 + 1) ls hF (lv_sub hl [5, 3, 2, 1, 0] rfl)
          · replace hF := (if_neg c9).symm.trans hF
            refine lv_iload_n hx hb dX8_apart_58 rfl (lv_at hl 3 rfl) ?_
            refine lv_iload hx hb dX8_apart_59 (lv_at hl 1 rfl) ?_
            refine va_mmin hx hb (hml.trans hl.1.symm) hown (hts _ mL_X8_253) (hts _ mT_J9_min_7cf53) (hts _ mN_J9) (hts _ mC_J9_min_7cf53) (Nat.le_of_ble_eq_true rfl) (Nat.le_of_ble_eq_true rfl) (Nat.le_of_ble_eq_true rfl) (Nat.le_of_ble_eq_true rfl) dX8_apart_61 ?_
            refine lv_goto (tgt := 69) hx hb dX8_apart_64 (by decide) ?_
            refine lv_istore_n (lv' := [(2, .int (if r7 < x2 then r7 else x2)), (1, .int r7), (5, .int r7), (0, .ref (ad 0)), (3, .int x3), (4, .int x4)]) hx hb dX8_apart_69 rfl hl (by decide) rfl (fun ls hl => ?_)
            refine lv_iconst (v := 1) hx hb dX8_apart_70 (by decide) ?_
            refine lv_istore_n (lv' := [(3, .int 1), (2, .int (if r7 < x2 then r7 else x2)), (1, .int r7), (5, .int r7), (0, .ref (ad 0)), (4, .int x4)]) hx hb dX8_apart_71 rfl hl (by decide) rfl (fun ls hl => ?_)
            refine lv_iinc (v := x4 + 1) (lv' := [(4, .int (x4 + 1)), (3, .int 1), (2, .int (if r7 < x2 then r7 else x2)), (1, .int r7), (5, .int r7), (0, .ref (ad 0))]) hx hb dX8_apart_72 hl (k := 5) rfl rfl (by decide) rfl (fun ls hl => ?_)
            refine lv_goto (tgt := 9) hx hb dX8_apart_75 (by decide) ?_
            exact ih r7 (if r7 < x2 then r7 else x2) 1 (x4 + 1) ls hF (lv_sub hl [5, 3, 2, 1, 0] rfl)
        · replace hF := (if_neg c8).symm.trans hF
          refine lv_iload_n hx hb dX8_apart_42 rfl (lv_at hl 2 rfl) ?_
          refine lv_iload hx hb dX8_apart_43 (lv_at hl 0 rfl) ?_
          refine va_mmax hx hb (hml.trans hl.1.symm) hown (hts _ mL_X8_245) (hts _ mT_J9_max_7cf53) (hts _ mN_J9) (hts _ mC_J9_max_7cf53) (Nat.le_of_ble_eq_true rfl) (Nat.le_of_ble_eq_true rfl) (Nat.le_of_ble_eq_true rfl) (Nat.le_of_ble_eq_true rfl) dX8_apart_45 ?_
          refine lv_goto (tgt := 53) hx hb dX8_apart_48 (by decide) ?_
          refine lv_istore_n (lv' := [(1, .int (if x1 < r7 then r7 else x1)), (5, .int r7), (0, .ref (ad 0)), (2, .int x2), (3, .int x3), (4, .int x4)]) hx hb dX8_apart_53 rfl hl (by decide) rfl (fun ls hl => ?_)
          refine lv_iload_n hx hb dX8_apart_54 rfl (lv_at hl 4 rfl) ?_
          refine lv_if_eq (tgt := 67) hx hb dX8_apart_55 (by decide) (fun c10 => ?_) (fun c10 => ?_)
          · replace hF := (if_pos c10).symm.trans hF
            refine lv_iload hx hb dX8_apart_67 (lv_at hl 1 rfl) ?_
            refine lv_istore_n (lv' := [(2, .int r7), (1, .int (if x1 < r7 then r7 else x1)), (5, .int r7), (0, .ref (ad 0)), (3, .int x3), (4, .int x4)]) hx hb dX8_apart_69 rfl hl (by decide) rfl (fun ls hl => ?_)
            refine lv_iconst (v := 1) hx hb dX8_apart_70 (by decide) ?_
            refine lv_istore_n (lv' := [(3, .int 1), (2, .int r7), (1, .int (if x1 < r7 then r7 else x1)), (5, .int r7), (0, .ref (ad 0)), (4, .int x4)]) hx hb dX8_apart_71 rfl hl (by decide) rfl (fun ls hl => ?_)
            refine lv_iinc (v := x4 + 1) (lv' := [(4, .int (x4 + 1)), (3, .int 1), (2, .int r7), (1, .int (if x1 < r7 then r7 else x1)), (5, .int r7), (0, .ref (ad 0))]) hx hb dX8_apart_72 hl (k := 5) rfl rfl (by decide) rfl (fun ls hl => ?_)
            refine lv_goto (tgt := 9) hx hb dX8_apart_75 (by decide) ?_
            exact ih (if x1 < r7 then r7 else x1) r7 1 (x4 + 1) ls hF (lv_sub hl [5, 3, 2, 1, 0] rfl)
          · replace hF := (if_neg c10).symm.trans hF
            refine lv_iload_n hx hb dX8_apart_58 rfl (lv_at hl 3 rfl) ?_
            refine lv_iload hx hb dX8_apart_59 (lv_at hl 1 rfl) ?_
            refine va_mmin hx hb (hml.trans hl.1.symm) hown (hts _ mL_X8_253) (hts _ mT_J9_min_7cf53) (hts _ mN_J9) (hts _ mC_J9_min_7cf53) (Nat.le_of_ble_eq_true rfl) (Nat.le_of_ble_eq_true rfl) (Nat.le_of_ble_eq_true rfl) (Nat.le_of_ble_eq_true rfl) dX8_apart_61 ?_
            refine lv_goto (tgt := 69) hx hb dX8_apart_64 (by decide) ?_
            refine lv_istore_n (lv' := [(2, .int (if r7 < x2 then r7 else x2)), (1, .int (if x1 < r7 then r7 else x1)), (5, .int r7), (0, .ref (ad 0)), (3, .int x3), (4, .int x4)]) hx hb dX8_apart_69 rfl hl (by decide) rfl (fun ls hl => ?_)
            refine lv_iconst (v := 1) hx hb dX8_apart_70 (by decide) ?_
            refine lv_istore_n (lv' := [(3, .int 1), (2, .int (if r7 < x2 then r7 else x2)), (1, .int (if x1 < r7 then r7 else x1)), (5, .int r7), (0, .ref (ad 0)), (4, .int x4)]) hx hb dX8_apart_71 rfl hl (by decide) rfl (fun ls hl => ?_)
            refine lv_iinc (v := x4 + 1) (lv' := [(4, .int (x4 + 1)), (3, .int 1), (2, .int (if r7 < x2 then r7 else x2)), (1, .int (if x1 < r7 then r7 else x1)), (5, .int r7), (0, .ref (ad 0))]) hx hb dX8_apart_72 hl (k := 5) rfl rfl (by decide) rfl (fun ls hl => ?_)
            refine lv_goto (tgt := 9) hx hb dX8_apart_75 (by decide) ?_
            exact ih (if x1 < r7 then r7 else x1) (if r7 < x2 then r7 else x2) 1 (x4 + 1) ls hF (lv_sub hl [5, 3, 2, 1, 0] rfl)
def fX8_apart (mem : Mem) : Option (Int32) :=
  fX8_apart_9 mem fu 0 0 0 0
set_option maxHeartbeats 4000000 in
set_option maxRecDepth 100000 in
theorem kX8_apart (l : Launch) (g : gG) (ad : Nat → Nat) (tk : Nat) (mem : Mem) (r : Int32) (hF : fX8_apart mem = some r) : Met l yX8_apart (Cond.code yX8_apart cX8_apart 6 (some .int) :: gw) { frames := 4, cells := 0, slots := 0, locals := 80 } (pG (wX g ad mem) (eX g ad tk) g [.ref (ad 0)]) (qR (some (.int r)) (True)) 0 0 noA := by
  refine met_of (by decide) (Nat.le_of_ble_eq_true rfl) ?_
  intro p e s m args below meth c ls C0 hP hl
  obtain ⟨hx, hb, hml, hown, hts, hr, hlk, hE⟩ := id C0
  obtain ⟨hK, hN, hA, hZ, hT, hTA⟩ := id hE
  have hl : lv_has ls 6 [(0, .ref (ad 0))] := hl
  have hS : va_S (AW 44 ad) s.heap s.heap [] := va_S.rf
  unfold fX8_apart at hF
  refine lv_iconst (v := 0) hx hb dX8_apart_0 (by decide) ?_
  refine lv_istore_n (lv' := [(1, .int 0), (0, .ref (ad 0))]) hx hb dX8_apart_1 rfl hl (by decide) rfl (fun ls hl => ?_)
  refine lv_iconst (v := 0) hx hb dX8_apart_2 (by decide) ?_
  refine lv_istore_n (lv' := [(2, .int 0), (1, .int 0), (0, .ref (ad 0))]) hx hb dX8_apart_3 rfl hl (by decide) rfl (fun ls hl => ?_)
  refine lv_iconst (v := 0) hx hb dX8_apart_4 (by decide) ?_
  refine lv_istore_n (lv' := [(3, .int 0), (2, .int 0), (1, .int 0), (0, .ref (ad 0))]) hx hb dX8_apart_5 rfl hl (by decide) rfl (fun ls hl => ?_)
  refine lv_iconst (v := 0) hx hb dX8_apart_6 (by decide) ?_
  refine lv_istore (lv' := [(4, .int 0), (3, .int 0), (2, .int 0), (1, .int 0), (0, .ref (ad 0))]) hx hb dX8_apart_7 hl (by decide) rfl (fun ls hl => ?_)
  exact lpX8_apart_9 g ad tk mem r C0 hP fu 0 0 0 0 ls hF (lv_sub hl [4, 3, 2, 1, 0] rfl)
theorem pkX8_gapsOfPairs : pkV yX8_gapsOfPairs cX8_gapsOfPairs 4 (some .int) RX8 0 := ⟨mI_X8_gapsOfPairs, mS_X8_gapsOfPairs, mN_X8, mC_X8_gapsOfPairs, by decide +kernel⟩
def fX8_gapsOfPairs_11 (mem : Mem) (z2 : Int32) (kc : Int32 → Int32 → Option (Int32)) : Nat → Int32 → Int32 → Option (Int32)
  | 0, _, _ => none
  | n + 1, x1, x3 =>
    if z2 ≤ x3 then (kc x1 (z2 + 1)) else (ob1 (fX4_isPeopled mem z2) (fun r4 => if r4 = 0 then (fX8_gapsOfPairs_11 mem z2 kc n x1 (x3 + 1)) else (ob1 (fX4_isPeopled mem x3) (fun r8 => if r8 = 0 then (fX8_gapsOfPairs_11 mem z2 kc n x1 (x3 + 1)) else (ob1 (fX7_delegationTime 5 mem z2) (fun r12 => ob1 (fX7_delegationTime 5 mem x3) (fun r14 => fX8_gapsOfPairs_11 mem z2 kc n (x1 + (if 0 ≤ r12 - r14 then r12 - r14 else 0 - (r12 - r14))) (x3 + 1))))))))
set_option maxHeartbeats 4000000 in
set_option maxRecDepth 100000 in
theorem lpX8_gapsOfPairs_11 {p : Program} {l : Launch} {e : Env} {s : State} {m : MethodId} {args : Array Value} {below : List Frame} {meth : Method} {c : Code} (g : gG) (ad : Nat → Nat) (tk : Nat) (mem : Mem) (z2 : Int32) (kc : Int32 → Int32 → Option (Int32)) (r : Int32) (C0 : cxt (eX g ad tk) cX8_gapsOfPairs 4 RX8 (some .int) p s m args meth c) (hP : va_P g.1 vwCl (wX g ad mem) s.heap)
    (hkc : ∀ (x1 : Int32) (x2 : Int32) (ls : Array Slot), kc x1 x2 = some r → lv_has ls 4 [(0, .ref (ad 0)), (1, .int x1), (2, .int x2)] → W p l e { frames := 4, cells := 0, slots := 0, locals := 80 } s m args below meth c s.heap [] 0 0 (MQ below (qR (some (.int r)) (True)) args s 0 0 noA) (F0 m 4 ls [])) :
    ∀ (n : Nat) (x1 : Int32) (x3 : Int32) (ls : Array Slot), fX8_gapsOfPairs_11 mem z2 kc n x1 x3 = some r → lv_has ls 4 [(0, .ref (ad 0)), (1, .int x1), (2, .int z2), (3, .int x3)] → W p l e { frames := 4, cells := 0, slots := 0, locals := 80 } s m args below meth c s.heap [] 0 0 (MQ below (qR (some (.int r)) (True)) args s 0 0 noA) (F0 m 11 ls []) := by
  obtain ⟨hx, hb, hml, hown, hts, hr, hlk, hE⟩ := id C0
  obtain ⟨hK, hN, hA, hZ, hT, hTA⟩ := id hE
  intro n
  induction n with
  | zero =>
    intro x1 x3 ls hF hl
    cases hF
  | succ n ih =>
    intro x1 x3 ls hF hl
    rw [fX8_gapsOfPairs_11] at hF
    have hS : va_S (AW 44 ad) s.heap s.heap [] := va_S.rf
    refine lv_iload_n hx hb dX8_gapsOfPairs_11 rfl (lv_at hl 3 rfl) ?_
    refine lv_iload_n hx hb dX8_gapsOfPairs_12 rfl (lv_at hl 2 rfl) ?_
    refine lv_icmp_ge (tgt := 67) hx hb dX8_gapsOfPairs_13 (by decide) (fun c2 => ?_) (fun c2 => ?_)
    · replace hF := (if_pos c2).symm.trans hF
      refine lv_iinc (v := z2 + 1) (lv' := [(2, .int (z2 + 1)), (0, .ref (ad 0)), (1, .int x1), (3, .int x3)]) hx hb dX8_gapsOfPairs_67 hl (k := 2) rfl rfl (by decide) rfl (fun ls hl => ?_)
      refine lv_goto (tgt := 4) hx hb dX8_gapsOfPairs_70 (by decide) ?_
      exact hkc x1 (z2 + 1) ls hF (lv_sub hl [1, 2, 0] rfl)
    · replace hF := (if_neg c2).symm.trans hF
      refine lv_aload_n hx hb dX8_gapsOfPairs_16 rfl (lv_at hl 0 rfl) ?_
      refine get_W C0 hK hP iwX8 0 wX_0 rfl 0 (by decide) mF_X8_10 rfl rfl dX8_gapsOfPairs_17 ?_
      refine lv_iload_n hx hb dX8_gapsOfPairs_20 rfl (lv_at hl 2 rfl) ?_
      obtain ⟨r4, h3, hF⟩ := ob_some hF
      refine cV_Ri C0 eX_st hP hS hK pkX4_isPeopled (As := [.int z2]) (rest := []) (kX4_isPeopled l g ad tk mem z2 r4 h3) mL_X8_250 ⟨rfl, rfl, Nat.le_of_ble_eq_true rfl, Nat.le_of_ble_eq_true rfl, Nat.le_of_ble_eq_true rfl, Nat.le_of_ble_eq_true rfl⟩ 1 wX_1 rfl rfl rfl hl.1 rfl (Nat.le_of_ble_eq_true rfl) dX8_gapsOfPairs_21 (fun b5 => ?_)
      refine lv_if_eq (tgt := 61) hx hb dX8_gapsOfPairs_24 (by decide) (fun c6 => ?_) (fun c6 => ?_)
      · replace hF := (if_pos c6).symm.trans hF
        refine lv_iinc (v := x3 + 1) (lv' := [(3, .int (x3 + 1)), (0, .ref (ad 0)), (1, .int x1), (2, .int z2)]) hx hb dX8_gapsOfPairs_61 hl (k := 3) rfl rfl (by decide) rfl (fun ls hl => ?_)
        refine lv_goto (tgt := 11) hx hb dX8_gapsOfPairs_64 (by decide) ?_
        exact ih x1 (x3 + 1) ls hF (lv_sub hl [1, 2, 3, 0] rfl)
      · replace hF := (if_neg c6).symm.trans hF
        refine lv_aload_n hx hb dX8_gapsOfPairs_27 rfl (lv_at hl 0 rfl) ?_
        refine get_W C0 hK hP iwX8 0 wX_0 rfl 0 (by decide) mF_X8_10 rfl rfl dX8_gapsOfPairs_28 ?_
        refine lv_iload_n hx hb dX8_gapsOfPairs_31 rfl (lv_at hl 3 rfl) ?_
        obtain ⟨r8, h7, hF⟩ := ob_some hF
        refine cV_Ri C0 eX_st hP hS hK pkX4_isPeopled (As := [.int x3]) (rest := []) (kX4_isPeopled l g ad tk mem x3 r8 h7) mL_X8_250 ⟨rfl, rfl, Nat.le_of_ble_eq_true rfl, Nat.le_of_ble_eq_true rfl, Nat.le_of_ble_eq_true rfl, Nat.le_of_ble_eq_true rfl⟩ 1 wX_1 rfl rfl rfl hl.1 rfl (Nat.le_of_ble_eq_true rfl) dX8_gapsOfPairs_32 (fun b9 => ?_)
        refine lv_if_eq (tgt := 61) hx hb dX8_gapsOfPairs_35 (by decide) (fun c10 => ?_) (fun c10 => ?_)
        · replace hF := (if_pos c10).symm.trans hF
          refine lv_iinc (v := x3 + 1) (lv' := [(3, .int (x3 + 1)), (0, .ref (ad 0)), (1, .int x1), (2, .int z2)]) hx hb dX8_gapsOfPairs_61 hl (k := 3) rfl rfl (by decide) rfl (fun ls hl => ?_)
          refine lv_goto (tgt := 11) hx hb dX8_gapsOfPairs_64 (by decide) ?_
          exact ih x1 (x3 + 1) ls hF (lv_sub hl [1, 2, 3, 0] rfl)
        · replace hF := (if_neg c10).symm.trans hF
          refine lv_iload_n hx hb dX8_gapsOfPairs_38 rfl (lv_at hl 1 rfl) ?_
          refine lv_aload_n hx hb dX8_gapsOfPairs_39 rfl (lv_at hl 0 rfl) ?_
          refine get_W C0 hK hP iwX8 0 wX_0 rfl 1 (by decide) mF_X8_21 rfl rfl dX8_gapsOfPairs_40 ?_
          refine lv_iload_n hx hb dX8_gapsOfPairs_43 rfl (lv_at hl 2 rfl) ?_
          obtain ⟨r12, h11, hF⟩ := ob_some hF
          refine cV_Ri C0 eX_st hP hS hK pkX7_delegationTime (As := [.int z2]) (rest := [.int x1]) (kX7_delegationTime l g ad tk mem 5 (by decide) z2 r12 h11) mL_X8_122 ⟨rfl, rfl, Nat.le_of_ble_eq_true rfl, Nat.le_of_ble_eq_true rfl, Nat.le_of_ble_eq_true rfl, Nat.le_of_ble_eq_true rfl⟩ 5 wX_5 rfl rfl rfl hl.1 rfl (Nat.le_of_ble_eq_true rfl) dX8_gapsOfPairs_44 (fun _ => ?_)
          refine lv_aload_n hx hb dX8_gapsOfPairs_47 rfl (lv_at hl 0 rfl) ?_
          refine get_W C0 hK hP iwX8 0 wX_0 rfl 1 (by decide) mF_X8_21 rfl rfl dX8_gapsOfPairs_48 ?_
          refine lv_iload_n hx hb dX8_gapsOfPairs_51 rfl (lv_at hl 3 rfl) ?_
          obtain ⟨r14, h13, hF⟩ := ob_some hF
          refine cV_Ri C0 eX_st hP hS hK pkX7_delegationTime (As := [.int x3]) (rest := [.int r12, .int x1]) (kX7_delegationTime l g ad tk mem 5 (by decide) x3 r14 h13) mL_X8_122 ⟨rfl, rfl, Nat.le_of_ble_eq_true rfl, Nat.le_of_ble_eq_true rfl, Nat.le_of_ble_eq_true rfl, Nat.le_of_ble_eq_true rfl⟩ 5 wX_5 rfl rfl rfl hl.1 rfl (Nat.le_of_ble_eq_true rfl) dX8_gapsOfPairs_52 (fun _ => ?_)
          refine lv_isub hx hb dX8_gapsOfPairs_55 ?_
          refine va_mabs hx hb (hml.trans hl.1.symm) hown (hts _ mL_X8_336) (hts _ mT_J9_abs_0f7a4) (hts _ mN_J9) (hts _ mC_J9_abs_0f7a4) (Nat.le_of_ble_eq_true rfl) (Nat.le_of_ble_eq_true rfl) (Nat.le_of_ble_eq_true rfl) (Nat.le_of_ble_eq_true rfl) dX8_gapsOfPairs_56 ?_
          refine lv_iadd hx hb dX8_gapsOfPairs_59 ?_
          refine lv_istore_n (lv' := [(1, .int (x1 + (if 0 ≤ r12 - r14 then r12 - r14 else 0 - (r12 - r14)))), (0, .ref (ad 0)), (2, .int z2), (3, .int x3)]) hx hb dX8_gapsOfPairs_60 rfl hl (by decide) rfl (fun ls hl => ?_)
          refine lv_iinc (v := x3 + 1) (lv' := [(3, .int (x3 + 1)), (1, .int (x1 + (if 0 ≤ r12 - r14 then r12 - r14 else 0 - (r12 - r14)))), (0, .ref (ad 0)), (2, .int z2)]) hx hb dX8_gapsOfPairs_61 hl (k := 3) rfl rfl (by decide) rfl (fun ls hl => ?_)
          refine lv_goto (tgt := 11) hx hb dX8_gapsOfPairs_64 (by decide) ?_
          exact ih (x1 + (if 0 ≤ r12 - r14 then r12 - r14 else 0 - (r12 - r14))) (x3 + 1) ls hF (lv_sub hl [2, 1, 3, 0] rfl)
def fX8_gapsOfPairs_4 (mem : Mem) : Nat → Int32 → Int32 → Option (Int32)
  | 0, _, _ => none
  | n + 1, x1, x2 =>
    if 5 ≤ x2 then (some x1) else (fX8_gapsOfPairs_11 mem x2 (fX8_gapsOfPairs_4 mem n) fu x1 0)
set_option maxHeartbeats 4000000 in
set_option maxRecDepth 100000 in
theorem lpX8_gapsOfPairs_4 {p : Program} {l : Launch} {e : Env} {s : State} {m : MethodId} {args : Array Value} {below : List Frame} {meth : Method} {c : Code} (g : gG) (ad : Nat → Nat) (tk : Nat) (mem : Mem) (r : Int32) (C0 : cxt (eX g ad tk) cX8_gapsOfPairs 4 RX8 (some .int) p s m args meth c) (hP : va_P g.1 vwCl (wX g ad mem) s.heap) :
    ∀ (n : Nat) (x1 : Int32) (x2 : Int32) (ls : Array Slot), fX8_gapsOfPairs_4 mem n x1 x2 = some r → lv_has ls 4 [(0, .ref (ad 0)), (1, .int x1), (2, .int x2)] → W p l e { frames := 4, cells := 0, slots := 0, locals := 80 } s m args below meth c s.heap [] 0 0 (MQ below (qR (some (.int r)) (True)) args s 0 0 noA) (F0 m 4 ls []) := by
  obtain ⟨hx, hb, hml, hown, hts, hr, hlk, hE⟩ := id C0
  obtain ⟨hK, hN, hA, hZ, hT, hTA⟩ := id hE
  intro n
  induction n with
  | zero =>
    intro x1 x2 ls hF hl
    cases hF
  | succ n ih =>
    intro x1 x2 ls hF hl
    rw [fX8_gapsOfPairs_4] at hF
    have hS : va_S (AW 44 ad) s.heap s.heap [] := va_S.rf
    refine lv_iload_n hx hb dX8_gapsOfPairs_4 rfl (lv_at hl 2 rfl) ?_
    refine lv_iconst (v := 5) hx hb dX8_gapsOfPairs_5 (by decide) ?_
    refine lv_icmp_ge (tgt := 73) hx hb dX8_gapsOfPairs_6 (by decide) (fun c1 => ?_) (fun c1 => ?_)
    · replace hF := (if_pos c1).symm.trans hF
      refine lv_iload_n hx hb dX8_gapsOfPairs_73 rfl (lv_at hl 1 rfl) ?_
      cases hF
      exact ret_Ri C0 trivial dX8_gapsOfPairs_74
    · replace hF := (if_neg c1).symm.trans hF
      refine lv_iconst (v := 0) hx hb dX8_gapsOfPairs_9 (by decide) ?_
      refine lv_istore_n (lv' := [(3, .int 0), (0, .ref (ad 0)), (1, .int x1), (2, .int x2)]) hx hb dX8_gapsOfPairs_10 rfl hl (by decide) rfl (fun ls hl => ?_)
      exact lpX8_gapsOfPairs_11 g ad tk mem x2 (fX8_gapsOfPairs_4 mem n) r C0 hP ih fu x1 0 ls hF (lv_sub hl [1, 2, 3, 0] rfl)
def fX8_gapsOfPairs (mem : Mem) : Option (Int32) :=
  fX8_gapsOfPairs_4 mem fu 0 0
set_option maxHeartbeats 4000000 in
set_option maxRecDepth 100000 in
theorem kX8_gapsOfPairs (l : Launch) (g : gG) (ad : Nat → Nat) (tk : Nat) (mem : Mem) (r : Int32) (hF : fX8_gapsOfPairs mem = some r) : Met l yX8_gapsOfPairs (Cond.code yX8_gapsOfPairs cX8_gapsOfPairs 4 (some .int) :: gw) { frames := 4, cells := 0, slots := 0, locals := 80 } (pG (wX g ad mem) (eX g ad tk) g [.ref (ad 0)]) (qR (some (.int r)) (True)) 0 0 noA := by
  refine met_of (by decide) (Nat.le_of_ble_eq_true rfl) ?_
  intro p e s m args below meth c ls C0 hP hl
  obtain ⟨hx, hb, hml, hown, hts, hr, hlk, hE⟩ := id C0
  obtain ⟨hK, hN, hA, hZ, hT, hTA⟩ := id hE
  have hl : lv_has ls 4 [(0, .ref (ad 0))] := hl
  have hS : va_S (AW 44 ad) s.heap s.heap [] := va_S.rf
  unfold fX8_gapsOfPairs at hF
  refine lv_iconst (v := 0) hx hb dX8_gapsOfPairs_0 (by decide) ?_
  refine lv_istore_n (lv' := [(1, .int 0), (0, .ref (ad 0))]) hx hb dX8_gapsOfPairs_1 rfl hl (by decide) rfl (fun ls hl => ?_)
  refine lv_iconst (v := 0) hx hb dX8_gapsOfPairs_2 (by decide) ?_
  refine lv_istore_n (lv' := [(2, .int 0), (1, .int 0), (0, .ref (ad 0))]) hx hb dX8_gapsOfPairs_3 rfl hl (by decide) rfl (fun ls hl => ?_)
  exact lpX8_gapsOfPairs_4 g ad tk mem r C0 hP fu 0 0 ls hF (lv_sub hl [2, 1, 0] rfl)
theorem pkX8_peopledDelegations : pkV yX8_peopledDelegations cX8_peopledDelegations 3 (some .int) RX8 0 := ⟨mI_X8_peopledDelegations, mS_X8_peopledDelegations, mN_X8, mC_X8_peopledDelegations, by decide +kernel⟩
def fX8_peopledDelegations_4 (mem : Mem) : Nat → Int32 → Int32 → Option (Int32)
  | 0, _, _ => none
  | n + 1, x1, x2 =>
    if 5 ≤ x2 then (some x1) else (ob1 (fX4_isPeopled mem x2) (fun r3 => if r3 = 0 then (fX8_peopledDelegations_4 mem n x1 (x2 + 1)) else (fX8_peopledDelegations_4 mem n (x1 + 1) (x2 + 1))))
set_option maxHeartbeats 4000000 in
set_option maxRecDepth 100000 in
theorem lpX8_peopledDelegations_4 {p : Program} {l : Launch} {e : Env} {s : State} {m : MethodId} {args : Array Value} {below : List Frame} {meth : Method} {c : Code} (g : gG) (ad : Nat → Nat) (tk : Nat) (mem : Mem) (r : Int32) (C0 : cxt (eX g ad tk) cX8_peopledDelegations 3 RX8 (some .int) p s m args meth c) (hP : va_P g.1 vwCl (wX g ad mem) s.heap) :
    ∀ (n : Nat) (x1 : Int32) (x2 : Int32) (ls : Array Slot), fX8_peopledDelegations_4 mem n x1 x2 = some r → lv_has ls 3 [(0, .ref (ad 0)), (1, .int x1), (2, .int x2)] → W p l e { frames := 4, cells := 0, slots := 0, locals := 80 } s m args below meth c s.heap [] 0 0 (MQ below (qR (some (.int r)) (True)) args s 0 0 noA) (F0 m 4 ls []) := by
  obtain ⟨hx, hb, hml, hown, hts, hr, hlk, hE⟩ := id C0
  obtain ⟨hK, hN, hA, hZ, hT, hTA⟩ := id hE
  intro n
  induction n with
  | zero =>
    intro x1 x2 ls hF hl
    cases hF
  | succ n ih =>
    intro x1 x2 ls hF hl
    rw [fX8_peopledDelegations_4] at hF
    have hS : va_S (AW 44 ad) s.heap s.heap [] := va_S.rf
    refine lv_iload_n hx hb dX8_peopledDelegations_4 rfl (lv_at hl 2 rfl) ?_
    refine lv_iconst (v := 5) hx hb dX8_peopledDelegations_5 (by decide) ?_
    refine lv_icmp_ge (tgt := 29) hx hb dX8_peopledDelegations_6 (by decide) (fun c1 => ?_) (fun c1 => ?_)
    · replace hF := (if_pos c1).symm.trans hF
      refine lv_iload_n hx hb dX8_peopledDelegations_29 rfl (lv_at hl 1 rfl) ?_
      cases hF
      exact ret_Ri C0 trivial dX8_peopledDelegations_30
    · replace hF := (if_neg c1).symm.trans hF
      refine lv_aload_n hx hb dX8_peopledDelegations_9 rfl (lv_at hl 0 rfl) ?_
      refine get_W C0 hK hP iwX8 0 wX_0 rfl 0 (by decide) mF_X8_10 rfl rfl dX8_peopledDelegations_10 ?_
      refine lv_iload_n hx hb dX8_peopledDelegations_13 rfl (lv_at hl 2 rfl) ?_
      obtain ⟨r3, h2, hF⟩ := ob_some hF
      refine cV_Ri C0 eX_st hP hS hK pkX4_isPeopled (As := [.int x2]) (rest := []) (kX4_isPeopled l g ad tk mem x2 r3 h2) mL_X8_250 ⟨rfl, rfl, Nat.le_of_ble_eq_true rfl, Nat.le_of_ble_eq_true rfl, Nat.le_of_ble_eq_true rfl, Nat.le_of_ble_eq_true rfl⟩ 1 wX_1 rfl rfl rfl hl.1 rfl (Nat.le_of_ble_eq_true rfl) dX8_peopledDelegations_14 (fun b4 => ?_)
      refine lv_if_eq (tgt := 23) hx hb dX8_peopledDelegations_17 (by decide) (fun c5 => ?_) (fun c5 => ?_)
      · replace hF := (if_pos c5).symm.trans hF
        refine lv_iinc (v := x2 + 1) (lv' := [(2, .int (x2 + 1)), (0, .ref (ad 0)), (1, .int x1)]) hx hb dX8_peopledDelegations_23 hl (k := 2) rfl rfl (by decide) rfl (fun ls hl => ?_)
        refine lv_goto (tgt := 4) hx hb dX8_peopledDelegations_26 (by decide) ?_
        exact ih x1 (x2 + 1) ls hF (lv_sub hl [1, 2, 0] rfl)
      · replace hF := (if_neg c5).symm.trans hF
        refine lv_iinc (v := x1 + 1) (lv' := [(1, .int (x1 + 1)), (0, .ref (ad 0)), (2, .int x2)]) hx hb dX8_peopledDelegations_20 hl (k := 1) rfl rfl (by decide) rfl (fun ls hl => ?_)
        refine lv_iinc (v := x2 + 1) (lv' := [(2, .int (x2 + 1)), (1, .int (x1 + 1)), (0, .ref (ad 0))]) hx hb dX8_peopledDelegations_23 hl (k := 2) rfl rfl (by decide) rfl (fun ls hl => ?_)
        refine lv_goto (tgt := 4) hx hb dX8_peopledDelegations_26 (by decide) ?_
        exact ih (x1 + 1) (x2 + 1) ls hF (lv_sub hl [2, 1, 0] rfl)
def fX8_peopledDelegations (mem : Mem) : Option (Int32) :=
  fX8_peopledDelegations_4 mem fu 0 0
set_option maxHeartbeats 4000000 in
set_option maxRecDepth 100000 in
theorem kX8_peopledDelegations (l : Launch) (g : gG) (ad : Nat → Nat) (tk : Nat) (mem : Mem) (r : Int32) (hF : fX8_peopledDelegations mem = some r) : Met l yX8_peopledDelegations (Cond.code yX8_peopledDelegations cX8_peopledDelegations 3 (some .int) :: gw) { frames := 4, cells := 0, slots := 0, locals := 80 } (pG (wX g ad mem) (eX g ad tk) g [.ref (ad 0)]) (qR (some (.int r)) (True)) 0 0 noA := by
  refine met_of (by decide) (Nat.le_of_ble_eq_true rfl) ?_
  intro p e s m args below meth c ls C0 hP hl
  obtain ⟨hx, hb, hml, hown, hts, hr, hlk, hE⟩ := id C0
  obtain ⟨hK, hN, hA, hZ, hT, hTA⟩ := id hE
  have hl : lv_has ls 3 [(0, .ref (ad 0))] := hl
  have hS : va_S (AW 44 ad) s.heap s.heap [] := va_S.rf
  unfold fX8_peopledDelegations at hF
  refine lv_iconst (v := 0) hx hb dX8_peopledDelegations_0 (by decide) ?_
  refine lv_istore_n (lv' := [(1, .int 0), (0, .ref (ad 0))]) hx hb dX8_peopledDelegations_1 rfl hl (by decide) rfl (fun ls hl => ?_)
  refine lv_iconst (v := 0) hx hb dX8_peopledDelegations_2 (by decide) ?_
  refine lv_istore_n (lv' := [(2, .int 0), (1, .int 0), (0, .ref (ad 0))]) hx hb dX8_peopledDelegations_3 rfl hl (by decide) rfl (fun ls hl => ?_)
  exact lpX8_peopledDelegations_4 g ad tk mem r C0 hP fu 0 0 ls hF (lv_sub hl [2, 1, 0] rfl)
theorem pkX8_allTime : pkV yX8_allTime cX8_allTime 3 (some .int) RX8 0 := ⟨mI_X8_allTime, mS_X8_allTime, mN_X8, mC_X8_allTime, by decide +kernel⟩
def fX8_allTime_4 (mem : Mem) : Nat → Int32 → Int32 → Option (Int32)
  | 0, _, _ => none
  | n + 1, x1, x2 =>
    if 5 ≤ x2 then (some x1) else (ob1 (fX7_delegationTime 5 mem x2) (fun r3 => fX8_allTime_4 mem n (x1 + r3) (x2 + 1)))
set_option maxHeartbeats 4000000 in
set_option maxRecDepth 100000 in
theorem lpX8_allTime_4 {p : Program} {l : Launch} {e : Env} {s : State} {m : MethodId} {args : Array Value} {below : List Frame} {meth : Method} {c : Code} (g : gG) (ad : Nat → Nat) (tk : Nat) (mem : Mem) (r : Int32) (C0 : cxt (eX g ad tk) cX8_allTime 3 RX8 (some .int) p s m args meth c) (hP : va_P g.1 vwCl (wX g ad mem) s.heap) :
    ∀ (n : Nat) (x1 : Int32) (x2 : Int32) (ls : Array Slot), fX8_allTime_4 mem n x1 x2 = some r → lv_has ls 3 [(0, .ref (ad 0)), (1, .int x1), (2, .int x2)] → W p l e { frames := 3, cells := 0, slots := 0, locals := 58 } s m args below meth c s.heap [] 0 0 (MQ below (qR (some (.int r)) (True)) args s 0 0 noA) (F0 m 4 ls []) := by
  obtain ⟨hx, hb, hml, hown, hts, hr, hlk, hE⟩ := id C0
  obtain ⟨hK, hN, hA, hZ, hT, hTA⟩ := id hE
  intro n
  induction n with
  | zero =>
    intro x1 x2 ls hF hl
    cases hF
  | succ n ih =>
    intro x1 x2 ls hF hl
    rw [fX8_allTime_4] at hF
    have hS : va_S (AW 44 ad) s.heap s.heap [] := va_S.rf
    refine lv_iload_n hx hb dX8_allTime_4 rfl (lv_at hl 2 rfl) ?_
    refine lv_iconst (v := 5) hx hb dX8_allTime_5 (by decide) ?_
    refine lv_icmp_ge (tgt := 26) hx hb dX8_allTime_6 (by decide) (fun c1 => ?_) (fun c1 => ?_)
    · replace hF := (if_pos c1).symm.trans hF
      refine lv_iload_n hx hb dX8_allTime_26 rfl (lv_at hl 1 rfl) ?_
      cases hF
      exact ret_Ri C0 trivial dX8_allTime_27
    · replace hF := (if_neg c1).symm.trans hF
      refine lv_iload_n hx hb dX8_allTime_9 rfl (lv_at hl 1 rfl) ?_
      refine lv_aload_n hx hb dX8_allTime_10 rfl (lv_at hl 0 rfl) ?_
      refine get_W C0 hK hP iwX8 0 wX_0 rfl 1 (by decide) mF_X8_21 rfl rfl dX8_allTime_11 ?_
      refine lv_iload_n hx hb dX8_allTime_14 rfl (lv_at hl 2 rfl) ?_
      obtain ⟨r3, h2, hF⟩ := ob_some hF
      refine cV_Ri C0 eX_st hP hS hK pkX7_delegationTime (As := [.int x2]) (rest := [.int x1]) (kX7_delegationTime l g ad tk mem 5 (by decide) x2 r3 h2) mL_X8_122 ⟨rfl, rfl, Nat.le_of_ble_eq_true rfl, Nat.le_of_ble_eq_true rfl, Nat.le_of_ble_eq_true rfl, Nat.le_of_ble_eq_true rfl⟩ 5 wX_5 rfl rfl rfl hl.1 rfl (Nat.le_of_ble_eq_true rfl) dX8_allTime_15 (fun _ => ?_)
      refine lv_iadd hx hb dX8_allTime_18 ?_
      refine lv_istore_n (lv' := [(1, .int (x1 + r3)), (0, .ref (ad 0)), (2, .int x2)]) hx hb dX8_allTime_19 rfl hl (by decide) rfl (fun ls hl => ?_)
      refine lv_iinc (v := x2 + 1) (lv' := [(2, .int (x2 + 1)), (1, .int (x1 + r3)), (0, .ref (ad 0))]) hx hb dX8_allTime_20 hl (k := 2) rfl rfl (by decide) rfl (fun ls hl => ?_)
      refine lv_goto (tgt := 4) hx hb dX8_allTime_23 (by decide) ?_
      exact ih (x1 + r3) (x2 + 1) ls hF (lv_sub hl [2, 1, 0] rfl)
def fX8_allTime (mem : Mem) : Option (Int32) :=
  fX8_allTime_4 mem fu 0 0
set_option maxHeartbeats 4000000 in
set_option maxRecDepth 100000 in
theorem kX8_allTime (l : Launch) (g : gG) (ad : Nat → Nat) (tk : Nat) (mem : Mem) (r : Int32) (hF : fX8_allTime mem = some r) : Met l yX8_allTime (Cond.code yX8_allTime cX8_allTime 3 (some .int) :: gw) { frames := 3, cells := 0, slots := 0, locals := 58 } (pG (wX g ad mem) (eX g ad tk) g [.ref (ad 0)]) (qR (some (.int r)) (True)) 0 0 noA := by
  refine met_of (by decide) (Nat.le_of_ble_eq_true rfl) ?_
  intro p e s m args below meth c ls C0 hP hl
  obtain ⟨hx, hb, hml, hown, hts, hr, hlk, hE⟩ := id C0
  obtain ⟨hK, hN, hA, hZ, hT, hTA⟩ := id hE
  have hl : lv_has ls 3 [(0, .ref (ad 0))] := hl
  have hS : va_S (AW 44 ad) s.heap s.heap [] := va_S.rf
  unfold fX8_allTime at hF
  refine lv_iconst (v := 0) hx hb dX8_allTime_0 (by decide) ?_
  refine lv_istore_n (lv' := [(1, .int 0), (0, .ref (ad 0))]) hx hb dX8_allTime_1 rfl hl (by decide) rfl (fun ls hl => ?_)
  refine lv_iconst (v := 0) hx hb dX8_allTime_2 (by decide) ?_
  refine lv_istore_n (lv' := [(2, .int 0), (1, .int 0), (0, .ref (ad 0))]) hx hb dX8_allTime_3 rfl hl (by decide) rfl (fun ls hl => ?_)
  exact lpX8_allTime_4 g ad tk mem r C0 hP fu 0 0 ls hF (lv_sub hl [2, 1, 0] rfl)
theorem pkX8_greatestDivisor : pkS yX8_greatestDivisor cX8_greatestDivisor 6 (some .int) 2 := ⟨mT_X8_greatestDivisor, mN_X8, mC_X8_greatestDivisor, by decide +kernel⟩
def fX8_greatestDivisor_7 (z0 : Int32) (z1 : Int32) : Nat → Int32 → Int32 → Int32 → Option (Int32)
  | 0, _, _, _ => none
  | n + 1, x2, x3, x4 =>
    if 100 ≤ x4 then (some x2) else (if x3 = 0 then (some x2) else (gZ x3 (fX8_greatestDivisor_7 z0 z1 n x3 (x2 - x2 / x3 * x3) (x4 + 1))))
set_option maxHeartbeats 4000000 in
set_option maxRecDepth 100000 in
theorem lpX8_greatestDivisor_7 {p : Program} {l : Launch} {e : Env} {s : State} {m : MethodId} {args : Array Value} {below : List Frame} {meth : Method} {c : Code} (z0 : Int32) (z1 : Int32) (r : Int32) (C0 : cxt (fun _ => True) cX8_greatestDivisor 6 RX8 (some .int) p s m args meth c) :
    ∀ (n : Nat) (x2 : Int32) (x3 : Int32) (x4 : Int32) (ls : Array Slot), fX8_greatestDivisor_7 z0 z1 n x2 x3 x4 = some r → lv_has ls 6 [(0, .int z0), (1, .int z1), (2, .int x2), (3, .int x3), (4, .int x4)] → W p l e { frames := 1, cells := 0, slots := 0, locals := 24 } s m args below meth c s.heap [] 0 0 (MQ below (qR (some (.int r)) (True)) args s 0 0 noA) (F0 m 7 ls []) := by
  obtain ⟨hx, hb, hml, hown, hts, hr, hlk, hE⟩ := id C0
  intro n
  induction n with
  | zero =>
    intro x2 x3 x4 ls hF hl
    cases hF
  | succ n ih =>
    intro x2 x3 x4 ls hF hl
    rw [fX8_greatestDivisor_7] at hF
    refine lv_iload hx hb dX8_greatestDivisor_7 (lv_at hl 4 rfl) ?_
    refine lv_bipush (v := 100) hx hb dX8_greatestDivisor_9 (by decide) ?_
    refine lv_icmp_ge (tgt := 34) hx hb dX8_greatestDivisor_11 (by decide) (fun c1 => ?_) (fun c1 => ?_)
    · replace hF := (if_pos c1).symm.trans hF
      refine lv_iload_n hx hb dX8_greatestDivisor_34 rfl (lv_at hl 2 rfl) ?_
      cases hF
      exact ret_Ri C0 trivial dX8_greatestDivisor_35
    · replace hF := (if_neg c1).symm.trans hF
      refine lv_iload_n hx hb dX8_greatestDivisor_14 rfl (lv_at hl 3 rfl) ?_
      refine lv_if_eq (tgt := 34) hx hb dX8_greatestDivisor_15 (by decide) (fun c2 => ?_) (fun c2 => ?_)
      · replace hF := (if_pos c2).symm.trans hF
        refine lv_iload_n hx hb dX8_greatestDivisor_34 rfl (lv_at hl 2 rfl) ?_
        cases hF
        exact ret_Ri C0 trivial dX8_greatestDivisor_35
      · replace hF := (if_neg c2).symm.trans hF
        refine lv_iload_n hx hb dX8_greatestDivisor_18 rfl (lv_at hl 2 rfl) ?_
        refine lv_iload_n hx hb dX8_greatestDivisor_19 rfl (lv_at hl 3 rfl) ?_
        obtain ⟨z3, hF⟩ := gZ_some hF
        refine lv_irem hx hb dX8_greatestDivisor_20 z3 ?_
        refine lv_istore (lv' := [(5, .int (x2 - x2 / x3 * x3)), (0, .int z0), (1, .int z1), (2, .int x2), (3, .int x3), (4, .int x4)]) hx hb dX8_greatestDivisor_21 hl (by decide) rfl (fun ls hl => ?_)
        refine lv_iload_n hx hb dX8_greatestDivisor_23 rfl (lv_at hl 4 rfl) ?_
        refine lv_istore_n (lv' := [(2, .int x3), (5, .int (x2 - x2 / x3 * x3)), (0, .int z0), (1, .int z1), (3, .int x3), (4, .int x4)]) hx hb dX8_greatestDivisor_24 rfl hl (by decide) rfl (fun ls hl => ?_)
        refine lv_iload hx hb dX8_greatestDivisor_25 (lv_at hl 1 rfl) ?_
        refine lv_istore_n (lv' := [(3, .int (x2 - x2 / x3 * x3)), (2, .int x3), (5, .int (x2 - x2 / x3 * x3)), (0, .int z0), (1, .int z1), (4, .int x4)]) hx hb dX8_greatestDivisor_27 rfl hl (by decide) rfl (fun ls hl => ?_)
        refine lv_iinc (v := x4 + 1) (lv' := [(4, .int (x4 + 1)), (3, .int (x2 - x2 / x3 * x3)), (2, .int x3), (5, .int (x2 - x2 / x3 * x3)), (0, .int z0), (1, .int z1)]) hx hb dX8_greatestDivisor_28 hl (k := 5) rfl rfl (by decide) rfl (fun ls hl => ?_)
        refine lv_goto (tgt := 7) hx hb dX8_greatestDivisor_31 (by decide) ?_
        exact ih x3 (x2 - x2 / x3 * x3) (x4 + 1) ls hF (lv_sub hl [4, 5, 2, 1, 0] rfl)
def fX8_greatestDivisor (a0 : Int32) (a1 : Int32) : Option (Int32) :=
  fX8_greatestDivisor_7 a0 a1 fu a0 a1 0
set_option maxHeartbeats 4000000 in
set_option maxRecDepth 100000 in
theorem kX8_greatestDivisor (l : Launch) (g : gG) (a0 : Int32) (a1 : Int32) (r : Int32) (hF : fX8_greatestDivisor a0 a1 = some r) : Met l yX8_greatestDivisor (Cond.code yX8_greatestDivisor cX8_greatestDivisor 6 (some .int) :: gw) { frames := 1, cells := 0, slots := 0, locals := 24 } (pG [] (fun _ => True) g [.int a0, .int a1]) (qR (some (.int r)) (True)) 0 0 noA := by
  refine met_of (by decide) (Nat.le_of_ble_eq_true rfl) ?_
  intro p e s m args below meth c ls C0 hP hl
  obtain ⟨hx, hb, hml, hown, hts, hr, hlk, hE⟩ := id C0
  have hl : lv_has ls 6 [(0, .int a0), (1, .int a1)] := hl
  unfold fX8_greatestDivisor at hF
  refine lv_iload_n hx hb dX8_greatestDivisor_0 rfl (lv_at hl 0 rfl) ?_
  refine lv_istore_n (lv' := [(2, .int a0), (0, .int a0), (1, .int a1)]) hx hb dX8_greatestDivisor_1 rfl hl (by decide) rfl (fun ls hl => ?_)
  refine lv_iload_n hx hb dX8_greatestDivisor_2 rfl (lv_at hl 2 rfl) ?_
  refine lv_istore_n (lv' := [(3, .int a1), (2, .int a0), (0, .int a0), (1, .int a1)]) hx hb dX8_greatestDivisor_3 rfl hl (by decide) rfl (fun ls hl => ?_)
  refine lv_iconst (v := 0) hx hb dX8_greatestDivisor_4 (by decide) ?_
  refine lv_istore (lv' := [(4, .int 0), (3, .int a1), (2, .int a0), (0, .int a0), (1, .int a1)]) hx hb dX8_greatestDivisor_5 hl (by decide) rfl (fun ls hl => ?_)
  exact lpX8_greatestDivisor_7 a0 a1 r C0 fu a0 a1 0 ls hF (lv_sub hl [3, 4, 2, 1, 0] rfl)
theorem pkX8_uneven : pkV yX8_uneven cX8_uneven 5 (some .int) RX8 1 := ⟨mI_X8_uneven, mS_X8_uneven, mN_X8, mC_X8_uneven, by decide +kernel⟩
def fX8_uneven (mem : Mem) (a1 : Int32) : Option (Int32) :=
  ob1 (fX8_gapsOfPairs mem) (fun r2 => ob1 (fX8_peopledDelegations mem) (fun r4 => ob1 (fX8_allTime mem) (fun r6 => ob1 (fX8_greatestDivisor r2 (r4 * r6)) (fun r8 => if r8 = 0 then (if a1 = 0 then (some 0) else (some 1)) else (if a1 = 0 then (gZ r8 (some (r2 / r8))) else (gZ r8 (some ((r4 * r6) / r8))))))))
set_option maxHeartbeats 4000000 in
set_option maxRecDepth 100000 in
theorem kX8_uneven (l : Launch) (g : gG) (ad : Nat → Nat) (tk : Nat) (mem : Mem) (a1 : Int32) (r : Int32) (hF : fX8_uneven mem a1 = some r) : Met l yX8_uneven (Cond.code yX8_uneven cX8_uneven 5 (some .int) :: gw) { frames := 5, cells := 0, slots := 0, locals := 103 } (pG (wX g ad mem) (eX g ad tk) g [.ref (ad 0), .int a1]) (qR (some (.int r)) (True)) 0 0 noA := by
  refine met_of (by decide) (Nat.le_of_ble_eq_true rfl) ?_
  intro p e s m args below meth c ls C0 hP hl
  obtain ⟨hx, hb, hml, hown, hts, hr, hlk, hE⟩ := id C0
  obtain ⟨hK, hN, hA, hZ, hT, hTA⟩ := id hE
  have hl : lv_has ls 5 [(0, .ref (ad 0)), (1, .int a1)] := hl
  have hS : va_S (AW 44 ad) s.heap s.heap [] := va_S.rf
  unfold fX8_uneven at hF
  refine lv_aload_n hx hb dX8_uneven_0 rfl (lv_at hl 0 rfl) ?_
  obtain ⟨r2, h1, hF⟩ := ob_some hF
  refine cV_Ri C0 eX_st hP hS hK pkX8_gapsOfPairs (As := []) (rest := []) (kX8_gapsOfPairs l g ad tk mem r2 h1) mL_X8_256 ⟨rfl, rfl, Nat.le_of_ble_eq_true rfl, Nat.le_of_ble_eq_true rfl, Nat.le_of_ble_eq_true rfl, Nat.le_of_ble_eq_true rfl⟩ 0 wX_0 rfl rfl rfl hl.1 rfl (Nat.le_of_ble_eq_true rfl) dX8_uneven_1 (fun _ => ?_)
  refine lv_istore_n (lv' := [(2, .int r2), (0, .ref (ad 0)), (1, .int a1)]) hx hb dX8_uneven_4 rfl hl (by decide) rfl (fun ls hl => ?_)
  refine lv_aload_n hx hb dX8_uneven_5 rfl (lv_at hl 1 rfl) ?_
  obtain ⟨r4, h3, hF⟩ := ob_some hF
  refine cV_Ri C0 eX_st hP hS hK pkX8_peopledDelegations (As := []) (rest := []) (kX8_peopledDelegations l g ad tk mem r4 h3) mL_X8_259 ⟨rfl, rfl, Nat.le_of_ble_eq_true rfl, Nat.le_of_ble_eq_true rfl, Nat.le_of_ble_eq_true rfl, Nat.le_of_ble_eq_true rfl⟩ 0 wX_0 rfl rfl rfl hl.1 rfl (Nat.le_of_ble_eq_true rfl) dX8_uneven_6 (fun _ => ?_)
  refine lv_aload_n hx hb dX8_uneven_9 rfl (lv_at hl 1 rfl) ?_
  obtain ⟨r6, h5, hF⟩ := ob_some hF
  refine cV_Ri C0 eX_st hP hS hK pkX8_allTime (As := []) (rest := [.int r4]) (kX8_allTime l g ad tk mem r6 h5) mL_X8_262 ⟨rfl, rfl, Nat.le_of_ble_eq_true rfl, Nat.le_of_ble_eq_true rfl, Nat.le_of_ble_eq_true rfl, Nat.le_of_ble_eq_true rfl⟩ 0 wX_0 rfl rfl rfl hl.1 rfl (Nat.le_of_ble_eq_true rfl) dX8_uneven_10 (fun _ => ?_)
  refine lv_imul hx hb dX8_uneven_13 ?_
  refine lv_istore_n (lv' := [(3, .int (r4 * r6)), (2, .int r2), (0, .ref (ad 0)), (1, .int a1)]) hx hb dX8_uneven_14 rfl hl (by decide) rfl (fun ls hl => ?_)
  refine lv_iload_n hx hb dX8_uneven_15 rfl (lv_at hl 1 rfl) ?_
  refine lv_iload_n hx hb dX8_uneven_16 rfl (lv_at hl 0 rfl) ?_
  obtain ⟨r8, h7, hF⟩ := ob_some hF
  refine cS_Ri C0 pkX8_greatestDivisor (As := [.int r2, .int (r4 * r6)]) (rest := []) (kX8_greatestDivisor l g r2 (r4 * r6) r8 h7) mL_X8_265 ⟨rfl, rfl, Nat.le_of_ble_eq_true rfl, Nat.le_of_ble_eq_true rfl, Nat.le_of_ble_eq_true rfl, Nat.le_of_ble_eq_true rfl⟩ rfl hl.1 rfl (Nat.le_of_ble_eq_true rfl) dX8_uneven_17 (fun _ => ?_)
  refine lv_istore (lv' := [(4, .int r8), (3, .int (r4 * r6)), (2, .int r2), (0, .ref (ad 0)), (1, .int a1)]) hx hb dX8_uneven_20 hl (by decide) rfl (fun ls hl => ?_)
  refine lv_iload hx hb dX8_uneven_22 (lv_at hl 0 rfl) ?_
  refine lv_if_ne (tgt := 37) hx hb dX8_uneven_24 (by decide) (fun c9 => ?_) (fun c9 => ?_)
  · replace hF := (if_neg c9).symm.trans hF
    refine lv_iload_n hx hb dX8_uneven_37 rfl (lv_at hl 4 rfl) ?_
    refine lv_if_eq (tgt := 45) hx hb dX8_uneven_38 (by decide) (fun c10 => ?_) (fun c10 => ?_)
    · replace hF := (if_pos c10).symm.trans hF
      refine lv_iload_n hx hb dX8_uneven_45 rfl (lv_at hl 2 rfl) ?_
      refine lv_iload hx hb dX8_uneven_46 (lv_at hl 0 rfl) ?_
      obtain ⟨z11, hF⟩ := gZ_some hF
      refine lv_idiv hx hb dX8_uneven_48 z11 ?_
      cases hF
      exact ret_Ri C0 trivial dX8_uneven_49
    · replace hF := (if_neg c10).symm.trans hF
      refine lv_iload_n hx hb dX8_uneven_41 rfl (lv_at hl 1 rfl) ?_
      refine lv_goto (tgt := 46) hx hb dX8_uneven_42 (by decide) ?_
      refine lv_iload hx hb dX8_uneven_46 (lv_at hl 0 rfl) ?_
      obtain ⟨z12, hF⟩ := gZ_some hF
      refine lv_idiv hx hb dX8_uneven_48 z12 ?_
      cases hF
      exact ret_Ri C0 trivial dX8_uneven_49
  · replace hF := (if_pos c9).symm.trans hF
    refine lv_iload_n hx hb dX8_uneven_27 rfl (lv_at hl 4 rfl) ?_
    refine lv_if_eq (tgt := 35) hx hb dX8_uneven_28 (by decide) (fun c13 => ?_) (fun c13 => ?_)
    · replace hF := (if_pos c13).symm.trans hF
      refine lv_iconst (v := 0) hx hb dX8_uneven_35 (by decide) ?_
      cases hF
      exact ret_Ri C0 trivial dX8_uneven_36
    · replace hF := (if_neg c13).symm.trans hF
      refine lv_iconst (v := 1) hx hb dX8_uneven_31 (by decide) ?_
      refine lv_goto (tgt := 36) hx hb dX8_uneven_32 (by decide) ?_
      cases hF
      exact ret_Ri C0 trivial dX8_uneven_36
