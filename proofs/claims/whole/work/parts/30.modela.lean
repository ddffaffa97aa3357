theorem pkX9_finding : pkV yX9_finding cX9_finding 2 (some .int) RX9 1 := ⟨mI_X9_finding, mS_X9_finding, mN_X9, mC_X9_finding, by decide +kernel⟩
def fX9_finding (mem : Mem) (a1 : Int32) : Option (Int32 × Mem) :=
  some (a1, up2 mem 0 31 ((mem 0 31) + 1))
set_option maxHeartbeats 4000000 in
set_option maxRecDepth 100000 in
theorem kX9_finding (l : Launch) (g : gG) (ad : Nat → Nat) (mem : Mem) (a1 : Int32) (r : Int32) (mem2 : Mem) (hF : fX9_finding mem a1 = some (r, mem2)) : Met l yX9_finding (Cond.code yX9_finding cX9_finding 2 (some .int) :: gw) { frames := 1, cells := 0, slots := 0, locals := 24 } (pG (wM g ad mem) (eM g ad) g [.ref (ad 0), .int a1]) (qW (wM g ad mem2) g (AW 29 ad) (some (.int r)) (True)) 0 0 (AW 29 ad) := by
  refine met_of (by decide) (Nat.le_of_ble_eq_true rfl) ?_
  intro p e s m args below meth c ls C0 hP hl
  obtain ⟨hx, hb, hml, hown, hts, hr, hlk, hE⟩ := id C0
  obtain ⟨hK, hA⟩ := id hE
  have hl : lv_has ls 2 [(0, .ref (ad 0)), (1, .int a1)] := hl
  have hS : va_S (AW 29 ad) s.heap s.heap [] := va_S.rf
  unfold fX9_finding at hF
  refine lv_aload_n hx hb dX9_finding_0 rfl (lv_at hl 0 rfl) ?_
  refine lv_dup hx hb dX9_finding_1 rfl ?_
  refine get_W C0 hK hP iwX9 0 wM_0 rfl 31 (by decide) mF_X9_99 rfl rfl dX9_finding_2 ?_
  refine lv_iconst (v := 1) hx hb dX9_finding_5 (by decide) ?_
  refine lv_iadd hx hb dX9_finding_6 ?_
  refine put_W (k := 31) C0 hK hP (wM_D hA) hS iwX9 tyX9_ok nmX9 0 wM_0 rfl (by decide) mF_X9_99 rfl rfl rfl rfl (Nat.le_of_ble_eq_true rfl) wM_s0_31 dX9_finding_7 (fun H locs hP hS => ?_)
  refine lv_iload_n hx hb dX9_finding_10 rfl (lv_at hl 1 rfl) ?_
  cases hF
  exact ret_Wi C0 hP hS trivial dX9_finding_11
theorem pkX9_isIn : pkS yX9_isIn cX9_isIn 3 (some .boolean) 3 := ⟨mT_X9_isIn, mN_X9, mC_X9_isIn, by decide +kernel⟩
def fX9_isIn (a0 : Int32) (a1 : Int32) (a2 : Int32) : Option (Int32) :=
  if a0 < a1 then (some 0) else (if a2 < a0 then (some 0) else (some 1))
set_option maxHeartbeats 4000000 in
set_option maxRecDepth 100000 in
theorem kX9_isIn (l : Launch) (g : gG) (a0 : Int32) (a1 : Int32) (a2 : Int32) (r : Int32) (hF : fX9_isIn a0 a1 a2 = some r) : Met l yX9_isIn (Cond.code yX9_isIn cX9_isIn 3 (some .boolean) :: gw) { frames := 1, cells := 0, slots := 0, locals := 24 } (pG [] (fun _ => True) g [.int a0, .int a1, .int a2]) (qR (some (.int r)) (isB r)) 0 0 noA := by
  refine met_of (by decide) (Nat.le_of_ble_eq_true rfl) ?_
  intro p e s m args below meth c ls C0 hP hl
  obtain ⟨hx, hb, hml, hown, hts, hr, hlk, hE⟩ := id C0
  have hl : lv_has ls 3 [(0, .int a0), (1, .int a1), (2, .int a2)] := hl
  unfold fX9_isIn at hF
  refine lv_iload_n hx hb dX9_isIn_0 rfl (lv_at hl 0 rfl) ?_
  refine lv_iload_n hx hb dX9_isIn_1 rfl (lv_at hl 1 rfl) ?_
  refine lv_icmp_lt (tgt := 14) hx hb dX9_isIn_2 (by decide) (fun c1 => ?_) (fun c1 => ?_)
  · replace hF := (if_pos c1).symm.trans hF
    refine lv_iconst (v := 0) hx hb dX9_isIn_14 (by decide) ?_
    cases hF
    exact ret_Rz C0 (Or.inl rfl) (Or.inl rfl) dX9_isIn_15
  · replace hF := (if_neg c1).symm.trans hF
    refine lv_iload_n hx hb dX9_isIn_5 rfl (lv_at hl 0 rfl) ?_
    refine lv_iload_n hx hb dX9_isIn_6 rfl (lv_at hl 2 rfl) ?_
    refine lv_icmp_gt (tgt := 14) hx hb dX9_isIn_7 (by decide) (fun c2 => ?_) (fun c2 => ?_)
    · replace hF := (if_pos c2).symm.trans hF
      refine lv_iconst (v := 0) hx hb dX9_isIn_14 (by decide) ?_
      cases hF
      exact ret_Rz C0 (Or.inl rfl) (Or.inl rfl) dX9_isIn_15
    · replace hF := (if_neg c2).symm.trans hF
      refine lv_iconst (v := 1) hx hb dX9_isIn_10 (by decide) ?_
      refine lv_goto (tgt := 15) hx hb dX9_isIn_11 (by decide) ?_
      cases hF
      exact ret_Rz C0 (Or.inr rfl) (Or.inr rfl) dX9_isIn_15
theorem pkX9_isMember : pkV yX9_isMember cX9_isMember 2 (some .boolean) RX9 1 := ⟨mI_X9_isMember, mS_X9_isMember, mN_X9, mC_X9_isMember, by decide +kernel⟩
def fX9_isMember (mem : Mem) (a1 : Int32) : Option (Int32) :=
  if a1 < 0 then (some 0) else (if mem 0 0 ≤ a1 then (some 0) else (some 1))
set_option maxHeartbeats 4000000 in
set_option maxRecDepth 100000 in
theorem kX9_isMember (l : Launch) (g : gG) (ad : Nat → Nat) (mem : Mem) (a1 : Int32) (r : Int32) (hF : fX9_isMember mem a1 = some r) : Met l yX9_isMember (Cond.code yX9_isMember cX9_isMember 2 (some .boolean) :: gw) { frames := 1, cells := 0, slots := 0, locals := 24 } (pG (wM g ad mem) (eM g ad) g [.ref (ad 0), .int a1]) (qR (some (.int r)) (isB r)) 0 0 noA := by
  refine met_of (by decide) (Nat.le_of_ble_eq_true rfl) ?_
  intro p e s m args below meth c ls C0 hP hl
  obtain ⟨hx, hb, hml, hown, hts, hr, hlk, hE⟩ := id C0
  obtain ⟨hK, hA⟩ := id hE
  have hl : lv_has ls 2 [(0, .ref (ad 0)), (1, .int a1)] := hl
  have hS : va_S (AW 29 ad) s.heap s.heap [] := va_S.rf
  unfold fX9_isMember at hF
  refine lv_iload_n hx hb dX9_isMember_0 rfl (lv_at hl 1 rfl) ?_
  refine lv_if_lt (tgt := 16) hx hb dX9_isMember_1 (by decide) (fun c1 => ?_) (fun c1 => ?_)
  · replace hF := (if_pos c1).symm.trans hF
    refine lv_iconst (v := 0) hx hb dX9_isMember_16 (by decide) ?_
    cases hF
    exact ret_Rz C0 (Or.inl rfl) (Or.inl rfl) dX9_isMember_17
  · replace hF := (if_neg c1).symm.trans hF
    refine lv_iload_n hx hb dX9_isMember_4 rfl (lv_at hl 1 rfl) ?_
    refine lv_aload_n hx hb dX9_isMember_5 rfl (lv_at hl 0 rfl) ?_
    refine get_W C0 hK hP iwX9 0 wM_0 rfl 0 (by decide) mF_X9_102 rfl rfl dX9_isMember_6 ?_
    refine lv_icmp_ge (tgt := 16) hx hb dX9_isMember_9 (by decide) (fun c2 => ?_) (fun c2 => ?_)
    · replace hF := (if_pos c2).symm.trans hF
      refine lv_iconst (v := 0) hx hb dX9_isMember_16 (by decide) ?_
      cases hF
      exact ret_Rz C0 (Or.inl rfl) (Or.inl rfl) dX9_isMember_17
    · replace hF := (if_neg c2).symm.trans hF
      refine lv_iconst (v := 1) hx hb dX9_isMember_12 (by decide) ?_
      refine lv_goto (tgt := 17) hx hb dX9_isMember_13 (by decide) ?_
      cases hF
      exact ret_Rz C0 (Or.inr rfl) (Or.inr rfl) dX9_isMember_17
theorem pkX9_isSort : pkS yX9_isSort cX9_isSort 1 (some .boolean) 1 := ⟨mT_X9_isSort, mN_X9, mC_X9_isSort, by decide +kernel⟩
def fX9_isSort (a0 : Int32) : Option (Int32) :=
  ob1 (fX9_isIn a0 0 2) (fun r2 => some r2)
set_option maxHeartbeats 4000000 in
set_option maxRecDepth 100000 in
theorem kX9_isSort (l : Launch) (g : gG) (a0 : Int32) (r : Int32) (hF : fX9_isSort a0 = some r) : Met l yX9_isSort (Cond.code yX9_isSort cX9_isSort 1 (some .boolean) :: gw) { frames := 2, cells := 0, slots := 0, locals := 46 } (pG [] (fun _ => True) g [.int a0]) (qR (some (.int r)) (isB r)) 0 0 noA := by
  refine met_of (by decide) (Nat.le_of_ble_eq_true rfl) ?_
  intro p e s m args below meth c ls C0 hP hl
  obtain ⟨hx, hb, hml, hown, hts, hr, hlk, hE⟩ := id C0
  have hl : lv_has ls 1 [(0, .int a0)] := hl
  unfold fX9_isSort at hF
  refine lv_iload_n hx hb dX9_isSort_0 rfl (lv_at hl 0 rfl) ?_
  refine lv_iconst (v := 0) hx hb dX9_isSort_1 (by decide) ?_
  refine lv_iconst (v := 2) hx hb dX9_isSort_2 (by decide) ?_
  obtain ⟨r2, h1, hF⟩ := ob_some hF
  refine cS_Ri C0 pkX9_isIn (As := [.int a0, .int 0, .int 2]) (rest := []) (kX9_isIn l g a0 0 2 r2 h1) mL_X9_105 ⟨rfl, rfl, Nat.le_of_ble_eq_true rfl, Nat.le_of_ble_eq_true rfl, Nat.le_of_ble_eq_true rfl, Nat.le_of_ble_eq_true rfl⟩ rfl hl.1 rfl (Nat.le_of_ble_eq_true rfl) dX9_isSort_3 (fun b3 => ?_)
  cases hF
  exact ret_Rz C0 b3 b3 dX9_isSort_6
theorem pkX9_isGuest : pkV yX9_isGuest cX9_isGuest 2 (some .boolean) RX9 1 := ⟨mI_X9_isGuest, mS_X9_isGuest, mN_X9, mC_X9_isGuest, by decide +kernel⟩
def fX9_isGuest (mem : Mem) (a1 : Int32) : Option (Int32) :=
  gI a1 10 (if mem 1 a1.toNatClampNeg = 1 then (some 1) else (gI a1 10 (if mem 1 a1.toNatClampNeg = 3 then (some 1) else (some 0))))
set_option maxHeartbeats 4000000 in
set_option maxRecDepth 100000 in
theorem kX9_isGuest (l : Launch) (g : gG) (ad : Nat → Nat) (mem : Mem) (a1 : Int32) (r : Int32) (hF : fX9_isGuest mem a1 = some r) : Met l yX9_isGuest (Cond.code yX9_isGuest cX9_isGuest 2 (some .boolean) :: gw) { frames := 1, cells := 0, slots := 0, locals := 24 } (pG (wM g ad mem) (eM g ad) g [.ref (ad 0), .int a1]) (qR (some (.int r)) (isB r)) 0 0 noA := by
  refine met_of (by decide) (Nat.le_of_ble_eq_true rfl) ?_
  intro p e s m args below meth c ls C0 hP hl
  obtain ⟨hx, hb, hml, hown, hts, hr, hlk, hE⟩ := id C0
  obtain ⟨hK, hA⟩ := id hE
  have hl : lv_has ls 2 [(0, .ref (ad 0)), (1, .int a1)] := hl
  have hS : va_S (AW 29 ad) s.heap s.heap [] := va_S.rf
  unfold fX9_isGuest at hF
  refine lv_aload_n hx hb dX9_isGuest_0 rfl (lv_at hl 0 rfl) ?_
  refine get_W C0 hK hP iwX9 0 wM_0 rfl 1 (by decide) mF_X9_7 rfl rfl dX9_isGuest_1 ?_
  refine lv_iload_n hx hb dX9_isGuest_4 rfl (lv_at hl 1 rfl) ?_
  obtain ⟨g1, hF⟩ := gI_some hF
  refine va_iald hx hb hK hP 1 0 wM_1 rfl g1 dX9_isGuest_5 ?_
  refine lv_iconst (v := 1) hx hb dX9_isGuest_6 (by decide) ?_
  refine lv_icmp_eq (tgt := 20) hx hb dX9_isGuest_7 (by decide) (fun c2 => ?_) (fun c2 => ?_)
  · replace hF := (if_pos c2).symm.trans hF
    refine lv_iconst (v := 1) hx hb dX9_isGuest_20 (by decide) ?_
    refine lv_goto (tgt := 25) hx hb dX9_isGuest_21 (by decide) ?_
    cases hF
    exact ret_Rz C0 (Or.inr rfl) (Or.inr rfl) dX9_isGuest_25
  · replace hF := (if_neg c2).symm.trans hF
    refine lv_aload_n hx hb dX9_isGuest_10 rfl (lv_at hl 0 rfl) ?_
    refine get_W C0 hK hP iwX9 0 wM_0 rfl 1 (by decide) mF_X9_7 rfl rfl dX9_isGuest_11 ?_
    refine lv_iload_n hx hb dX9_isGuest_14 rfl (lv_at hl 1 rfl) ?_
    obtain ⟨g3, hF⟩ := gI_some hF
    refine va_iald hx hb hK hP 1 0 wM_1 rfl g3 dX9_isGuest_15 ?_
    refine lv_iconst (v := 3) hx hb dX9_isGuest_16 (by decide) ?_
    refine lv_icmp_ne (tgt := 24) hx hb dX9_isGuest_17 (by decide) (fun c4 => ?_) (fun c4 => ?_)
    · replace hF := (if_neg c4).symm.trans hF
      refine lv_iconst (v := 0) hx hb dX9_isGuest_24 (by decide) ?_
      cases hF
      exact ret_Rz C0 (Or.inl rfl) (Or.inl rfl) dX9_isGuest_25
    · replace hF := (if_pos c4).symm.trans hF
      refine lv_iconst (v := 1) hx hb dX9_isGuest_20 (by decide) ?_
      refine lv_goto (tgt := 25) hx hb dX9_isGuest_21 (by decide) ?_
      cases hF
      exact ret_Rz C0 (Or.inr rfl) (Or.inr rfl) dX9_isGuest_25
theorem pkX9_member : pkV yX9_member cX9_member 3 (some .int) RX9 2 := ⟨mI_X9_member, mS_X9_member, mN_X9, mC_X9_member, by decide +kernel⟩
def fX9_member (mem : Mem) (a1 : Int32) (a2 : Int32) : Option (Int32 × Mem) :=
  ob1 (fX9_isIn a1 0 3) (fun r2 => if r2 = 0 then (ob2 (fX9_finding mem (-100001)) (fun r7 m6 => some (r7, m6))) else (ob1 (fX9_isIn a2 0 4) (fun r9 => if r9 = 0 then (ob2 (fX9_finding mem (-100001)) (fun r21 m20 => some (r21, m20))) else (if mem 0 0 = 10 then (ob2 (fX9_finding mem (-100005)) (fun r18 m17 => some (r18, m17))) else (gI (mem 0 0) 10 (gI ((up2 mem 1 (mem 0 0).toNatClampNeg a1) 0 0) 10 (gI ((up2 (up2 mem 1 (mem 0 0).toNatClampNeg a1) 2 ((up2 mem 1 (mem 0 0).toNatClampNeg a1) 0 0).toNatClampNeg a2) 0 0) 10 (some (((up2 (up2 (up2 (up2 mem 1 (mem 0 0).toNatClampNeg a1) 2 ((up2 mem 1 (mem 0 0).toNatClampNeg a1) 0 0).toNatClampNeg a2) 3 ((up2 (up2 mem 1 (mem 0 0).toNatClampNeg a1) 2 ((up2 mem 1 (mem 0 0).toNatClampNeg a1) 0 0).toNatClampNeg a2) 0 0).toNatClampNeg (vp_nar .boolean 1)) 0 0 (((up2 (up2 (up2 mem 1 (mem 0 0).toNatClampNeg a1) 2 ((up2 mem 1 (mem 0 0).toNatClampNeg a1) 0 0).toNatClampNeg a2) 3 ((up2 (up2 mem 1 (mem 0 0).toNatClampNeg a1) 2 ((up2 mem 1 (mem 0 0).toNatClampNeg a1) 0 0).toNatClampNeg a2) 0 0).toNatClampNeg (vp_nar .boolean 1)) 0 0) + 1)) 0 0) - 1, up2 (up2 (up2 (up2 mem 1 (mem 0 0).toNatClampNeg a1) 2 ((up2 mem 1 (mem 0 0).toNatClampNeg a1) 0 0).toNatClampNeg a2) 3 ((up2 (up2 mem 1 (mem 0 0).toNatClampNeg a1) 2 ((up2 mem 1 (mem 0 0).toNatClampNeg a1) 0 0).toNatClampNeg a2) 0 0).toNatClampNeg (vp_nar .boolean 1)) 0 0 (((up2 (up2 (up2 mem 1 (mem 0 0).toNatClampNeg a1) 2 ((up2 mem 1 (mem 0 0).toNatClampNeg a1) 0 0).toNatClampNeg a2) 3 ((up2 (up2 mem 1 (mem 0 0).toNatClampNeg a1) 2 ((up2 mem 1 (mem 0 0).toNatClampNeg a1) 0 0).toNatClampNeg a2) 0 0).toNatClampNeg (vp_nar .boolean 1)) 0 0) + 1))))))))))
set_option maxHeartbeats 4000000 in
set_option maxRecDepth 100000 in
theorem kX9_member (l : Launch) (g : gG) (ad : Nat → Nat) (mem : Mem) (a1 : Int32) (a2 : Int32) (r : Int32) (mem2 : Mem) (hF : fX9_member mem a1 a2 = some (r, mem2)) : Met l yX9_member (Cond.code yX9_member cX9_member 3 (some .int) :: gw) { frames := 2, cells := 0, slots := 0, locals := 46 } (pG (wM g ad mem) (eM g ad) g [.ref (ad 0), .int a1, .int a2]) (qW (wM g ad mem2) g (AW 29 ad) (some (.int r)) (True)) 0 0 (AW 29 ad) := by
  refine met_of (by decide) (Nat.le_of_ble_eq_true rfl) ?_
  intro p e s m args below meth c ls C0 hP hl
  obtain ⟨hx, hb, hml, hown, hts, hr, hlk, hE⟩ := id C0
  obtain ⟨hK, hA⟩ := id hE
  have hl : lv_has ls 3 [(0, .ref (ad 0)), (1, .int a1), (2, .int a2)] := hl
  have hS : va_S (AW 29 ad) s.heap s.heap [] := va_S.rf
  unfold fX9_member at hF
  refine lv_iload_n hx hb dX9_member_0 rfl (lv_at hl 1 rfl) ?_
  refine lv_iconst (v := 0) hx hb dX9_member_1 (by decide) ?_
  refine lv_iconst (v := 3) hx hb dX9_member_2 (by decide) ?_
  obtain ⟨r2, h1, hF⟩ := ob_some hF
  refine cS_Ri C0 pkX9_isIn (As := [.int a1, .int 0, .int 3]) (rest := []) (kX9_isIn l g a1 0 3 r2 h1) mL_X9_105 ⟨rfl, rfl, Nat.le_of_ble_eq_true rfl, Nat.le_of_ble_eq_true rfl, Nat.le_of_ble_eq_true rfl, Nat.le_of_ble_eq_true rfl⟩ rfl hl.1 rfl (Nat.le_of_ble_eq_true rfl) dX9_member_3 (fun b3 => ?_)
  refine lv_if_eq (tgt := 18) hx hb dX9_member_6 (by decide) (fun c4 => ?_) (fun c4 => ?_)
  · replace hF := (if_pos c4).symm.trans hF
    refine lv_aload_n hx hb dX9_member_18 rfl (lv_at hl 0 rfl) ?_
    refine lv_ldc hx hb hown (hts _ mK_X9_109) dX9_member_19 ?_
    obtain ⟨r7, m6, h5, hF⟩ := ob2_some hF
    refine cV_Wi C0 eM_st hP hS hK pkX9_finding (As := [.int (-100001)]) (rest := []) (kX9_finding l g ad mem (-100001) r7 m6 h5) mL_X9_110 ⟨rfl, rfl, Nat.le_of_ble_eq_true rfl, Nat.le_of_ble_eq_true rfl, Nat.le_of_ble_eq_true rfl, Nat.le_of_ble_eq_true rfl⟩ 0 wM_0 rfl rfl rfl hl.1 rfl (Nat.le_of_ble_eq_true rfl) dX9_member_21 (fun H locs _ hP hS => ?_)
    cases hF
    exact ret_Wi C0 hP hS trivial dX9_member_24
  · replace hF := (if_neg c4).symm.trans hF
    refine lv_iload_n hx hb dX9_member_9 rfl (lv_at hl 2 rfl) ?_
    refine lv_iconst (v := 0) hx hb dX9_member_10 (by decide) ?_
    refine lv_iconst (v := 4) hx hb dX9_member_11 (by decide) ?_
    obtain ⟨r9, h8, hF⟩ := ob_some hF
    refine cS_Ri C0 pkX9_isIn (As := [.int a2, .int 0, .int 4]) (rest := []) (kX9_isIn l g a2 0 4 r9 h8) mL_X9_105 ⟨rfl, rfl, Nat.le_of_ble_eq_true rfl, Nat.le_of_ble_eq_true rfl, Nat.le_of_ble_eq_true rfl, Nat.le_of_ble_eq_true rfl⟩ rfl hl.1 rfl (Nat.le_of_ble_eq_true rfl) dX9_member_12 (fun b10 => ?_)
    refine lv_if_ne (tgt := 25) hx hb dX9_member_15 (by decide) (fun c11 => ?_) (fun c11 => ?_)
    · replace hF := (if_neg c11).symm.trans hF
      refine lv_aload_n hx hb dX9_member_25 rfl (lv_at hl 0 rfl) ?_
      refine get_W C0 hK hP iwX9 0 wM_0 rfl 0 (by decide) mF_X9_102 rfl rfl dX9_member_26 ?_
      refine lv_bipush (v := 10) hx hb dX9_member_29 (by decide) ?_
      refine lv_icmp_ne (tgt := 41) hx hb dX9_member_31 (by decide) (fun c12 => ?_) (fun c12 => ?_)
      · replace hF := (if_neg c12).symm.trans hF
        refine lv_aload_n hx hb dX9_member_41 rfl (lv_at hl 0 rfl) ?_
        refine get_W C0 hK hP iwX9 0 wM_0 rfl 1 (by decide) mF_X9_7 rfl rfl dX9_member_42 ?_
        refine lv_aload_n hx hb dX9_member_45 rfl (lv_at hl 0 rfl) ?_
        refine get_W C0 hK hP iwX9 0 wM_0 rfl 0 (by decide) mF_X9_102 rfl rfl dX9_member_46 ?_
        refine lv_iload_n hx hb dX9_member_49 rfl (lv_at hl 1 rfl) ?_
        obtain ⟨g13, hF⟩ := gI_some hF
        refine iast_W C0 hK hP (wM_D hA) hS 1 wM_1 g13 wM_s1 dX9_member_50 (fun H locs hP hS => ?_)
        refine lv_aload_n hx hb dX9_member_51 rfl (lv_at hl 0 rfl) ?_
        refine get_W C0 hK hP iwX9 0 wM_0 rfl 2 (by decide) mF_X9_13 rfl rfl dX9_member_52 ?_
        refine lv_aload_n hx hb dX9_member_55 rfl (lv_at hl 0 rfl) ?_
        refine get_W C0 hK hP iwX9 0 wM_0 rfl 0 (by decide) mF_X9_102 rfl rfl dX9_member_56 ?_
        refine lv_iload_n hx hb dX9_member_59 rfl (lv_at hl 2 rfl) ?_
        obtain ⟨g14, hF⟩ := gI_some hF
        refine iast_W C0 hK hP (wM_D hA) hS 2 wM_2 g14 wM_s2 dX9_member_60 (fun H locs hP hS => ?_)
        refine lv_aload_n hx hb dX9_member_61 rfl (lv_at hl 0 rfl) ?_
        refine get_W C0 hK hP iwX9 0 wM_0 rfl 3 (by decide) mF_X9_16 rfl rfl dX9_member_62 ?_
        refine lv_aload_n hx hb dX9_member_65 rfl (lv_at hl 0 rfl) ?_
        refine get_W C0 hK hP iwX9 0 wM_0 rfl 0 (by decide) mF_X9_102 rfl rfl dX9_member_66 ?_
        refine lv_iconst (v := 1) hx hb dX9_member_69 (by decide) ?_
        obtain ⟨g15, hF⟩ := gI_some hF
        refine zast_W C0 hK hP (wM_D hA) hS 3 wM_3 g15 wM_s3 dX9_member_70 (fun H locs hP hS => ?_)
        refine lv_aload_n hx hb dX9_member_71 rfl (lv_at hl 0 rfl) ?_
        refine lv_dup hx hb dX9_member_72 rfl ?_
        refine get_W C0 hK hP iwX9 0 wM_0 rfl 0 (by decide) mF_X9_102 rfl rfl dX9_member_73 ?_
        refine lv_iconst (v := 1) hx hb dX9_member_76 (by decide) ?_
        refine lv_iadd hx hb dX9_member_77 ?_
        refine put_W (k := 0) C0 hK hP (wM_D hA) hS iwX9 tyX9_ok nmX9 0 wM_0 rfl (by decide) mF_X9_102 rfl rfl rfl rfl (Nat.le_of_ble_eq_true rfl) wM_s0_0 dX9_member_78 (fun H locs hP hS => ?_)
        refine lv_aload_n hx hb dX9_member_81 rfl (lv_at hl 0 rfl) ?_
        refine get_W C0 hK hP iwX9 0 wM_0 rfl 0 (by decide) mF_X9_102 rfl rfl dX9_member_82 ?_
        refine lv_iconst (v := 1) hx hb dX9_member_85 (by decide) ?_
        refine lv_isub hx hb dX9_member_86 ?_
        cases hF
        exact ret_Wi C0 hP hS trivial dX9_member_87
      · replace hF := (if_pos c12).symm.trans hF
        refine lv_aload_n hx hb dX9_member_34 rfl (lv_at hl 0 rfl) ?_
        refine lv_ldc hx hb hown (hts _ mK_X9_114) dX9_member_35 ?_
        obtain ⟨r18, m17, h16, hF⟩ := ob2_some hF
        refine cV_Wi C0 eM_st hP hS hK pkX9_finding (As := [.int (-100005)]) (rest := []) (kX9_finding l g ad mem (-100005) r18 m17 h16) mL_X9_110 ⟨rfl, rfl, Nat.le_of_ble_eq_true rfl, Nat.le_of_ble_eq_true rfl, Nat.le_of_ble_eq_true rfl, Nat.le_of_ble_eq_true rfl⟩ 0 wM_0 rfl rfl rfl hl.1 rfl (Nat.le_of_ble_eq_true rfl) dX9_member_37 (fun H locs _ hP hS => ?_)
        cases hF
        exact ret_Wi C0 hP hS trivial dX9_member_40
    · replace hF := (if_pos c11).symm.trans hF
      refine lv_aload_n hx hb dX9_member_18 rfl (lv_at hl 0 rfl) ?_
      refine lv_ldc hx hb hown (hts _ mK_X9_109) dX9_member_19 ?_
      obtain ⟨r21, m20, h19, hF⟩ := ob2_some hF
      refine cV_Wi C0 eM_st hP hS hK pkX9_finding (As := [.int (-100001)]) (rest := []) (kX9_finding l g ad mem (-100001) r21 m20 h19) mL_X9_110 ⟨rfl, rfl, Nat.le_of_ble_eq_true rfl, Nat.le_of_ble_eq_true rfl, Nat.le_of_ble_eq_true rfl, Nat.le_of_ble_eq_true rfl⟩ 0 wM_0 rfl rfl rfl hl.1 rfl (Nat.le_of_ble_eq_true rfl) dX9_member_21 (fun H locs _ hP hS => ?_)
      cases hF
      exact ret_Wi C0 hP hS trivial dX9_member_24
theorem pkX9_as : pkV yX9_as cX9_as 3 (some .int) RX9 2 := ⟨mI_X9_as, mS_X9_as, mN_X9, mC_X9_as, by decide +kernel⟩
def fX9_as (mem : Mem) (a1 : Int32) (a2 : Int32) : Option (Int32 × Mem) :=
  ob1 (fX9_isMember mem a1) (fun r2 => if r2 = 0 then (ob2 (fX9_finding mem (-100001)) (fun r7 m6 => some (r7, m6))) else (ob1 (fX9_isIn a2 0 3) (fun r9 => if r9 = 0 then (ob2 (fX9_finding mem (-100001)) (fun r28 m27 => some (r28, m27))) else (if a2 = 0 then (some (a1, mem)) else (gI a1 10 (if a2 = mem 1 a1.toNatClampNeg then (some (a1, mem)) else (if a2 = 1 then (ob1 (fX9_isGuest mem a1) (fun r20 => if r20 = 0 then (ob2 (fX9_finding mem (-100004)) (fun r25 m24 => some (r25, m24))) else (some (a1, mem)))) else (ob2 (fX9_finding mem (-100004)) (fun r18 m17 => some (r18, m17))))))))))
set_option maxHeartbeats 4000000 in
set_option maxRecDepth 100000 in
theorem kX9_as (l : Launch) (g : gG) (ad : Nat → Nat) (mem : Mem) (a1 : Int32) (a2 : Int32) (r : Int32) (mem2 : Mem) (hF : fX9_as mem a1 a2 = some (r, mem2)) : Met l yX9_as (Cond.code yX9_as cX9_as 3 (some .int) :: gw) { frames := 2, cells := 0, slots := 0, locals := 46 } (pG (wM g ad mem) (eM g ad) g [.ref (ad 0), .int a1, .int a2]) (qW (wM g ad mem2) g (AW 29 ad) (some (.int r)) (True)) 0 0 (AW 29 ad) := by
  refine met_of (by decide) (Nat.le_of_ble_eq_true rfl) ?_
  intro p e s m args below meth c ls C0 hP hl
  obtain ⟨hx, hb, hml, hown, hts, hr, hlk, hE⟩ := id C0
  obtain ⟨hK, hA⟩ := id hE
  have hl : lv_has ls 3 [(0, .ref (ad 0)), (1, .int a1), (2, .int a2)] := hl
  have hS : va_S (AW 29 ad) s.heap s.heap [] := va_S.rf
  unfold fX9_as at hF
  refine lv_aload_n hx hb dX9_as_0 rfl (lv_at hl 0 rfl) ?_
  refine lv_iload_n hx hb dX9_as_1 rfl (lv_at hl 1 rfl) ?_
  obtain ⟨r2, h1, hF⟩ := ob_some hF
  refine cV_Ri C0 eM_st hP hS hK pkX9_isMember (As := [.int a1]) (rest := []) (kX9_isMember l g ad mem a1 r2 h1) mL_X9_115 ⟨rfl, rfl, Nat.le_of_ble_eq_true rfl, Nat.le_of_ble_eq_true rfl, Nat.le_of_ble_eq_true rfl, Nat.le_of_ble_eq_true rfl⟩ 0 wM_0 rfl rfl rfl hl.1 rfl (Nat.le_of_ble_eq_true rfl) dX9_as_2 (fun b3 => ?_)
  refine lv_if_eq (tgt := 17) hx hb dX9_as_5 (by decide) (fun c4 => ?_) (fun c4 => ?_)
  · replace hF := (if_pos c4).symm.trans hF
    refine lv_aload_n hx hb dX9_as_17 rfl (lv_at hl 0 rfl) ?_
    refine lv_ldc hx hb hown (hts _ mK_X9_109) dX9_as_18 ?_
    obtain ⟨r7, m6, h5, hF⟩ := ob2_some hF
    refine cV_Wi C0 eM_st hP hS hK pkX9_finding (As := [.int (-100001)]) (rest := []) (kX9_finding l g ad mem (-100001) r7 m6 h5) mL_X9_110 ⟨rfl, rfl, Nat.le_of_ble_eq_true rfl, Nat.le_of_ble_eq_true rfl, Nat.le_of_ble_eq_true rfl, Nat.le_of_ble_eq_true rfl⟩ 0 wM_0 rfl rfl rfl hl.1 rfl (Nat.le_of_ble_eq_true rfl) dX9_as_20 (fun H locs _ hP hS => ?_)
    cases hF
    exact ret_Wi C0 hP hS trivial dX9_as_23
  · replace hF := (if_neg c4).symm.trans hF
    refine lv_iload_n hx hb dX9_as_8 rfl (lv_at hl 2 rfl) ?_
    refine lv_iconst (v := 0) hx hb dX9_as_9 (by decide) ?_
    refine lv_iconst (v := 3) hx hb dX9_as_10 (by decide) ?_
    obtain ⟨r9, h8, hF⟩ := ob_some hF
    refine cS_Ri C0 pkX9_isIn (As := [.int a2, .int 0, .int 3]) (rest := []) (kX9_isIn l g a2 0 3 r9 h8) mL_X9_105 ⟨rfl, rfl, Nat.le_of_ble_eq_true rfl, Nat.le_of_ble_eq_true rfl, Nat.le_of_ble_eq_true rfl, Nat.le_of_ble_eq_true rfl⟩ rfl hl.1 rfl (Nat.le_of_ble_eq_true rfl) dX9_as_11 (fun b10 => ?_)
    refine lv_if_ne (tgt := 24) hx hb dX9_as_14 (by decide) (fun c11 => ?_) (fun c11 => ?_)
    · replace hF := (if_neg c11).symm.trans hF
      refine lv_iload_n hx hb dX9_as_24 rfl (lv_at hl 2 rfl) ?_
      refine lv_if_eq (tgt := 51) hx hb dX9_as_25 (by decide) (fun c12 => ?_) (fun c12 => ?_)
      · replace hF := (if_pos c12).symm.trans hF
        refine lv_iload_n hx hb dX9_as_51 rfl (lv_at hl 1 rfl) ?_
        refine lv_goto (tgt := 61) hx hb dX9_as_52 (by decide) ?_
        cases hF
        exact ret_Wi C0 hP hS trivial dX9_as_61
      · replace hF := (if_neg c12).symm.trans hF
        refine lv_iload_n hx hb dX9_as_28 rfl (lv_at hl 2 rfl) ?_
        refine lv_aload_n hx hb dX9_as_29 rfl (lv_at hl 0 rfl) ?_
        refine get_W C0 hK hP iwX9 0 wM_0 rfl 1 (by decide) mF_X9_7 rfl rfl dX9_as_30 ?_
        refine lv_iload_n hx hb dX9_as_33 rfl (lv_at hl 1 rfl) ?_
        obtain ⟨g13, hF⟩ := gI_some hF
        refine va_iald hx hb hK hP 1 0 wM_1 rfl g13 dX9_as_34 ?_
        refine lv_icmp_eq (tgt := 51) hx hb dX9_as_35 (by decide) (fun c14 => ?_) (fun c14 => ?_)
        · replace hF := (if_pos c14).symm.trans hF
          refine lv_iload_n hx hb dX9_as_51 rfl (lv_at hl 1 rfl) ?_
          refine lv_goto (tgt := 61) hx hb dX9_as_52 (by decide) ?_
          cases hF
          exact ret_Wi C0 hP hS trivial dX9_as_61
        · replace hF := (if_neg c14).symm.trans hF
          refine lv_iload_n hx hb dX9_as_38 rfl (lv_at hl 2 rfl) ?_
          refine lv_iconst (v := 1) hx hb dX9_as_39 (by decide) ?_
          refine lv_icmp_ne (tgt := 55) hx hb dX9_as_40 (by decide) (fun c15 => ?_) (fun c15 => ?_)
          · replace hF := (if_neg c15).symm.trans hF
            refine lv_aload_n hx hb dX9_as_55 rfl (lv_at hl 0 rfl) ?_
            refine lv_ldc hx hb hown (hts _ mK_X9_122) dX9_as_56 ?_
            obtain ⟨r18, m17, h16, hF⟩ := ob2_some hF
            refine cV_Wi C0 eM_st hP hS hK pkX9_finding (As := [.int (-100004)]) (rest := []) (kX9_finding l g ad mem (-100004) r18 m17 h16) mL_X9_110 ⟨rfl, rfl, Nat.le_of_ble_eq_true rfl, Nat.le_of_ble_eq_true rfl, Nat.le_of_ble_eq_true rfl, Nat.le_of_ble_eq_true rfl⟩ 0 wM_0 rfl rfl rfl hl.1 rfl (Nat.le_of_ble_eq_true rfl) dX9_as_58 (fun H locs _ hP hS => ?_)
            cases hF
            exact ret_Wi C0 hP hS trivial dX9_as_61
          · replace hF := (if_pos c15).symm.trans hF
            refine lv_aload_n hx hb dX9_as_43 rfl (lv_at hl 0 rfl) ?_
            refine lv_iload_n hx hb dX9_as_44 rfl (lv_at hl 1 rfl) ?_
            obtain ⟨r20, h19, hF⟩ := ob_some hF
            refine cV_Ri C0 eM_st hP hS hK pkX9_isGuest (As := [.int a1]) (rest := []) (kX9_isGuest l g ad mem a1 r20 h19) mL_X9_119 ⟨rfl, rfl, Nat.le_of_ble_eq_true rfl, Nat.le_of_ble_eq_true rfl, Nat.le_of_ble_eq_true rfl, Nat.le_of_ble_eq_true rfl⟩ 0 wM_0 rfl rfl rfl hl.1 rfl (Nat.le_of_ble_eq_true rfl) dX9_as_45 (fun b21 => ?_)
            refine lv_if_eq (tgt := 55) hx hb dX9_as_48 (by decide) (fun c22 => ?_) (fun c22 => ?_)
            · replace hF := (if_pos c22).symm.trans hF
              refine lv_aload_n hx hb dX9_as_55 rfl (lv_at hl 0 rfl) ?_
              refine lv_ldc hx hb hown (hts _ mK_X9_122) dX9_as_56 ?_
              obtain ⟨r25, m24, h23, hF⟩ := ob2_some hF
              refine cV_Wi C0 eM_st hP hS hK pkX9_finding (As := [.int (-100004)]) (rest := []) (kX9_finding l g ad mem (-100004) r25 m24 h23) mL_X9_110 ⟨rfl, rfl, Nat.le_of_ble_eq_true rfl, Nat.le_of_ble_eq_true rfl, Nat.le_of_ble_eq_true rfl, Nat.le_of_ble_eq_true rfl⟩ 0 wM_0 rfl rfl rfl hl.1 rfl (Nat.le_of_ble_eq_true rfl) dX9_as_58 (fun H locs _ hP hS => ?_)
              cases hF
              exact ret_Wi C0 hP hS trivial dX9_as_61
            · replace hF := (if_neg c22).symm.trans hF
              refine lv_iload_n hx hb dX9_as_51 rfl (lv_at hl 1 rfl) ?_
              refine lv_goto (tgt := 61) hx hb dX9_as_52 (by decide) ?_
              cases hF
              exact ret_Wi C0 hP hS trivial dX9_as_61
    · replace hF := (if_pos c11).symm.trans hF
      refine lv_aload_n hx hb dX9_as_17 rfl (lv_at hl 0 rfl) ?_
      refine lv_ldc hx hb hown (hts _ mK_X9_109) dX9_as_18 ?_
      obtain ⟨r28, m27, h26, hF⟩ := ob2_some hF
      refine cV_Wi C0 eM_st hP hS hK pkX9_finding (As := [.int (-100001)]) (rest := []) (kX9_finding l g ad mem (-100001) r28 m27 h26) mL_X9_110 ⟨rfl, rfl, Nat.le_of_ble_eq_true rfl, Nat.le_of_ble_eq_true rfl, Nat.le_of_ble_eq_true rfl, Nat.le_of_ble_eq_true rfl⟩ 0 wM_0 rfl rfl rfl hl.1 rfl (Nat.le_of_ble_eq_true rfl) dX9_as_20 (fun H locs _ hP hS => ?_)
      cases hF
      exact ret_Wi C0 hP hS trivial dX9_as_23
theorem pkX9_present : pkV yX9_present cX9_present 4 (some .int) RX9 2 := ⟨mI_X9_present, mS_X9_present, mN_X9, mC_X9_present, by decide +kernel⟩
def fX9_present (mem : Mem) (a1 : Int32) (a2 : Int32) : Option (Int32 × Mem) :=
  ob1 (fX9_isMember mem a1) (fun r2 => if r2 = 0 then (ob2 (fX9_finding mem (-100001)) (fun r10 m9 => some (r10, m9))) else (gI a1 10 (gI a1 10 (if mem 3 a1.toNatClampNeg = a2 then (some (0, up2 mem 3 a1.toNatClampNeg (vp_nar .boolean a2))) else (some (1, up2 mem 3 a1.toNatClampNeg (vp_nar .boolean a2)))))))
set_option maxHeartbeats 4000000 in
set_option maxRecDepth 100000 in
theorem kX9_present (l : Launch) (g : gG) (ad : Nat → Nat) (mem : Mem) (a1 : Int32) (a2 : Int32) (r : Int32) (mem2 : Mem) (hF : fX9_present mem a1 a2 = some (r, mem2)) : Met l yX9_present (Cond.code yX9_present cX9_present 4 (some .int) :: gw) { frames := 2, cells := 0, slots := 0, locals := 45 } (pG (wM g ad mem) (eM g ad) g [.ref (ad 0), .int a1, .int a2]) (qW (wM g ad mem2) g (AW 29 ad) (some (.int r)) (True)) 0 0 (AW 29 ad) := by
  refine met_of (by decide) (Nat.le_of_ble_eq_true rfl) ?_
  intro p e s m args below meth c ls C0 hP hl
  obtain ⟨hx, hb, hml, hown, hts, hr, hlk, hE⟩ := id C0
  obtain ⟨hK, hA⟩ := id hE
  have hl : lv_has ls 4 [(0, .ref (ad 0)), (1, .int a1), (2, .int a2)] := hl
  have hS : va_S (AW 29 ad) s.heap s.heap [] := va_S.rf
  unfold fX9_present at hF
  refine lv_aload_n hx hb dX9_present_0 rfl (lv_at hl 0 rfl) ?_
  refine lv_iload_n hx hb dX9_present_1 rfl (lv_at hl 1 rfl) ?_
  obtain ⟨r2, h1, hF⟩ := ob_some hF
  refine cV_Ri C0 eM_st hP hS hK pkX9_isMember (As := [.int a1]) (rest := []) (kX9_isMember l g ad mem a1 r2 h1) mL_X9_115 ⟨rfl, rfl, Nat.le_of_ble_eq_true rfl, Nat.le_of_ble_eq_true rfl, Nat.le_of_ble_eq_true rfl, Nat.le_of_ble_eq_true rfl⟩ 0 wM_0 rfl rfl rfl hl.1 rfl (Nat.le_of_ble_eq_true rfl) dX9_present_2 (fun b3 => ?_)
  refine lv_if_ne (tgt := 15) hx hb dX9_present_5 (by decide) (fun c4 => ?_) (fun c4 => ?_)
  · replace hF := (if_neg c4).symm.trans hF
    refine lv_aload_n hx hb dX9_present_15 rfl (lv_at hl 0 rfl) ?_
    refine get_W C0 hK hP iwX9 0 wM_0 rfl 3 (by decide) mF_X9_16 rfl rfl dX9_present_16 ?_
    refine lv_iload_n hx hb dX9_present_19 rfl (lv_at hl 1 rfl) ?_
    obtain ⟨g5, hF⟩ := gI_some hF
    refine va_zald hx hb hK hP 3 1 wM_3 rfl g5 dX9_present_20 ?_
    refine lv_istore_n (lv' := [(3, .int (mem 3 a1.toNatClampNeg)), (0, .ref (ad 0)), (1, .int a1), (2, .int a2)]) hx hb dX9_present_21 rfl hl (by decide) rfl (fun ls hl => ?_)
    refine lv_aload_n hx hb dX9_present_22 rfl (lv_at hl 1 rfl) ?_
    refine get_W C0 hK hP iwX9 0 wM_0 rfl 3 (by decide) mF_X9_16 rfl rfl dX9_present_23 ?_
    refine lv_iload_n hx hb dX9_present_26 rfl (lv_at hl 2 rfl) ?_
    refine lv_iload_n hx hb dX9_present_27 rfl (lv_at hl 3 rfl) ?_
    obtain ⟨g6, hF⟩ := gI_some hF
    refine zast_W C0 hK hP (wM_D hA) hS 3 wM_3 g6 wM_s3 dX9_present_28 (fun H locs hP hS => ?_)
    refine lv_iload_n hx hb dX9_present_29 rfl (lv_at hl 0 rfl) ?_
    refine lv_iload_n hx hb dX9_present_30 rfl (lv_at hl 3 rfl) ?_
    refine lv_icmp_ne (tgt := 38) hx hb dX9_present_31 (by decide) (fun c7 => ?_) (fun c7 => ?_)
    · replace hF := (if_neg c7).symm.trans hF
      refine lv_iconst (v := 1) hx hb dX9_present_38 (by decide) ?_
      cases hF
      exact ret_Wi C0 hP hS trivial dX9_present_39
    · replace hF := (if_pos c7).symm.trans hF
      refine lv_iconst (v := 0) hx hb dX9_present_34 (by decide) ?_
      refine lv_goto (tgt := 39) hx hb dX9_present_35 (by decide) ?_
      cases hF
      exact ret_Wi C0 hP hS trivial dX9_present_39
  · replace hF := (if_pos c4).symm.trans hF
    refine lv_aload_n hx hb dX9_present_8 rfl (lv_at hl 0 rfl) ?_
    refine lv_ldc hx hb hown (hts _ mK_X9_109) dX9_present_9 ?_
    obtain ⟨r10, m9, h8, hF⟩ := ob2_some hF
    refine cV_Wi C0 eM_st hP hS hK pkX9_finding (As := [.int (-100001)]) (rest := []) (kX9_finding l g ad mem (-100001) r10 m9 h8) mL_X9_110 ⟨rfl, rfl, Nat.le_of_ble_eq_true rfl, Nat.le_of_ble_eq_true rfl, Nat.le_of_ble_eq_true rfl, Nat.le_of_ble_eq_true rfl⟩ 0 wM_0 rfl rfl rfl hl.1 rfl (Nat.le_of_ble_eq_true rfl) dX9_present_11 (fun H locs _ hP hS => ?_)
    cases hF
    exact ret_Wi C0 hP hS trivial dX9_present_14
theorem pkX9_of : pkV yX9_of cX9_of 3 (some .int) RX9 2 := ⟨mI_X9_of, mS_X9_of, mN_X9, mC_X9_of, by decide +kernel⟩
def fX9_of (mem : Mem) (a1 : Int32) (a2 : Int32) : Option (Int32 × Mem) :=
  ob1 (fX9_isMember mem a1) (fun r2 => if r2 = 0 then (ob2 (fX9_finding mem (-100001)) (fun r7 m6 => some (r7, m6))) else (ob1 (fX9_isIn a2 0 4) (fun r9 => if r9 = 0 then (ob2 (fX9_finding mem (-100001)) (fun r24 m23 => some (r24, m23))) else (if a2 = 0 then (gI a1 10 (some (mem 1 a1.toNatClampNeg, mem))) else (if a2 = 1 then (gI a1 10 (some (mem 2 a1.toNatClampNeg, mem))) else (if a2 = 2 then (gI a1 10 (if mem 3 a1.toNatClampNeg = 0 then (some (0, mem)) else (some (1, mem)))) else (if a2 = 3 then (gI a1 10 (some (mem 4 a1.toNatClampNeg, mem))) else (gI a1 10 (some (mem 5 a1.toNatClampNeg, mem))))))))))
set_option maxHeartbeats 4000000 in
set_option maxRecDepth 100000 in
theorem kX9_of (l : Launch) (g : gG) (ad : Nat → Nat) (mem : Mem) (a1 : Int32) (a2 : Int32) (r : Int32) (mem2 : Mem) (hF : fX9_of mem a1 a2 = some (r, mem2)) : Met l yX9_of (Cond.code yX9_of cX9_of 3 (some .int) :: gw) { frames := 2, cells := 0, slots := 0, locals := 46 } (pG (wM g ad mem) (eM g ad) g [.ref (ad 0), .int a1, .int a2]) (qW (wM g ad mem2) g (AW 29 ad) (some (.int r)) (True)) 0 0 (AW 29 ad) := by
  refine met_of (by decide) (Nat.le_of_ble_eq_true rfl) ?_
  intro p e s m args below meth c ls C0 hP hl
  obtain ⟨hx, hb, hml, hown, hts, hr, hlk, hE⟩ := id C0
  obtain ⟨hK, hA⟩ := id hE
  have hl : lv_has ls 3 [(0, .ref (ad 0)), (1, .int a1), (2, .int a2)] := hl
  have hS : va_S (AW 29 ad) s.heap s.heap [] := va_S.rf
  unfold fX9_of at hF
  refine lv_aload_n hx hb dX9_of_0 rfl (lv_at hl 0 rfl) ?_
  refine lv_iload_n hx hb dX9_of_1 rfl (lv_at hl 1 rfl) ?_
  obtain ⟨r2, h1, hF⟩ := ob_some hF
  refine cV_Ri C0 eM_st hP hS hK pkX9_isMember (As := [.int a1]) (rest := []) (kX9_isMember l g ad mem a1 r2 h1) mL_X9_115 ⟨rfl, rfl, Nat.le_of_ble_eq_true rfl, Nat.le_of_ble_eq_true rfl, Nat.le_of_ble_eq_true rfl, Nat.le_of_ble_eq_true rfl⟩ 0 wM_0 rfl rfl rfl hl.1 rfl (Nat.le_of_ble_eq_true rfl) dX9_of_2 (fun b3 => ?_)
  refine lv_if_eq (tgt := 17) hx hb dX9_of_5 (by decide) (fun c4 => ?_) (fun c4 => ?_)
  · replace hF := (if_pos c4).symm.trans hF
    refine lv_aload_n hx hb dX9_of_17 rfl (lv_at hl 0 rfl) ?_
    refine lv_ldc hx hb hown (hts _ mK_X9_109) dX9_of_18 ?_
    obtain ⟨r7, m6, h5, hF⟩ := ob2_some hF
    refine cV_Wi C0 eM_st hP hS hK pkX9_finding (As := [.int (-100001)]) (rest := []) (kX9_finding l g ad mem (-100001) r7 m6 h5) mL_X9_110 ⟨rfl, rfl, Nat.le_of_ble_eq_true rfl, Nat.le_of_ble_eq_true rfl, Nat.le_of_ble_eq_true rfl, Nat.le_of_ble_eq_true rfl⟩ 0 wM_0 rfl rfl rfl hl.1 rfl (Nat.le_of_ble_eq_true rfl) dX9_of_20 (fun H locs _ hP hS => ?_)
    cases hF
    exact ret_Wi C0 hP hS trivial dX9_of_23
  · replace hF := (if_neg c4).symm.trans hF
    refine lv_iload_n hx hb dX9_of_8 rfl (lv_at hl 2 rfl) ?_
    refine lv_iconst (v := 0) hx hb dX9_of_9 (by decide) ?_
    refine lv_iconst (v := 4) hx hb dX9_of_10 (by decide) ?_
    obtain ⟨r9, h8, hF⟩ := ob_some hF
    refine cS_Ri C0 pkX9_isIn (As := [.int a2, .int 0, .int 4]) (rest := []) (kX9_isIn l g a2 0 4 r9 h8) mL_X9_105 ⟨rfl, rfl, Nat.le_of_ble_eq_true rfl, Nat.le_of_ble_eq_true rfl, Nat.le_of_ble_eq_true rfl, Nat.le_of_ble_eq_true rfl⟩ rfl hl.1 rfl (Nat.le_of_ble_eq_true rfl) dX9_of_11 (fun b10 => ?_)
    refine lv_if_ne (tgt := 24) hx hb dX9_of_14 (by decide) (fun c11 => ?_) (fun c11 => ?_)
    · replace hF := (if_neg c11).symm.trans hF
      refine lv_iload_n hx hb dX9_of_24 rfl (lv_at hl 2 rfl) ?_
      refine lv_if_ne (tgt := 37) hx hb dX9_of_25 (by decide) (fun c12 => ?_) (fun c12 => ?_)
      · replace hF := (if_neg c12).symm.trans hF
        refine lv_iload_n hx hb dX9_of_37 rfl (lv_at hl 2 rfl) ?_
        refine lv_iconst (v := 1) hx hb dX9_of_38 (by decide) ?_
        refine lv_icmp_ne (tgt := 51) hx hb dX9_of_39 (by decide) (fun c13 => ?_) (fun c13 => ?_)
        · replace hF := (if_neg c13).symm.trans hF
          refine lv_iload_n hx hb dX9_of_51 rfl (lv_at hl 2 rfl) ?_
          refine lv_iconst (v := 2) hx hb dX9_of_52 (by decide) ?_
          refine lv_icmp_ne (tgt := 73) hx hb dX9_of_53 (by decide) (fun c14 => ?_) (fun c14 => ?_)
          · replace hF := (if_neg c14).symm.trans hF
            refine lv_iload_n hx hb dX9_of_73 rfl (lv_at hl 2 rfl) ?_
            refine lv_iconst (v := 3) hx hb dX9_of_74 (by decide) ?_
            refine lv_icmp_ne (tgt := 87) hx hb dX9_of_75 (by decide) (fun c15 => ?_) (fun c15 => ?_)
            · replace hF := (if_neg c15).symm.trans hF
              refine lv_aload_n hx hb dX9_of_87 rfl (lv_at hl 0 rfl) ?_
              refine get_W C0 hK hP iwX9 0 wM_0 rfl 5 (by decide) mF_X9_23 rfl rfl dX9_of_88 ?_
              refine lv_iload_n hx hb dX9_of_91 rfl (lv_at hl 1 rfl) ?_
              obtain ⟨g16, hF⟩ := gI_some hF
              refine va_iald hx hb hK hP 5 0 wM_5 rfl g16 dX9_of_92 ?_
              cases hF
              exact ret_Wi C0 hP hS trivial dX9_of_93
            · replace hF := (if_pos c15).symm.trans hF
              refine lv_aload_n hx hb dX9_of_78 rfl (lv_at hl 0 rfl) ?_
              refine get_W C0 hK hP iwX9 0 wM_0 rfl 4 (by decide) mF_X9_20 rfl rfl dX9_of_79 ?_
              refine lv_iload_n hx hb dX9_of_82 rfl (lv_at hl 1 rfl) ?_
              obtain ⟨g17, hF⟩ := gI_some hF
              refine va_iald hx hb hK hP 4 0 wM_4 rfl g17 dX9_of_83 ?_
              refine lv_goto (tgt := 93) hx hb dX9_of_84 (by decide) ?_
              cases hF
              exact ret_Wi C0 hP hS trivial dX9_of_93
          · replace hF := (if_pos c14).symm.trans hF
            refine lv_aload_n hx hb dX9_of_56 rfl (lv_at hl 0 rfl) ?_
            refine get_W C0 hK hP iwX9 0 wM_0 rfl 3 (by decide) mF_X9_16 rfl rfl dX9_of_57 ?_
            refine lv_iload_n hx hb dX9_of_60 rfl (lv_at hl 1 rfl) ?_
            obtain ⟨g18, hF⟩ := gI_some hF
            refine va_zald hx hb hK hP 3 1 wM_3 rfl g18 dX9_of_61 ?_
            refine lv_if_eq (tgt := 69) hx hb dX9_of_62 (by decide) (fun c19 => ?_) (fun c19 => ?_)
            · replace hF := (if_pos c19).symm.trans hF
              refine lv_iconst (v := 0) hx hb dX9_of_69 (by decide) ?_
              refine lv_goto (tgt := 93) hx hb dX9_of_70 (by decide) ?_
              cases hF
              exact ret_Wi C0 hP hS trivial dX9_of_93
            · replace hF := (if_neg c19).symm.trans hF
              refine lv_iconst (v := 1) hx hb dX9_of_65 (by decide) ?_
              refine lv_goto (tgt := 93) hx hb dX9_of_66 (by decide) ?_
              cases hF
              exact ret_Wi C0 hP hS trivial dX9_of_93
        · replace hF := (if_pos c13).symm.trans hF
          refine lv_aload_n hx hb dX9_of_42 rfl (lv_at hl 0 rfl) ?_
          refine get_W C0 hK hP iwX9 0 wM_0 rfl 2 (by decide) mF_X9_13 rfl rfl dX9_of_43 ?_
          refine lv_iload_n hx hb dX9_of_46 rfl (lv_at hl 1 rfl) ?_
          obtain ⟨g20, hF⟩ := gI_some hF
          refine va_iald hx hb hK hP 2 0 wM_2 rfl g20 dX9_of_47 ?_
          refine lv_goto (tgt := 93) hx hb dX9_of_48 (by decide) ?_
          cases hF
          exact ret_Wi C0 hP hS trivial dX9_of_93
      · replace hF := (if_pos c12).symm.trans hF
        refine lv_aload_n hx hb dX9_of_28 rfl (lv_at hl 0 rfl) ?_
        refine get_W C0 hK hP iwX9 0 wM_0 rfl 1 (by decide) mF_X9_7 rfl rfl dX9_of_29 ?_
        refine lv_iload_n hx hb dX9_of_32 rfl (lv_at hl 1 rfl) ?_
        obtain ⟨g21, hF⟩ := gI_some hF
        refine va_iald hx hb hK hP 1 0 wM_1 rfl g21 dX9_of_33 ?_
        refine lv_goto (tgt := 93) hx hb dX9_of_34 (by decide) ?_
        cases hF
        exact ret_Wi C0 hP hS trivial dX9_of_93
    · replace hF := (if_pos c11).symm.trans hF
      refine lv_aload_n hx hb dX9_of_17 rfl (lv_at hl 0 rfl) ?_
      refine lv_ldc hx hb hown (hts _ mK_X9_109) dX9_of_18 ?_
      obtain ⟨r24, m23, h22, hF⟩ := ob2_some hF
      refine cV_Wi C0 eM_st hP hS hK pkX9_finding (As := [.int (-100001)]) (rest := []) (kX9_finding l g ad mem (-100001) r24 m23 h22) mL_X9_110 ⟨rfl, rfl, Nat.le_of_ble_eq_true rfl, Nat.le_of_ble_eq_true rfl, Nat.le_of_ble_eq_true rfl, Nat.le_of_ble_eq_true rfl⟩ 0 wM_0 rfl rfl rfl hl.1 rfl (Nat.le_of_ble_eq_true rfl) dX9_of_20 (fun H locs _ hP hS => ?_)
      cases hF
      exact ret_Wi C0 hP hS trivial dX9_of_23
theorem pkX9_timeOf : pkV yX9_timeOf cX9_timeOf 4 (some .int) RX9 1 := ⟨mI_X9_timeOf, mS_X9_timeOf, mN_X9, mC_X9_timeOf, by decide +kernel⟩
def fX9_timeOf_4 (mem : Mem) (z1 : Int32) : Nat → Int32 → Int32 → Option (Int32)
  | 0, _, _ => none
  | n + 1, x2, x3 =>
    if mem 0 0 ≤ x3 then (some x2) else (gI x3 10 (if mem 2 x3.toNatClampNeg = z1 then (gI x3 10 (fX9_timeOf_4 mem z1 n (x2 + (mem 4 x3.toNatClampNeg)) (x3 + 1))) else (fX9_timeOf_4 mem z1 n (x2 + 0) (x3 + 1))))
set_option maxHeartbeats 4000000 in
set_option maxRecDepth 100000 in
theorem lpX9_timeOf_4 {p : Program} {l : Launch} {e : Env} {s : State} {m : MethodId} {args : Array Value} {below : List Frame} {meth : Method} {c : Code} (g : gG) (ad : Nat → Nat) (mem : Mem) (z1 : Int32) (r : Int32) (C0 : cxt (eM g ad) cX9_timeOf 4 RX9 (some .int) p s m args meth c) (hP : va_P g.1 vwCl (wM g ad mem) s.heap) :
    ∀ (n : Nat) (x2 : Int32) (x3 : Int32) (ls : Array Slot), fX9_timeOf_4 mem z1 n x2 x3 = some r → lv_has ls 4 [(0, .ref (ad 0)), (1, .int z1), (2, .int x2), (3, .int x3)] → W p l e { frames := 1, cells := 0, slots := 0, locals := 24 } s m args below meth c s.heap [] 0 0 (MQ below (qR (some (.int r)) (True)) args s 0 0 noA) (F0 m 4 ls []) := by
  obtain ⟨hx, hb, hml, hown, hts, hr, hlk, hE⟩ := id C0
  obtain ⟨hK, hA⟩ := id hE
  intro n
  induction n with
  | zero =>
    intro x2 x3 ls hF hl
    cases hF
  | succ n ih =>
    intro x2 x3 ls hF hl
    rw [fX9_timeOf_4] at hF
    have hS : va_S (AW 29 ad) s.heap s.heap [] := va_S.rf
    refine lv_iload_n hx hb dX9_timeOf_4 rfl (lv_at hl 3 rfl) ?_
    refine lv_aload_n hx hb dX9_timeOf_5 rfl (lv_at hl 0 rfl) ?_
    refine get_W C0 hK hP iwX9 0 wM_0 rfl 0 (by decide) mF_X9_102 rfl rfl dX9_timeOf_6 ?_
    refine lv_icmp_ge (tgt := 41) hx hb dX9_timeOf_9 (by decide) (fun c1 => ?_) (fun c1 => ?_)
    · replace hF := (if_pos c1).symm.trans hF
      refine lv_iload_n hx hb dX9_timeOf_41 rfl (lv_at hl 2 rfl) ?_
      cases hF
      exact ret_Ri C0 trivial dX9_timeOf_42
    · replace hF := (if_neg c1).symm.trans hF
      refine lv_iload_n hx hb dX9_timeOf_12 rfl (lv_at hl 2 rfl) ?_
      refine lv_aload_n hx hb dX9_timeOf_13 rfl (lv_at hl 0 rfl) ?_
      refine get_W C0 hK hP iwX9 0 wM_0 rfl 2 (by decide) mF_X9_13 rfl rfl dX9_timeOf_14 ?_
      refine lv_iload_n hx hb dX9_timeOf_17 rfl (lv_at hl 3 rfl) ?_
      obtain ⟨g2, hF⟩ := gI_some hF
      refine va_iald hx hb hK hP 2 0 wM_2 rfl g2 dX9_timeOf_18 ?_
      refine lv_iload_n hx hb dX9_timeOf_19 rfl (lv_at hl 1 rfl) ?_
      refine lv_icmp_ne (tgt := 32) hx hb dX9_timeOf_20 (by decide) (fun c3 => ?_) (fun c3 => ?_)
      · replace hF := (if_neg c3).symm.trans hF
        refine lv_iconst (v := 0) hx hb dX9_timeOf_32 (by decide) ?_
        refine lv_iadd hx hb dX9_timeOf_33 ?_
        refine lv_istore_n (lv' := [(2, .int (x2 + 0)), (0, .ref (ad 0)), (1, .int z1), (3, .int x3)]) hx hb dX9_timeOf_34 rfl hl (by decide) rfl (fun ls hl => ?_)
        refine lv_iinc (v := x3 + 1) (lv' := [(3, .int (x3 + 1)), (2, .int (x2 + 0)), (0, .ref (ad 0)), (1, .int z1)]) hx hb dX9_timeOf_35 hl (k := 3) rfl rfl (by decide) rfl (fun ls hl => ?_)
        refine lv_goto (tgt := 4) hx hb dX9_timeOf_38 (by decide) ?_
        exact ih (x2 + 0) (x3 + 1) ls hF (lv_sub hl [2, 3, 1, 0] rfl)
      · replace hF := (if_pos c3).symm.trans hF
        refine lv_aload_n hx hb dX9_timeOf_23 rfl (lv_at hl 0 rfl) ?_
        refine get_W C0 hK hP iwX9 0 wM_0 rfl 4 (by decide) mF_X9_20 rfl rfl dX9_timeOf_24 ?_
        refine lv_iload_n hx hb dX9_timeOf_27 rfl (lv_at hl 3 rfl) ?_
        obtain ⟨g4, hF⟩ := gI_some hF
        refine va_iald hx hb hK hP 4 0 wM_4 rfl g4 dX9_timeOf_28 ?_
        refine lv_goto (tgt := 33) hx hb dX9_timeOf_29 (by decide) ?_
        refine lv_iadd hx hb dX9_timeOf_33 ?_
        refine lv_istore_n (lv' := [(2, .int (x2 + (mem 4 x3.toNatClampNeg))), (0, .ref (ad 0)), (1, .int z1), (3, .int x3)]) hx hb dX9_timeOf_34 rfl hl (by decide) rfl (fun ls hl => ?_)
        refine lv_iinc (v := x3 + 1) (lv' := [(3, .int (x3 + 1)), (2, .int (x2 + (mem 4 x3.toNatClampNeg))), (0, .ref (ad 0)), (1, .int z1)]) hx hb dX9_timeOf_35 hl (k := 3) rfl rfl (by decide) rfl (fun ls hl => ?_)
        refine lv_goto (tgt := 4) hx hb dX9_timeOf_38 (by decide) ?_
        exact ih (x2 + (mem 4 x3.toNatClampNeg)) (x3 + 1) ls hF (lv_sub hl [2, 3, 1, 0] rfl)
def fX9_timeOf (mem : Mem) (a1 : Int32) : Option (Int32) :=
  fX9_timeOf_4 mem a1 fu 0 0
set_option maxHeartbeats 4000000 in
set_option maxRecDepth 100000 in
theorem kX9_timeOf (l : Launch) (g : gG) (ad : Nat → Nat) (mem : Mem) (a1 : Int32) (r : Int32) (hF : fX9_timeOf mem a1 = some r) : Met l yX9_timeOf (Cond.code yX9_timeOf cX9_timeOf 4 (some .int) :: gw) { frames := 1, cells := 0, slots := 0, locals := 24 } (pG (wM g ad mem) (eM g ad) g [.ref (ad 0), .int a1]) (qR (some (.int r)) (True)) 0 0 noA := by
  refine met_of (by decide) (Nat.le_of_ble_eq_true rfl) ?_
  intro p e s m args below meth c ls C0 hP hl
  obtain ⟨hx, hb, hml, hown, hts, hr, hlk, hE⟩ := id C0
  obtain ⟨hK, hA⟩ := id hE
  have hl : lv_has ls 4 [(0, .ref (ad 0)), (1, .int a1)] := hl
  have hS : va_S (AW 29 ad) s.heap s.heap [] := va_S.rf
  unfold fX9_timeOf at hF
  refine lv_iconst (v := 0) hx hb dX9_timeOf_0 (by decide) ?_
  refine lv_istore_n (lv' := [(2, .int 0), (0, .ref (ad 0)), (1, .int a1)]) hx hb dX9_timeOf_1 rfl hl (by decide) rfl (fun ls hl => ?_)
  refine lv_iconst (v := 0) hx hb dX9_timeOf_2 (by decide) ?_
  refine lv_istore_n (lv' := [(3, .int 0), (2, .int 0), (0, .ref (ad 0)), (1, .int a1)]) hx hb dX9_timeOf_3 rfl hl (by decide) rfl (fun ls hl => ?_)
  exact lpX9_timeOf_4 g ad mem a1 r C0 hP fu 0 0 ls hF (lv_sub hl [2, 3, 1, 0] rfl)
theorem pkX9_time : pkV yX9_time cX9_time 2 (some .int) RX9 1 := ⟨mI_X9_time, mS_X9_time, mN_X9, mC_X9_time, by decide +kernel⟩
def fX9_time (mem : Mem) (a1 : Int32) : Option (Int32 × Mem) :=
  ob1 (fX9_isIn a1 0 4) (fun r2 => if r2 = 0 then (ob2 (fX9_finding mem (-100001)) (fun r7 m6 => some (r7, m6))) else (ob1 (fX9_timeOf mem a1) (fun r9 => some (r9, mem))))
set_option maxHeartbeats 4000000 in
set_option maxRecDepth 100000 in
theorem kX9_time (l : Launch) (g : gG) (ad : Nat → Nat) (mem : Mem) (a1 : Int32) (r : Int32) (mem2 : Mem) (hF : fX9_time mem a1 = some (r, mem2)) : Met l yX9_time (Cond.code yX9_time cX9_time 2 (some .int) :: gw) { frames := 2, cells := 0, slots := 0, locals := 47 } (pG (wM g ad mem) (eM g ad) g [.ref (ad 0), .int a1]) (qW (wM g ad mem2) g (AW 29 ad) (some (.int r)) (True)) 0 0 (AW 29 ad) := by
  refine met_of (by decide) (Nat.le_of_ble_eq_true rfl) ?_
  intro p e s m args below meth c ls C0 hP hl
  obtain ⟨hx, hb, hml, hown, hts, hr, hlk, hE⟩ := id C0
  obtain ⟨hK, hA⟩ := id hE
  have hl : lv_has ls 2 [(0, .ref (ad 0)), (1, .int a1)] := hl
  have hS : va_S (AW 29 ad) s.heap s.heap [] := va_S.rf
  unfold fX9_time at hF
  refine lv_iload_n hx hb dX9_time_0 rfl (lv_at hl 1 rfl) ?_
  refine lv_iconst (v := 0) hx hb dX9_time_1 (by decide) ?_
  refine lv_iconst (v := 4) hx hb dX9_time_2 (by decide) ?_
  obtain ⟨r2, h1, hF⟩ := ob_some hF
  refine cS_Ri C0 pkX9_isIn (As := [.int a1, .int 0, .int 4]) (rest := []) (kX9_isIn l g a1 0 4 r2 h1) mL_X9_105 ⟨rfl, rfl, Nat.le_of_ble_eq_true rfl, Nat.le_of_ble_eq_true rfl, Nat.le_of_ble_eq_true rfl, Nat.le_of_ble_eq_true rfl⟩ rfl hl.1 rfl (Nat.le_of_ble_eq_true rfl) dX9_time_3 (fun b3 => ?_)
  refine lv_if_eq (tgt := 17) hx hb dX9_time_6 (by decide) (fun c4 => ?_) (fun c4 => ?_)
  · replace hF := (if_pos c4).symm.trans hF
    refine lv_aload_n hx hb dX9_time_17 rfl (lv_at hl 0 rfl) ?_
    refine lv_ldc hx hb hown (hts _ mK_X9_109) dX9_time_18 ?_
    obtain ⟨r7, m6, h5, hF⟩ := ob2_some hF
    refine cV_Wi C0 eM_st hP hS hK pkX9_finding (As := [.int (-100001)]) (rest := []) (kX9_finding l g ad mem (-100001) r7 m6 h5) mL_X9_110 ⟨rfl, rfl, Nat.le_of_ble_eq_true rfl, Nat.le_of_ble_eq_true rfl, Nat.le_of_ble_eq_true rfl, Nat.le_of_ble_eq_true rfl⟩ 0 wM_0 rfl rfl rfl hl.1 rfl (Nat.le_of_ble_eq_true rfl) dX9_time_20 (fun H locs _ hP hS => ?_)
    cases hF
    exact ret_Wi C0 hP hS trivial dX9_time_23
  · replace hF := (if_neg c4).symm.trans hF
    refine lv_aload_n hx hb dX9_time_9 rfl (lv_at hl 0 rfl) ?_
    refine lv_iload_n hx hb dX9_time_10 rfl (lv_at hl 1 rfl) ?_
    obtain ⟨r9, h8, hF⟩ := ob_some hF
    refine cV_Ri C0 eM_st hP hS hK pkX9_timeOf (As := [.int a1]) (rest := []) (kX9_timeOf l g ad mem a1 r9 h8) mL_X9_123 ⟨rfl, rfl, Nat.le_of_ble_eq_true rfl, Nat.le_of_ble_eq_true rfl, Nat.le_of_ble_eq_true rfl, Nat.le_of_ble_eq_true rfl⟩ 0 wM_0 rfl rfl rfl hl.1 rfl (Nat.le_of_ble_eq_true rfl) dX9_time_11 (fun _ => ?_)
    refine lv_goto (tgt := 23) hx hb dX9_time_14 (by decide) ?_
    cases hF
    exact ret_Wi C0 hP hS trivial dX9_time_23
theorem pkX9_askingOf : pkV yX9_askingOf cX9_askingOf 5 (some .int) RX9 2 := ⟨mI_X9_askingOf, mS_X9_askingOf, mN_X9, mC_X9_askingOf, by decide +kernel⟩
def fX9_askingOf_5 (mem : Mem) (z1 : Int32) (z2 : Int32) : Nat → Int32 → Int32 → Option (Int32)
  | 0, _, _ => none
  | n + 1, x3, x4 =>
    if mem 0 6 ≤ x4 then (some x3) else (gI x4 20 (if mem 6 x4.toNatClampNeg = z1 then (gI x4 20 (if mem 7 x4.toNatClampNeg = z2 then (fX9_askingOf_5 mem z1 z2 n x4 (x4 + 1)) else (fX9_askingOf_5 mem z1 z2 n x3 (x4 + 1)))) else (fX9_askingOf_5 mem z1 z2 n x3 (x4 + 1))))
set_option maxHeartbeats 4000000 in
set_option maxRecDepth 100000 in
theorem lpX9_askingOf_5 {p : Program} {l : Launch} {e : Env} {s : State} {m : MethodId} {args : Array Value} {below : List Frame} {meth : Method} {c : Code} (g : gG) (ad : Nat → Nat) (mem : Mem) (z1 : Int32) (z2 : Int32) (r : Int32) (C0 : cxt (eM g ad) cX9_askingOf 5 RX9 (some .int) p s m args meth c) (hP : va_P g.1 vwCl (wM g ad mem) s.heap) :
    ∀ (n : Nat) (x3 : Int32) (x4 : Int32) (ls : Array Slot), fX9_askingOf_5 mem z1 z2 n x3 x4 = some r → lv_has ls 5 [(0, .ref (ad 0)), (1, .int z1), (2, .int z2), (3, .int x3), (4, .int x4)] → W p l e { frames := 1, cells := 0, slots := 0, locals := 24 } s m args below meth c s.heap [] 0 0 (MQ below (qR (some (.int r)) (True)) args s 0 0 noA) (F0 m 5 ls []) := by
  obtain ⟨hx, hb, hml, hown, hts, hr, hlk, hE⟩ := id C0
  obtain ⟨hK, hA⟩ := id hE
  intro n
  induction n with
  | zero =>
    intro x3 x4 ls hF hl
    cases hF
  | succ n ih =>
    intro x3 x4 ls hF hl
    rw [fX9_askingOf_5] at hF
    have hS : va_S (AW 29 ad) s.heap s.heap [] := va_S.rf
    refine lv_iload hx hb dX9_askingOf_5 (lv_at hl 4 rfl) ?_
    refine lv_aload_n hx hb dX9_askingOf_7 rfl (lv_at hl 0 rfl) ?_
    refine get_W C0 hK hP iwX9 0 wM_0 rfl 6 (by decide) mF_X9_126 rfl rfl dX9_askingOf_8 ?_
    refine lv_icmp_ge (tgt := 49) hx hb dX9_askingOf_11 (by decide) (fun c1 => ?_) (fun c1 => ?_)
    · replace hF := (if_pos c1).symm.trans hF
      refine lv_iload_n hx hb dX9_askingOf_49 rfl (lv_at hl 3 rfl) ?_
      cases hF
      exact ret_Ri C0 trivial dX9_askingOf_50
    · replace hF := (if_neg c1).symm.trans hF
      refine lv_aload_n hx hb dX9_askingOf_14 rfl (lv_at hl 0 rfl) ?_
      refine get_W C0 hK hP iwX9 0 wM_0 rfl 7 (by decide) mF_X9_26 rfl rfl dX9_askingOf_15 ?_
      refine lv_iload hx hb dX9_askingOf_18 (lv_at hl 4 rfl) ?_
      obtain ⟨g2, hF⟩ := gI_some hF
      refine va_iald hx hb hK hP 6 0 wM_6 rfl g2 dX9_askingOf_20 ?_
      refine lv_iload_n hx hb dX9_askingOf_21 rfl (lv_at hl 1 rfl) ?_
      refine lv_icmp_ne (tgt := 41) hx hb dX9_askingOf_22 (by decide) (fun c3 => ?_) (fun c3 => ?_)
      · replace hF := (if_neg c3).symm.trans hF
        refine lv_iload_n hx hb dX9_askingOf_41 rfl (lv_at hl 3 rfl) ?_
        refine lv_istore_n (lv' := [(3, .int x3), (0, .ref (ad 0)), (1, .int z1), (2, .int z2), (4, .int x4)]) hx hb dX9_askingOf_42 rfl hl (by decide) rfl (fun ls hl => ?_)
        refine lv_iinc (v := x4 + 1) (lv' := [(4, .int (x4 + 1)), (3, .int x3), (0, .ref (ad 0)), (1, .int z1), (2, .int z2)]) hx hb dX9_askingOf_43 hl (k := 4) rfl rfl (by decide) rfl (fun ls hl => ?_)
        refine lv_goto (tgt := 5) hx hb dX9_askingOf_46 (by decide) ?_
        exact ih x3 (x4 + 1) ls hF (lv_sub hl [2, 3, 4, 1, 0] rfl)
      · replace hF := (if_pos c3).symm.trans hF
        refine lv_aload_n hx hb dX9_askingOf_25 rfl (lv_at hl 0 rfl) ?_
        refine get_W C0 hK hP iwX9 0 wM_0 rfl 8 (by decide) mF_X9_29 rfl rfl dX9_askingOf_26 ?_
        refine lv_iload hx hb dX9_askingOf_29 (lv_at hl 4 rfl) ?_
        obtain ⟨g4, hF⟩ := gI_some hF
        refine va_iald hx hb hK hP 7 0 wM_7 rfl g4 dX9_askingOf_31 ?_
        refine lv_iload_n hx hb dX9_askingOf_32 rfl (lv_at hl 2 rfl) ?_
        refine lv_icmp_ne (tgt := 41) hx hb dX9_askingOf_33 (by decide) (fun c5 => ?_) (fun c5 => ?_)
        · replace hF := (if_neg c5).symm.trans hF
          refine lv_iload_n hx hb dX9_askingOf_41 rfl (lv_at hl 3 rfl) ?_
          refine lv_istore_n (lv' := [(3, .int x3), (0, .ref (ad 0)), (1, .int z1), (2, .int z2), (4, .int x4)]) hx hb dX9_askingOf_42 rfl hl (by decide) rfl (fun ls hl => ?_)
          refine lv_iinc (v := x4 + 1) (lv' := [(4, .int (x4 + 1)), (3, .int x3), (0, .ref (ad 0)), (1, .int z1), (2, .int z2)]) hx hb dX9_askingOf_43 hl (k := 4) rfl rfl (by decide) rfl (fun ls hl => ?_)
          refine lv_goto (tgt := 5) hx hb dX9_askingOf_46 (by decide) ?_
          exact ih x3 (x4 + 1) ls hF (lv_sub hl [2, 3, 4, 1, 0] rfl)
        · replace hF := (if_pos c5).symm.trans hF
          refine lv_iload hx hb dX9_askingOf_36 (lv_at hl 4 rfl) ?_
          refine lv_goto (tgt := 42) hx hb dX9_askingOf_38 (by decide) ?_
          refine lv_istore_n (lv' := [(3, .int x4), (0, .ref (ad 0)), (1, .int z1), (2, .int z2), (4, .int x4)]) hx hb dX9_askingOf_42 rfl hl (by decide) rfl (fun ls hl => ?_)
          refine lv_iinc (v := x4 + 1) (lv' := [(4, .int (x4 + 1)), (3, .int x4), (0, .ref (ad 0)), (1, .int z1), (2, .int z2)]) hx hb dX9_askingOf_43 hl (k := 4) rfl rfl (by decide) rfl (fun ls hl => ?_)
          refine lv_goto (tgt := 5) hx hb dX9_askingOf_46 (by decide) ?_
          exact ih x4 (x4 + 1) ls hF (lv_sub hl [2, 3, 4, 1, 0] rfl)
def fX9_askingOf (mem : Mem) (a1 : Int32) (a2 : Int32) : Option (Int32) :=
  fX9_askingOf_5 mem a1 a2 fu (-1) 0
set_option maxHeartbeats 4000000 in
set_option maxRecDepth 100000 in
theorem kX9_askingOf (l : Launch) (g : gG) (ad : Nat → Nat) (mem : Mem) (a1 : Int32) (a2 : Int32) (r : Int32) (hF : fX9_askingOf mem a1 a2 = some r) : Met l yX9_askingOf (Cond.code yX9_askingOf cX9_askingOf 5 (some .int) :: gw) { frames := 1, cells := 0, slots := 0, locals := 24 } (pG (wM g ad mem) (eM g ad) g [.ref (ad 0), .int a1, .int a2]) (qR (some (.int r)) (True)) 0 0 noA := by
  refine met_of (by decide) (Nat.le_of_ble_eq_true rfl) ?_
  intro p e s m args below meth c ls C0 hP hl
  obtain ⟨hx, hb, hml, hown, hts, hr, hlk, hE⟩ := id C0
  obtain ⟨hK, hA⟩ := id hE
  have hl : lv_has ls 5 [(0, .ref (ad 0)), (1, .int a1), (2, .int a2)] := hl
  have hS : va_S (AW 29 ad) s.heap s.heap [] := va_S.rf
  unfold fX9_askingOf at hF
  refine lv_iconst (v := (-1)) hx hb dX9_askingOf_0 (by decide) ?_
  refine lv_istore_n (lv' := [(3, .int (-1)), (0, .ref (ad 0)), (1, .int a1), (2, .int a2)]) hx hb dX9_askingOf_1 rfl hl (by decide) rfl (fun ls hl => ?_)
  refine lv_iconst (v := 0) hx hb dX9_askingOf_2 (by decide) ?_
  refine lv_istore (lv' := [(4, .int 0), (3, .int (-1)), (0, .ref (ad 0)), (1, .int a1), (2, .int a2)]) hx hb dX9_askingOf_3 hl (by decide) rfl (fun ls hl => ?_)
  exact lpX9_askingOf_5 g ad mem a1 a2 r C0 hP fu (-1) 0 ls hF (lv_sub hl [2, 3, 4, 1, 0] rfl)
theorem pkX9_comes : pkV yX9_comes cX9_comes 3 (none) RX9 2 := ⟨mI_X9_comes, mS_X9_comes, mN_X9, mC_X9_comes, by decide +kernel⟩
def fX9_comes (mem : Mem) (a1 : Int32) (a2 : Int32) : Option (Mem) :=
  gI (mem 0 6) 20 (gI ((up2 mem 6 (mem 0 6).toNatClampNeg a1) 0 6) 20 (some (up2 (up2 (up2 mem 6 (mem 0 6).toNatClampNeg a1) 7 ((up2 mem 6 (mem 0 6).toNatClampNeg a1) 0 6).toNatClampNeg a2) 0 6 (((up2 (up2 mem 6 (mem 0 6).toNatClampNeg a1) 7 ((up2 mem 6 (mem 0 6).toNatClampNeg a1) 0 6).toNatClampNeg a2) 0 6) + 1))))
set_option maxHeartbeats 4000000 in
set_option maxRecDepth 100000 in
theorem kX9_comes (l : Launch) (g : gG) (ad : Nat → Nat) (mem : Mem) (a1 : Int32) (a2 : Int32) (mem2 : Mem) (hF : fX9_comes mem a1 a2 = some mem2) : Met l yX9_comes (Cond.code yX9_comes cX9_comes 3 (none) :: gw) { frames := 1, cells := 0, slots := 0, locals := 24 } (pG (wM g ad mem) (eM g ad) g [.ref (ad 0), .int a1, .int a2]) (qW (wM g ad mem2) g (AW 29 ad) (none) (True)) 0 0 (AW 29 ad) := by
  refine met_of (by decide) (Nat.le_of_ble_eq_true rfl) ?_
  intro p e s m args below meth c ls C0 hP hl
  obtain ⟨hx, hb, hml, hown, hts, hr, hlk, hE⟩ := id C0
  obtain ⟨hK, hA⟩ := id hE
  have hl : lv_has ls 3 [(0, .ref (ad 0)), (1, .int a1), (2, .int a2)] := hl
  have hS : va_S (AW 29 ad) s.heap s.heap [] := va_S.rf
  unfold fX9_comes at hF
  refine lv_aload_n hx hb dX9_comes_0 rfl (lv_at hl 0 rfl) ?_
  refine get_W C0 hK hP iwX9 0 wM_0 rfl 7 (by decide) mF_X9_26 rfl rfl dX9_comes_1 ?_
  refine lv_aload_n hx hb dX9_comes_4 rfl (lv_at hl 0 rfl) ?_
  refine get_W C0 hK hP iwX9 0 wM_0 rfl 6 (by decide) mF_X9_126 rfl rfl dX9_comes_5 ?_
  refine lv_iload_n hx hb dX9_comes_8 rfl (lv_at hl 1 rfl) ?_
  obtain ⟨g1, hF⟩ := gI_some hF
  refine iast_W C0 hK hP (wM_D hA) hS 6 wM_6 g1 wM_s6 dX9_comes_9 (fun H locs hP hS => ?_)
  refine lv_aload_n hx hb dX9_comes_10 rfl (lv_at hl 0 rfl) ?_
  refine get_W C0 hK hP iwX9 0 wM_0 rfl 8 (by decide) mF_X9_29 rfl rfl dX9_comes_11 ?_
  refine lv_aload_n hx hb dX9_comes_14 rfl (lv_at hl 0 rfl) ?_
  refine get_W C0 hK hP iwX9 0 wM_0 rfl 6 (by decide) mF_X9_126 rfl rfl dX9_comes_15 ?_
  refine lv_iload_n hx hb dX9_comes_18 rfl (lv_at hl 2 rfl) ?_
  obtain ⟨g2, hF⟩ := gI_some hF
  refine iast_W C0 hK hP (wM_D hA) hS 7 wM_7 g2 wM_s7 dX9_comes_19 (fun H locs hP hS => ?_)
  refine lv_aload_n hx hb dX9_comes_20 rfl (lv_at hl 0 rfl) ?_
  refine lv_dup hx hb dX9_comes_21 rfl ?_
  refine get_W C0 hK hP iwX9 0 wM_0 rfl 6 (by decide) mF_X9_126 rfl rfl dX9_comes_22 ?_
  refine lv_iconst (v := 1) hx hb dX9_comes_25 (by decide) ?_
  refine lv_iadd hx hb dX9_comes_26 ?_
  refine put_W (k := 6) C0 hK hP (wM_D hA) hS iwX9 tyX9_ok nmX9 0 wM_0 rfl (by decide) mF_X9_126 rfl rfl rfl rfl (Nat.le_of_ble_eq_true rfl) wM_s0_6 dX9_comes_27 (fun H locs hP hS => ?_)
  cases hF
  exact ret_Wv C0 hP hS trivial dX9_comes_30
theorem pkX9_goes : pkV yX9_goes cX9_goes 3 (none) RX9 1 := ⟨mI_X9_goes, mS_X9_goes, mN_X9, mC_X9_goes, by decide +kernel⟩
def fX9_goes_12 (z1 : Int32) : Nat → Mem → Int32 → Option (Mem)
  | 0, _, _ => none
  | n + 1, mem, x2 =>
    if mem 0 6 ≤ x2 then (some mem) else (gI (x2 + 1) 20 (gI x2 20 (gI (x2 + 1) 20 (gI x2 20 (fX9_goes_12 z1 n (up2 (up2 mem 6 x2.toNatClampNeg (mem 6 (x2 + 1).toNatClampNeg)) 7 x2.toNatClampNeg ((up2 mem 6 x2.toNatClampNeg (mem 6 (x2 + 1).toNatClampNeg)) 7 (x2 + 1).toNatClampNeg)) (x2 + 1))))))
set_option maxHeartbeats 4000000 in
set_option maxRecDepth 100000 in
theorem lpX9_goes_12 {p : Program} {l : Launch} {e : Env} {s : State} {m : MethodId} {args : Array Value} {below : List Frame} {meth : Method} {c : Code} (g : gG) (ad : Nat → Nat) (z1 : Int32) (mem2 : Mem) (C0 : cxt (eM g ad) cX9_goes 3 RX9 (none) p s m args meth c) :
    ∀ (n : Nat) (mem : Mem) (x2 : Int32) (H : Heap) (locs : List Loc) (ls : Array Slot), fX9_goes_12 z1 n mem x2 = some mem2 → va_P g.1 vwCl (wM g ad mem) H → va_S (AW 29 ad) s.heap H locs → lv_has ls 3 [(0, .ref (ad 0)), (1, .int z1), (2, .int x2)] → W p l e { frames := 1, cells := 0, slots := 0, locals := 24 } s m args below meth c H locs 0 0 (MQ below (qW (wM g ad mem2) g (AW 29 ad) (none) (True)) args s 0 0 (AW 29 ad)) (F0 m 12 ls []) := by
  obtain ⟨hx, hb, hml, hown, hts, hr, hlk, hE⟩ := id C0
  obtain ⟨hK, hA⟩ := id hE
  intro n
  induction n with
  | zero =>
    intro mem x2 H locs ls hF hP hS hl
    cases hF
  | succ n ih =>
    intro mem x2 H locs ls hF hP hS hl
    rw [fX9_goes_12] at hF
    refine lv_iload_n hx hb dX9_goes_12 rfl (lv_at hl 2 rfl) ?_
    refine lv_aload_n hx hb dX9_goes_13 rfl (lv_at hl 0 rfl) ?_
    refine get_W C0 hK hP iwX9 0 wM_0 rfl 6 (by decide) mF_X9_126 rfl rfl dX9_goes_14 ?_
    refine lv_icmp_ge (tgt := 54) hx hb dX9_goes_17 (by decide) (fun c1 => ?_) (fun c1 => ?_)
    · replace hF := (if_pos c1).symm.trans hF
      cases hF
      exact ret_Wv C0 hP hS trivial dX9_goes_54
    · replace hF := (if_neg c1).symm.trans hF
      refine lv_aload_n hx hb dX9_goes_20 rfl (lv_at hl 0 rfl) ?_
      refine get_W C0 hK hP iwX9 0 wM_0 rfl 7 (by decide) mF_X9_26 rfl rfl dX9_goes_21 ?_
      refine lv_iload_n hx hb dX9_goes_24 rfl (lv_at hl 2 rfl) ?_
      refine lv_aload_n hx hb dX9_goes_25 rfl (lv_at hl 0 rfl) ?_
      refine get_W C0 hK hP iwX9 0 wM_0 rfl 7 (by decide) mF_X9_26 rfl rfl dX9_goes_26 ?_
      refine lv_iload_n hx hb dX9_goes_29 rfl (lv_at hl 2 rfl) ?_
      refine lv_iconst (v := 1) hx hb dX9_goes_30 (by decide) ?_
      refine lv_iadd hx hb dX9_goes_31 ?_
      obtain ⟨g2, hF⟩ := gI_some hF
      refine va_iald hx hb hK hP 6 0 wM_6 rfl g2 dX9_goes_32 ?_
      obtain ⟨g3, hF⟩ := gI_some hF
      refine iast_W C0 hK hP (wM_D hA) hS 6 wM_6 g3 wM_s6 dX9_goes_33 (fun H locs hP hS => ?_)
      refine lv_aload_n hx hb dX9_goes_34 rfl (lv_at hl 0 rfl) ?_
      refine get_W C0 hK hP iwX9 0 wM_0 rfl 8 (by decide) mF_X9_29 rfl rfl dX9_goes_35 ?_
      refine lv_iload_n hx hb dX9_goes_38 rfl (lv_at hl 2 rfl) ?_
      refine lv_aload_n hx hb dX9_goes_39 rfl (lv_at hl 0 rfl) ?_
      refine get_W C0 hK hP iwX9 0 wM_0 rfl 8 (by decide) mF_X9_29 rfl rfl dX9_goes_40 ?_
      refine lv_iload_n hx hb dX9_goes_43 rfl (lv_at hl 2 rfl) ?_
      refine lv_iconst (v := 1) hx hb dX9_goes_44 (by decide) ?_
      refine lv_iadd hx hb dX9_goes_45 ?_
      obtain ⟨g4, hF⟩ := gI_some hF
      refine va_iald hx hb hK hP 7 0 wM_7 rfl g4 dX9_goes_46 ?_
      obtain ⟨g5, hF⟩ := gI_some hF
      refine iast_W C0 hK hP (wM_D hA) hS 7 wM_7 g5 wM_s7 dX9_goes_47 (fun H locs hP hS => ?_)
      refine lv_iinc (v := x2 + 1) (lv' := [(2, .int (x2 + 1)), (0, .ref (ad 0)), (1, .int z1)]) hx hb dX9_goes_48 hl (k := 2) rfl rfl (by decide) rfl (fun ls hl => ?_)
      refine lv_goto (tgt := 12) hx hb dX9_goes_51 (by decide) ?_
      exact ih (up2 (up2 mem 6 x2.toNatClampNeg (mem 6 (x2 + 1).toNatClampNeg)) 7 x2.toNatClampNeg ((up2 mem 6 x2.toNatClampNeg (mem 6 (x2 + 1).toNatClampNeg)) 7 (x2 + 1).toNatClampNeg)) (x2 + 1) _ _ ls hF hP hS (lv_sub hl [1, 2, 0] rfl)
def fX9_goes (mem : Mem) (a1 : Int32) : Option (Mem) :=
  fX9_goes_12 a1 fu (up2 mem 0 6 ((mem 0 6) - 1)) a1
set_option maxHeartbeats 4000000 in
set_option maxRecDepth 100000 in
theorem kX9_goes (l : Launch) (g : gG) (ad : Nat → Nat) (mem : Mem) (a1 : Int32) (mem2 : Mem) (hF : fX9_goes mem a1 = some mem2) : Met l yX9_goes (Cond.code yX9_goes cX9_goes 3 (none) :: gw) { frames := 1, cells := 0, slots := 0, locals := 24 } (pG (wM g ad mem) (eM g ad) g [.ref (ad 0), .int a1]) (qW (wM g ad mem2) g (AW 29 ad) (none) (True)) 0 0 (AW 29 ad) := by
  refine met_of (by decide) (Nat.le_of_ble_eq_true rfl) ?_
  intro p e s m args below meth c ls C0 hP hl
  obtain ⟨hx, hb, hml, hown, hts, hr, hlk, hE⟩ := id C0
  obtain ⟨hK, hA⟩ := id hE
  have hl : lv_has ls 3 [(0, .ref (ad 0)), (1, .int a1)] := hl
  have hS : va_S (AW 29 ad) s.heap s.heap [] := va_S.rf
  unfold fX9_goes at hF
  refine lv_aload_n hx hb dX9_goes_0 rfl (lv_at hl 0 rfl) ?_
  refine lv_dup hx hb dX9_goes_1 rfl ?_
  refine get_W C0 hK hP iwX9 0 wM_0 rfl 6 (by decide) mF_X9_126 rfl rfl dX9_goes_2 ?_
  refine lv_iconst (v := 1) hx hb dX9_goes_5 (by decide) ?_
  refine lv_isub hx hb dX9_goes_6 ?_
  refine put_W (k := 6) C0 hK hP (wM_D hA) hS iwX9 tyX9_ok nmX9 0 wM_0 rfl (by decide) mF_X9_126 rfl rfl rfl rfl (Nat.le_of_ble_eq_true rfl) wM_s0_6 dX9_goes_7 (fun H locs hP hS => ?_)
  refine lv_iload_n hx hb dX9_goes_10 rfl (lv_at hl 1 rfl) ?_
  refine lv_istore_n (lv' := [(2, .int a1), (0, .ref (ad 0)), (1, .int a1)]) hx hb dX9_goes_11 rfl hl (by decide) rfl (fun ls hl => ?_)
  exact lpX9_goes_12 g ad a1 mem2 C0 fu (up2 mem 0 6 ((mem 0 6) - 1)) a1 _ _ ls hF hP hS (lv_sub hl [1, 2, 0] rfl)
theorem pkX9_ask : pkV yX9_ask cX9_ask 3 (some .int) RX9 2 := ⟨mI_X9_ask, mS_X9_ask, mN_X9, mC_X9_ask, by decide +kernel⟩
def fX9_ask (mem : Mem) (a1 : Int32) (a2 : Int32) : Option (Int32 × Mem) :=
  ob1 (fX9_isMember mem a1) (fun r2 => if r2 = 0 then (ob2 (fX9_finding mem (-100001)) (fun r7 m6 => some (r7, m6))) else (ob1 (fX9_isSort a2) (fun r9 => if r9 = 0 then (ob2 (fX9_finding mem (-100001)) (fun r26 m25 => some (r26, m25))) else (ob1 (fX9_askingOf mem a1 a2) (fun r13 => if r13 < 0 then (if mem 0 6 = 20 then (ob2 (fX9_finding mem (-100005)) (fun r20 m19 => some (r20, m19))) else (ob1 (fX9_comes mem a1 a2) (fun m17 => some (m17 0 6, m17)))) else (ob2 (fX9_finding mem (-100003)) (fun r23 m22 => some (r23, m22))))))))
set_option maxHeartbeats 4000000 in
set_option maxRecDepth 100000 in
theorem kX9_ask (l : Launch) (g : gG) (ad : Nat → Nat) (mem : Mem) (a1 : Int32) (a2 : Int32) (r : Int32) (mem2 : Mem) (hF : fX9_ask mem a1 a2 = some (r, mem2)) : Met l yX9_ask (Cond.code yX9_ask cX9_ask 3 (some .int) :: gw) { frames := 3, cells := 0, slots := 0, locals := 66 } (pG (wM g ad mem) (eM g ad) g [.ref (ad 0), .int a1, .int a2]) (qW (wM g ad mem2) g (AW 29 ad) (some (.int r)) (True)) 0 0 (AW 29 ad) := by
  refine met_of (by decide) (Nat.le_of_ble_eq_true rfl) ?_
  intro p e s m args below meth c ls C0 hP hl
  obtain ⟨hx, hb, hml, hown, hts, hr, hlk, hE⟩ := id C0
  obtain ⟨hK, hA⟩ := id hE
  have hl : lv_has ls 3 [(0, .ref (ad 0)), (1, .int a1), (2, .int a2)] := hl
  have hS : va_S (AW 29 ad) s.heap s.heap [] := va_S.rf
  unfold fX9_ask at hF
  refine lv_aload_n hx hb dX9_ask_0 rfl (lv_at hl 0 rfl) ?_
  refine lv_iload_n hx hb dX9_ask_1 rfl (lv_at hl 1 rfl) ?_
  obtain ⟨r2, h1, hF⟩ := ob_some hF
  refine cV_Ri C0 eM_st hP hS hK pkX9_isMember (As := [.int a1]) (rest := []) (kX9_isMember l g ad mem a1 r2 h1) mL_X9_115 ⟨rfl, rfl, Nat.le_of_ble_eq_true rfl, Nat.le_of_ble_eq_true rfl, Nat.le_of_ble_eq_true rfl, Nat.le_of_ble_eq_true rfl⟩ 0 wM_0 rfl rfl rfl hl.1 rfl (Nat.le_of_ble_eq_true rfl) dX9_ask_2 (fun b3 => ?_)
  refine lv_if_eq (tgt := 15) hx hb dX9_ask_5 (by decide) (fun c4 => ?_) (fun c4 => ?_)
  · replace hF := (if_pos c4).symm.trans hF
    refine lv_aload_n hx hb dX9_ask_15 rfl (lv_at hl 0 rfl) ?_
    refine lv_ldc hx hb hown (hts _ mK_X9_109) dX9_ask_16 ?_
    obtain ⟨r7, m6, h5, hF⟩ := ob2_some hF
    refine cV_Wi C0 eM_st hP hS hK pkX9_finding (As := [.int (-100001)]) (rest := []) (kX9_finding l g ad mem (-100001) r7 m6 h5) mL_X9_110 ⟨rfl, rfl, Nat.le_of_ble_eq_true rfl, Nat.le_of_ble_eq_true rfl, Nat.le_of_ble_eq_true rfl, Nat.le_of_ble_eq_true rfl⟩ 0 wM_0 rfl rfl rfl hl.1 rfl (Nat.le_of_ble_eq_true rfl) dX9_ask_18 (fun H locs _ hP hS => ?_)
    cases hF
    exact ret_Wi C0 hP hS trivial dX9_ask_21
  · replace hF := (if_neg c4).symm.trans hF
    refine lv_iload_n hx hb dX9_ask_8 rfl (lv_at hl 2 rfl) ?_
    obtain ⟨r9, h8, hF⟩ := ob_some hF
    refine cS_Ri C0 pkX9_isSort (As := [.int a2]) (rest := []) (kX9_isSort l g a2 r9 h8) mL_X9_129 ⟨rfl, rfl, Nat.le_of_ble_eq_true rfl, Nat.le_of_ble_eq_true rfl, Nat.le_of_ble_eq_true rfl, Nat.le_of_ble_eq_true rfl⟩ rfl hl.1 rfl (Nat.le_of_ble_eq_true rfl) dX9_ask_9 (fun b10 => ?_)
    refine lv_if_ne (tgt := 22) hx hb dX9_ask_12 (by decide) (fun c11 => ?_) (fun c11 => ?_)
    · replace hF := (if_neg c11).symm.trans hF
      refine lv_aload_n hx hb dX9_ask_22 rfl (lv_at hl 0 rfl) ?_
      refine lv_iload_n hx hb dX9_ask_23 rfl (lv_at hl 1 rfl) ?_
      refine lv_iload_n hx hb dX9_ask_24 rfl (lv_at hl 2 rfl) ?_
      obtain ⟨r13, h12, hF⟩ := ob_some hF
      refine cV_Ri C0 eM_st hP hS hK pkX9_askingOf (As := [.int a1, .int a2]) (rest := []) (kX9_askingOf l g ad mem a1 a2 r13 h12) mL_X9_132 ⟨rfl, rfl, Nat.le_of_ble_eq_true rfl, Nat.le_of_ble_eq_true rfl, Nat.le_of_ble_eq_true rfl, Nat.le_of_ble_eq_true rfl⟩ 0 wM_0 rfl rfl rfl hl.1 rfl (Nat.le_of_ble_eq_true rfl) dX9_ask_25 (fun _ => ?_)
      refine lv_if_lt (tgt := 38) hx hb dX9_ask_28 (by decide) (fun c14 => ?_) (fun c14 => ?_)
      · replace hF := (if_pos c14).symm.trans hF
        refine lv_aload_n hx hb dX9_ask_38 rfl (lv_at hl 0 rfl) ?_
        refine get_W C0 hK hP iwX9 0 wM_0 rfl 6 (by decide) mF_X9_126 rfl rfl dX9_ask_39 ?_
        refine lv_bipush (v := 20) hx hb dX9_ask_42 (by decide) ?_
        refine lv_icmp_ne (tgt := 54) hx hb dX9_ask_44 (by decide) (fun c15 => ?_) (fun c15 => ?_)
        · replace hF := (if_neg c15).symm.trans hF
          refine lv_aload_n hx hb dX9_ask_54 rfl (lv_at hl 0 rfl) ?_
          refine lv_iload_n hx hb dX9_ask_55 rfl (lv_at hl 1 rfl) ?_
          refine lv_iload_n hx hb dX9_ask_56 rfl (lv_at hl 2 rfl) ?_
          obtain ⟨m17, h16, hF⟩ := ob_some hF
          refine cV_Wv C0 eM_st hP hS hK pkX9_comes (As := [.int a1, .int a2]) (rest := []) (kX9_comes l g ad mem a1 a2 m17 h16) mL_X9_137 ⟨rfl, rfl, Nat.le_of_ble_eq_true rfl, Nat.le_of_ble_eq_true rfl, Nat.le_of_ble_eq_true rfl, Nat.le_of_ble_eq_true rfl⟩ 0 wM_0 rfl rfl rfl hl.1 rfl (Nat.le_of_ble_eq_true rfl) dX9_ask_57 (fun H locs _ hP hS => ?_)
          refine lv_aload_n hx hb dX9_ask_60 rfl (lv_at hl 0 rfl) ?_
          refine get_W C0 hK hP iwX9 0 wM_0 rfl 6 (by decide) mF_X9_126 rfl rfl dX9_ask_61 ?_
          cases hF
          exact ret_Wi C0 hP hS trivial dX9_ask_64
        · replace hF := (if_pos c15).symm.trans hF
          refine lv_aload_n hx hb dX9_ask_47 rfl (lv_at hl 0 rfl) ?_
          refine lv_ldc hx hb hown (hts _ mK_X9_114) dX9_ask_48 ?_
          obtain ⟨r20, m19, h18, hF⟩ := ob2_some hF
          refine cV_Wi C0 eM_st hP hS hK pkX9_finding (As := [.int (-100005)]) (rest := []) (kX9_finding l g ad mem (-100005) r20 m19 h18) mL_X9_110 ⟨rfl, rfl, Nat.le_of_ble_eq_true rfl, Nat.le_of_ble_eq_true rfl, Nat.le_of_ble_eq_true rfl, Nat.le_of_ble_eq_true rfl⟩ 0 wM_0 rfl rfl rfl hl.1 rfl (Nat.le_of_ble_eq_true rfl) dX9_ask_50 (fun H locs _ hP hS => ?_)
          cases hF
          exact ret_Wi C0 hP hS trivial dX9_ask_53
      · replace hF := (if_neg c14).symm.trans hF
        refine lv_aload_n hx hb dX9_ask_31 rfl (lv_at hl 0 rfl) ?_
        refine lv_ldc hx hb hown (hts _ mK_X9_136) dX9_ask_32 ?_
        obtain ⟨r23, m22, h21, hF⟩ := ob2_some hF
        refine cV_Wi C0 eM_st hP hS hK pkX9_finding (As := [.int (-100003)]) (rest := []) (kX9_finding l g ad mem (-100003) r23 m22 h21) mL_X9_110 ⟨rfl, rfl, Nat.le_of_ble_eq_true rfl, Nat.le_of_ble_eq_true rfl, Nat.le_of_ble_eq_true rfl, Nat.le_of_ble_eq_true rfl⟩ 0 wM_0 rfl rfl rfl hl.1 rfl (Nat.le_of_ble_eq_true rfl) dX9_ask_34 (fun H locs _ hP hS => ?_)
        cases hF
        exact ret_Wi C0 hP hS trivial dX9_ask_37
    · replace hF := (if_pos c11).symm.trans hF
      refine lv_aload_n hx hb dX9_ask_15 rfl (lv_at hl 0 rfl) ?_
      refine lv_ldc hx hb hown (hts _ mK_X9_109) dX9_ask_16 ?_
      obtain ⟨r26, m25, h24, hF⟩ := ob2_some hF
      refine cV_Wi C0 eM_st hP hS hK pkX9_finding (As := [.int (-100001)]) (rest := []) (kX9_finding l g ad mem (-100001) r26 m25 h24) mL_X9_110 ⟨rfl, rfl, Nat.le_of_ble_eq_true rfl, Nat.le_of_ble_eq_true rfl, Nat.le_of_ble_eq_true rfl, Nat.le_of_ble_eq_true rfl⟩ 0 wM_0 rfl rfl rfl hl.1 rfl (Nat.le_of_ble_eq_true rfl) dX9_ask_18 (fun H locs _ hP hS => ?_)
      cases hF
      exact ret_Wi C0 hP hS trivial dX9_ask_21
