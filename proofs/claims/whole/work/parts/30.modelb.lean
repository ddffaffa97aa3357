theorem pkX9_withdraw : pkV yX9_withdraw cX9_withdraw 4 (some .int) RX9 2 := ⟨mI_X9_withdraw, mS_X9_withdraw, mN_X9, mC_X9_withdraw, by decide +kernel⟩
def fX9_withdraw (mem : Mem) (a1 : Int32) (a2 : Int32) : Option (Int32 × Mem) :=
  ob1 (fX9_isMember mem a1) (fun r2 => if r2 = 0 then (ob2 (fX9_finding mem (-100001)) (fun r7 m6 => some (r7, m6))) else (ob1 (fX9_isSort a2) (fun r9 => if r9 = 0 then (ob2 (fX9_finding mem (-100001)) (fun r22 m21 => some (r22, m21))) else (ob1 (fX9_askingOf mem a1 a2) (fun r13 => if 0 ≤ r13 then (ob1 (fX9_goes mem r13) (fun m16 => some (m16 0 6, m16))) else (ob2 (fX9_finding mem (-100006)) (fun r19 m18 => some (r19, m18))))))))
set_option maxHeartbeats 4000000 in
set_option maxRecDepth 100000 in
theorem kX9_withdraw (l : Launch) (g : gG) (ad : Nat → Nat) (mem : Mem) (a1 : Int32) (a2 : Int32) (r : Int32) (mem2 : Mem) (hF : fX9_withdraw mem a1 a2 = some (r, mem2)) : Met l yX9_withdraw (Cond.code yX9_withdraw cX9_withdraw 4 (some .int) :: gw) { frames := 3, cells := 0, slots := 0, locals := 66 } (pG (wM g ad mem) (eM g ad) g [.ref (ad 0), .int a1, .int a2]) (qW (wM g ad mem2) g (AW 29 ad) (some (.int r)) (True)) 0 0 (AW 29 ad) := by
  refine met_of (by decide) (Nat.le_of_ble_eq_true rfl) ?_
  intro p e s m args below meth c ls C0 hP hl
  obtain ⟨hx, hb, hml, hown, hts, hr, hlk, hE⟩ := id C0
  obtain ⟨hK, hA⟩ := id hE
  have hl : lv_has ls 4 [(0, .ref (ad 0)), (1, .int a1), (2, .int a2)] := hl
  have hS : va_S (AW 29 ad) s.heap s.heap [] := va_S.rf
  unfold fX9_withdraw at hF
  refine lv_aload_n hx hb dX9_withdraw_0 rfl (lv_at hl 0 rfl) ?_
  refine lv_iload_n hx hb dX9_withdraw_1 rfl (lv_at hl 1 rfl) ?_
  obtain ⟨r2, h1, hF⟩ := ob_some hF
  refine cV_Ri C0 eM_st hP hS hK pkX9_isMember (As := [.int a1]) (rest := []) (kX9_isMember l g ad mem a1 r2 h1) mL_X9_115 ⟨rfl, rfl, Nat.le_of_ble_eq_true rfl, Nat.le_of_ble_eq_true rfl, Nat.le_of_ble_eq_true rfl, Nat.le_of_ble_eq_true rfl⟩ 0 wM_0 rfl rfl rfl hl.1 rfl (Nat.le_of_ble_eq_true rfl) dX9_withdraw_2 (fun b3 => ?_)
  refine lv_if_eq (tgt := 15) hx hb dX9_withdraw_5 (by decide) (fun c4 => ?_) (fun c4 => ?_)
  · replace hF := (if_pos c4).symm.trans hF
    refine lv_aload_n hx hb dX9_withdraw_15 rfl (lv_at hl 0 rfl) ?_
    refine lv_ldc hx hb hown (hts _ mK_X9_109) dX9_withdraw_16 ?_
    obtain ⟨r7, m6, h5, hF⟩ := ob2_some hF
    refine cV_Wi C0 eM_st hP hS hK pkX9_finding (As := [.int (-100001)]) (rest := []) (kX9_finding l g ad mem (-100001) r7 m6 h5) mL_X9_110 ⟨rfl, rfl, Nat.le_of_ble_eq_true rfl, Nat.le_of_ble_eq_true rfl, Nat.le_of_ble_eq_true rfl, Nat.le_of_ble_eq_true rfl⟩ 0 wM_0 rfl rfl rfl hl.1 rfl (Nat.le_of_ble_eq_true rfl) dX9_withdraw_18 (fun H locs _ hP hS => ?_)
    cases hF
    exact ret_Wi C0 hP hS trivial dX9_withdraw_21
  · replace hF := (if_neg c4).symm.trans hF
    refine lv_iload_n hx hb dX9_withdraw_8 rfl (lv_at hl 2 rfl) ?_
    obtain ⟨r9, h8, hF⟩ := ob_some hF
    refine cS_Ri C0 pkX9_isSort (As := [.int a2]) (rest := []) (kX9_isSort l g a2 r9 h8) mL_X9_129 ⟨rfl, rfl, Nat.le_of_ble_eq_true rfl, Nat.le_of_ble_eq_true rfl, Nat.le_of_ble_eq_true rfl, Nat.le_of_ble_eq_true rfl⟩ rfl hl.1 rfl (Nat.le_of_ble_eq_true rfl) dX9_withdraw_9 (fun b10 => ?_)
    refine lv_if_ne (tgt := 22) hx hb dX9_withdraw_12 (by decide) (fun c11 => ?_) (fun c11 => ?_)
    · replace hF := (if_neg c11).symm.trans hF
      refine lv_aload_n hx hb dX9_withdraw_22 rfl (lv_at hl 0 rfl) ?_
      refine lv_iload_n hx hb dX9_withdraw_23 rfl (lv_at hl 1 rfl) ?_
      refine lv_iload_n hx hb dX9_withdraw_24 rfl (lv_at hl 2 rfl) ?_
      obtain ⟨r13, h12, hF⟩ := ob_some hF
      refine cV_Ri C0 eM_st hP hS hK pkX9_askingOf (As := [.int a1, .int a2]) (rest := []) (kX9_askingOf l g ad mem a1 a2 r13 h12) mL_X9_132 ⟨rfl, rfl, Nat.le_of_ble_eq_true rfl, Nat.le_of_ble_eq_true rfl, Nat.le_of_ble_eq_true rfl, Nat.le_of_ble_eq_true rfl⟩ 0 wM_0 rfl rfl rfl hl.1 rfl (Nat.le_of_ble_eq_true rfl) dX9_withdraw_25 (fun _ => ?_)
      refine lv_istore_n (lv' := [(3, .int r13), (0, .ref (ad 0)), (1, .int a1), (2, .int a2)]) hx hb dX9_withdraw_28 rfl hl (by decide) rfl (fun ls hl => ?_)
      refine lv_iload_n hx hb dX9_withdraw_29 rfl (lv_at hl 0 rfl) ?_
      refine lv_if_ge (tgt := 40) hx hb dX9_withdraw_30 (by decide) (fun c14 => ?_) (fun c14 => ?_)
      · replace hF := (if_pos c14).symm.trans hF
        refine lv_aload_n hx hb dX9_withdraw_40 rfl (lv_at hl 1 rfl) ?_
        refine lv_iload_n hx hb dX9_withdraw_41 rfl (lv_at hl 0 rfl) ?_
        obtain ⟨m16, h15, hF⟩ := ob_some hF
        refine cV_Wv C0 eM_st hP hS hK pkX9_goes (As := [.int r13]) (rest := []) (kX9_goes l g ad mem r13 m16 h15) mL_X9_142 ⟨rfl, rfl, Nat.le_of_ble_eq_true rfl, Nat.le_of_ble_eq_true rfl, Nat.le_of_ble_eq_true rfl, Nat.le_of_ble_eq_true rfl⟩ 0 wM_0 rfl rfl rfl hl.1 rfl (Nat.le_of_ble_eq_true rfl) dX9_withdraw_42 (fun H locs _ hP hS => ?_)
        refine lv_aload_n hx hb dX9_withdraw_45 rfl (lv_at hl 1 rfl) ?_
        refine get_W C0 hK hP iwX9 0 wM_0 rfl 6 (by decide) mF_X9_126 rfl rfl dX9_withdraw_46 ?_
        cases hF
        exact ret_Wi C0 hP hS trivial dX9_withdraw_49
      · replace hF := (if_neg c14).symm.trans hF
        refine lv_aload_n hx hb dX9_withdraw_33 rfl (lv_at hl 1 rfl) ?_
        refine lv_ldc hx hb hown (hts _ mK_X9_141) dX9_withdraw_34 ?_
        obtain ⟨r19, m18, h17, hF⟩ := ob2_some hF
        refine cV_Wi C0 eM_st hP hS hK pkX9_finding (As := [.int (-100006)]) (rest := []) (kX9_finding l g ad mem (-100006) r19 m18 h17) mL_X9_110 ⟨rfl, rfl, Nat.le_of_ble_eq_true rfl, Nat.le_of_ble_eq_true rfl, Nat.le_of_ble_eq_true rfl, Nat.le_of_ble_eq_true rfl⟩ 0 wM_0 rfl rfl rfl hl.1 rfl (Nat.le_of_ble_eq_true rfl) dX9_withdraw_36 (fun H locs _ hP hS => ?_)
        cases hF
        exact ret_Wi C0 hP hS trivial dX9_withdraw_39
    · replace hF := (if_pos c11).symm.trans hF
      refine lv_aload_n hx hb dX9_withdraw_15 rfl (lv_at hl 0 rfl) ?_
      refine lv_ldc hx hb hown (hts _ mK_X9_109) dX9_withdraw_16 ?_
      obtain ⟨r22, m21, h20, hF⟩ := ob2_some hF
      refine cV_Wi C0 eM_st hP hS hK pkX9_finding (As := [.int (-100001)]) (rest := []) (kX9_finding l g ad mem (-100001) r22 m21 h20) mL_X9_110 ⟨rfl, rfl, Nat.le_of_ble_eq_true rfl, Nat.le_of_ble_eq_true rfl, Nat.le_of_ble_eq_true rfl, Nat.le_of_ble_eq_true rfl⟩ 0 wM_0 rfl rfl rfl hl.1 rfl (Nat.le_of_ble_eq_true rfl) dX9_withdraw_18 (fun H locs _ hP hS => ?_)
      cases hF
      exact ret_Wi C0 hP hS trivial dX9_withdraw_21
theorem pkX9_hasKey : pkV yX9_hasKey cX9_hasKey 4 (some .boolean) RX9 1 := ⟨mI_X9_hasKey, mS_X9_hasKey, mN_X9, mC_X9_hasKey, by decide +kernel⟩
def fX9_hasKey_4 (mem : Mem) (z1 : Int32) : Nat → Int32 → Int32 → Option (Int32)
  | 0, _, _ => none
  | n + 1, x2, x3 =>
    if mem 0 9 ≤ x3 then (gB x2 (some x2)) else (gI x3 6 (if mem 8 x3.toNatClampNeg = z1 then (fX9_hasKey_4 mem z1 n (x2 ||| 1) (x3 + 1)) else (fX9_hasKey_4 mem z1 n (x2 ||| 0) (x3 + 1))))
set_option maxHeartbeats 4000000 in
set_option maxRecDepth 100000 in
theorem lpX9_hasKey_4 {p : Program} {l : Launch} {e : Env} {s : State} {m : MethodId} {args : Array Value} {below : List Frame} {meth : Method} {c : Code} (g : gG) (ad : Nat → Nat) (mem : Mem) (z1 : Int32) (r : Int32) (C0 : cxt (eM g ad) cX9_hasKey 4 RX9 (some .boolean) p s m args meth c) (hP : va_P g.1 vwCl (wM g ad mem) s.heap) :
    ∀ (n : Nat) (x2 : Int32) (x3 : Int32) (ls : Array Slot), fX9_hasKey_4 mem z1 n x2 x3 = some r → lv_has ls 4 [(0, .ref (ad 0)), (1, .int z1), (2, .int x2), (3, .int x3)] → W p l e { frames := 1, cells := 0, slots := 0, locals := 24 } s m args below meth c s.heap [] 0 0 (MQ below (qR (some (.int r)) (isB r)) args s 0 0 noA) (F0 m 4 ls []) := by
  obtain ⟨hx, hb, hml, hown, hts, hr, hlk, hE⟩ := id C0
  obtain ⟨hK, hA⟩ := id hE
  intro n
  induction n with
  | zero =>
    intro x2 x3 ls hF hl
    cases hF
  | succ n ih =>
    intro x2 x3 ls hF hl
    rw [fX9_hasKey_4] at hF
    have hS : va_S (AW 29 ad) s.heap s.heap [] := va_S.rf
    refine lv_iload_n hx hb dX9_hasKey_4 rfl (lv_at hl 3 rfl) ?_
    refine lv_aload_n hx hb dX9_hasKey_5 rfl (lv_at hl 0 rfl) ?_
    refine get_W C0 hK hP iwX9 0 wM_0 rfl 9 (by decide) mF_X9_146 rfl rfl dX9_hasKey_6 ?_
    refine lv_icmp_ge (tgt := 36) hx hb dX9_hasKey_9 (by decide) (fun c1 => ?_) (fun c1 => ?_)
    · replace hF := (if_pos c1).symm.trans hF
      refine lv_iload_n hx hb dX9_hasKey_36 rfl (lv_at hl 2 rfl) ?_
      obtain ⟨b2, hF⟩ := gB_some hF
      cases hF
      exact ret_Rz C0 b2 b2 dX9_hasKey_37
    · replace hF := (if_neg c1).symm.trans hF
      refine lv_iload_n hx hb dX9_hasKey_12 rfl (lv_at hl 2 rfl) ?_
      refine lv_aload_n hx hb dX9_hasKey_13 rfl (lv_at hl 0 rfl) ?_
      refine get_W C0 hK hP iwX9 0 wM_0 rfl 10 (by decide) mF_X9_32 rfl rfl dX9_hasKey_14 ?_
      refine lv_iload_n hx hb dX9_hasKey_17 rfl (lv_at hl 3 rfl) ?_
      obtain ⟨g3, hF⟩ := gI_some hF
      refine va_iald hx hb hK hP 8 0 wM_8 rfl g3 dX9_hasKey_18 ?_
      refine lv_iload_n hx hb dX9_hasKey_19 rfl (lv_at hl 1 rfl) ?_
      refine lv_icmp_ne (tgt := 27) hx hb dX9_hasKey_20 (by decide) (fun c4 => ?_) (fun c4 => ?_)
      · replace hF := (if_neg c4).symm.trans hF
        refine lv_iconst (v := 0) hx hb dX9_hasKey_27 (by decide) ?_
        refine lv_ior hx hb dX9_hasKey_28 ?_
        refine lv_istore_n (lv' := [(2, .int (x2 ||| 0)), (0, .ref (ad 0)), (1, .int z1), (3, .int x3)]) hx hb dX9_hasKey_29 rfl hl (by decide) rfl (fun ls hl => ?_)
        refine lv_iinc (v := x3 + 1) (lv' := [(3, .int (x3 + 1)), (2, .int (x2 ||| 0)), (0, .ref (ad 0)), (1, .int z1)]) hx hb dX9_hasKey_30 hl (k := 3) rfl rfl (by decide) rfl (fun ls hl => ?_)
        refine lv_goto (tgt := 4) hx hb dX9_hasKey_33 (by decide) ?_
        exact ih (x2 ||| 0) (x3 + 1) ls hF (lv_sub hl [2, 3, 1, 0] rfl)
      · replace hF := (if_pos c4).symm.trans hF
        refine lv_iconst (v := 1) hx hb dX9_hasKey_23 (by decide) ?_
        refine lv_goto (tgt := 28) hx hb dX9_hasKey_24 (by decide) ?_
        refine lv_ior hx hb dX9_hasKey_28 ?_
        refine lv_istore_n (lv' := [(2, .int (x2 ||| 1)), (0, .ref (ad 0)), (1, .int z1), (3, .int x3)]) hx hb dX9_hasKey_29 rfl hl (by decide) rfl (fun ls hl => ?_)
        refine lv_iinc (v := x3 + 1) (lv' := [(3, .int (x3 + 1)), (2, .int (x2 ||| 1)), (0, .ref (ad 0)), (1, .int z1)]) hx hb dX9_hasKey_30 hl (k := 3) rfl rfl (by decide) rfl (fun ls hl => ?_)
        refine lv_goto (tgt := 4) hx hb dX9_hasKey_33 (by decide) ?_
        exact ih (x2 ||| 1) (x3 + 1) ls hF (lv_sub hl [2, 3, 1, 0] rfl)
def fX9_hasKey (mem : Mem) (a1 : Int32) : Option (Int32) :=
  fX9_hasKey_4 mem a1 fu 0 0
set_option maxHeartbeats 4000000 in
set_option maxRecDepth 100000 in
theorem kX9_hasKey (l : Launch) (g : gG) (ad : Nat → Nat) (mem : Mem) (a1 : Int32) (r : Int32) (hF : fX9_hasKey mem a1 = some r) : Met l yX9_hasKey (Cond.code yX9_hasKey cX9_hasKey 4 (some .boolean) :: gw) { frames := 1, cells := 0, slots := 0, locals := 24 } (pG (wM g ad mem) (eM g ad) g [.ref (ad 0), .int a1]) (qR (some (.int r)) (isB r)) 0 0 noA := by
  refine met_of (by decide) (Nat.le_of_ble_eq_true rfl) ?_
  intro p e s m args below meth c ls C0 hP hl
  obtain ⟨hx, hb, hml, hown, hts, hr, hlk, hE⟩ := id C0
  obtain ⟨hK, hA⟩ := id hE
  have hl : lv_has ls 4 [(0, .ref (ad 0)), (1, .int a1)] := hl
  have hS : va_S (AW 29 ad) s.heap s.heap [] := va_S.rf
  unfold fX9_hasKey at hF
  refine lv_iconst (v := 0) hx hb dX9_hasKey_0 (by decide) ?_
  refine lv_istore_n (lv' := [(2, .int 0), (0, .ref (ad 0)), (1, .int a1)]) hx hb dX9_hasKey_1 rfl hl (by decide) rfl (fun ls hl => ?_)
  refine lv_iconst (v := 0) hx hb dX9_hasKey_2 (by decide) ?_
  refine lv_istore_n (lv' := [(3, .int 0), (2, .int 0), (0, .ref (ad 0)), (1, .int a1)]) hx hb dX9_hasKey_3 rfl hl (by decide) rfl (fun ls hl => ?_)
  exact lpX9_hasKey_4 g ad mem a1 r C0 hP fu 0 0 ls hF (lv_sub hl [2, 3, 1, 0] rfl)
theorem pkX9_key : pkV yX9_key cX9_key 2 (some .int) RX9 1 := ⟨mI_X9_key, mS_X9_key, mN_X9, mC_X9_key, by decide +kernel⟩
def fX9_key (mem : Mem) (a1 : Int32) : Option (Int32 × Mem) :=
  ob1 (fX9_isIn a1 1 9) (fun r2 => if r2 = 0 then (ob2 (fX9_finding mem (-100001)) (fun r19 m18 => some (r19, m18))) else (ob1 (fX9_hasKey mem a1) (fun r6 => if r6 = 0 then (if mem 0 9 = 6 then (ob2 (fX9_finding mem (-100005)) (fun r13 m12 => some (r13, m12))) else (gI (mem 0 9) 6 (some ((up2 (up2 mem 8 (mem 0 9).toNatClampNeg a1) 0 9 (((up2 mem 8 (mem 0 9).toNatClampNeg a1) 0 9) + 1)) 0 9, up2 (up2 mem 8 (mem 0 9).toNatClampNeg a1) 0 9 (((up2 mem 8 (mem 0 9).toNatClampNeg a1) 0 9) + 1))))) else (ob2 (fX9_finding mem (-100003)) (fun r16 m15 => some (r16, m15))))))
set_option maxHeartbeats 4000000 in
set_option maxRecDepth 100000 in
theorem kX9_key (l : Launch) (g : gG) (ad : Nat → Nat) (mem : Mem) (a1 : Int32) (r : Int32) (mem2 : Mem) (hF : fX9_key mem a1 = some (r, mem2)) : Met l yX9_key (Cond.code yX9_key cX9_key 2 (some .int) :: gw) { frames := 2, cells := 0, slots := 0, locals := 47 } (pG (wM g ad mem) (eM g ad) g [.ref (ad 0), .int a1]) (qW (wM g ad mem2) g (AW 29 ad) (some (.int r)) (True)) 0 0 (AW 29 ad) := by
  refine met_of (by decide) (Nat.le_of_ble_eq_true rfl) ?_
  intro p e s m args below meth c ls C0 hP hl
  obtain ⟨hx, hb, hml, hown, hts, hr, hlk, hE⟩ := id C0
  obtain ⟨hK, hA⟩ := id hE
  have hl : lv_has ls 2 [(0, .ref (ad 0)), (1, .int a1)] := hl
  have hS : va_S (AW 29 ad) s.heap s.heap [] := va_S.rf
  unfold fX9_key at hF
  refine lv_iload_n hx hb dX9_key_0 rfl (lv_at hl 1 rfl) ?_
  refine lv_iconst (v := 1) hx hb dX9_key_1 (by decide) ?_
  refine lv_bipush (v := 9) hx hb dX9_key_2 (by decide) ?_
  obtain ⟨r2, h1, hF⟩ := ob_some hF
  refine cS_Ri C0 pkX9_isIn (As := [.int a1, .int 1, .int 9]) (rest := []) (kX9_isIn l g a1 1 9 r2 h1) mL_X9_105 ⟨rfl, rfl, Nat.le_of_ble_eq_true rfl, Nat.le_of_ble_eq_true rfl, Nat.le_of_ble_eq_true rfl, Nat.le_of_ble_eq_true rfl⟩ rfl hl.1 rfl (Nat.le_of_ble_eq_true rfl) dX9_key_4 (fun b3 => ?_)
  refine lv_if_ne (tgt := 17) hx hb dX9_key_7 (by decide) (fun c4 => ?_) (fun c4 => ?_)
  · replace hF := (if_neg c4).symm.trans hF
    refine lv_aload_n hx hb dX9_key_17 rfl (lv_at hl 0 rfl) ?_
    refine lv_iload_n hx hb dX9_key_18 rfl (lv_at hl 1 rfl) ?_
    obtain ⟨r6, h5, hF⟩ := ob_some hF
    refine cV_Ri C0 eM_st hP hS hK pkX9_hasKey (As := [.int a1]) (rest := []) (kX9_hasKey l g ad mem a1 r6 h5) mL_X9_149 ⟨rfl, rfl, Nat.le_of_ble_eq_true rfl, Nat.le_of_ble_eq_true rfl, Nat.le_of_ble_eq_true rfl, Nat.le_of_ble_eq_true rfl⟩ 0 wM_0 rfl rfl rfl hl.1 rfl (Nat.le_of_ble_eq_true rfl) dX9_key_19 (fun b7 => ?_)
    refine lv_if_eq (tgt := 32) hx hb dX9_key_22 (by decide) (fun c8 => ?_) (fun c8 => ?_)
    · replace hF := (if_pos c8).symm.trans hF
      refine lv_aload_n hx hb dX9_key_32 rfl (lv_at hl 0 rfl) ?_
      refine get_W C0 hK hP iwX9 0 wM_0 rfl 9 (by decide) mF_X9_146 rfl rfl dX9_key_33 ?_
      refine lv_bipush (v := 6) hx hb dX9_key_36 (by decide) ?_
      refine lv_icmp_ne (tgt := 48) hx hb dX9_key_38 (by decide) (fun c9 => ?_) (fun c9 => ?_)
      · replace hF := (if_neg c9).symm.trans hF
        refine lv_aload_n hx hb dX9_key_48 rfl (lv_at hl 0 rfl) ?_
        refine get_W C0 hK hP iwX9 0 wM_0 rfl 10 (by decide) mF_X9_32 rfl rfl dX9_key_49 ?_
        refine lv_aload_n hx hb dX9_key_52 rfl (lv_at hl 0 rfl) ?_
        refine get_W C0 hK hP iwX9 0 wM_0 rfl 9 (by decide) mF_X9_146 rfl rfl dX9_key_53 ?_
        refine lv_iload_n hx hb dX9_key_56 rfl (lv_at hl 1 rfl) ?_
        obtain ⟨g10, hF⟩ := gI_some hF
        refine iast_W C0 hK hP (wM_D hA) hS 8 wM_8 g10 wM_s8 dX9_key_57 (fun H locs hP hS => ?_)
        refine lv_aload_n hx hb dX9_key_58 rfl (lv_at hl 0 rfl) ?_
        refine lv_dup hx hb dX9_key_59 rfl ?_
        refine get_W C0 hK hP iwX9 0 wM_0 rfl 9 (by decide) mF_X9_146 rfl rfl dX9_key_60 ?_
        refine lv_iconst (v := 1) hx hb dX9_key_63 (by decide) ?_
        refine lv_iadd hx hb dX9_key_64 ?_
        refine put_W (k := 9) C0 hK hP (wM_D hA) hS iwX9 tyX9_ok nmX9 0 wM_0 rfl (by decide) mF_X9_146 rfl rfl rfl rfl (Nat.le_of_ble_eq_true rfl) wM_s0_9 dX9_key_65 (fun H locs hP hS => ?_)
        refine lv_aload_n hx hb dX9_key_68 rfl (lv_at hl 0 rfl) ?_
        refine get_W C0 hK hP iwX9 0 wM_0 rfl 9 (by decide) mF_X9_146 rfl rfl dX9_key_69 ?_
        cases hF
        exact ret_Wi C0 hP hS trivial dX9_key_72
      · replace hF := (if_pos c9).symm.trans hF
        refine lv_aload_n hx hb dX9_key_41 rfl (lv_at hl 0 rfl) ?_
        refine lv_ldc hx hb hown (hts _ mK_X9_114) dX9_key_42 ?_
        obtain ⟨r13, m12, h11, hF⟩ := ob2_some hF
        refine cV_Wi C0 eM_st hP hS hK pkX9_finding (As := [.int (-100005)]) (rest := []) (kX9_finding l g ad mem (-100005) r13 m12 h11) mL_X9_110 ⟨rfl, rfl, Nat.le_of_ble_eq_true rfl, Nat.le_of_ble_eq_true rfl, Nat.le_of_ble_eq_true rfl, Nat.le_of_ble_eq_true rfl⟩ 0 wM_0 rfl rfl rfl hl.1 rfl (Nat.le_of_ble_eq_true rfl) dX9_key_44 (fun H locs _ hP hS => ?_)
        cases hF
        exact ret_Wi C0 hP hS trivial dX9_key_47
    · replace hF := (if_neg c8).symm.trans hF
      refine lv_aload_n hx hb dX9_key_25 rfl (lv_at hl 0 rfl) ?_
      refine lv_ldc hx hb hown (hts _ mK_X9_136) dX9_key_26 ?_
      obtain ⟨r16, m15, h14, hF⟩ := ob2_some hF
      refine cV_Wi C0 eM_st hP hS hK pkX9_finding (As := [.int (-100003)]) (rest := []) (kX9_finding l g ad mem (-100003) r16 m15 h14) mL_X9_110 ⟨rfl, rfl, Nat.le_of_ble_eq_true rfl, Nat.le_of_ble_eq_true rfl, Nat.le_of_ble_eq_true rfl, Nat.le_of_ble_eq_true rfl⟩ 0 wM_0 rfl rfl rfl hl.1 rfl (Nat.le_of_ble_eq_true rfl) dX9_key_28 (fun H locs _ hP hS => ?_)
      cases hF
      exact ret_Wi C0 hP hS trivial dX9_key_31
  · replace hF := (if_pos c4).symm.trans hF
    refine lv_aload_n hx hb dX9_key_10 rfl (lv_at hl 0 rfl) ?_
    refine lv_ldc hx hb hown (hts _ mK_X9_109) dX9_key_11 ?_
    obtain ⟨r19, m18, h17, hF⟩ := ob2_some hF
    refine cV_Wi C0 eM_st hP hS hK pkX9_finding (As := [.int (-100001)]) (rest := []) (kX9_finding l g ad mem (-100001) r19 m18 h17) mL_X9_110 ⟨rfl, rfl, Nat.le_of_ble_eq_true rfl, Nat.le_of_ble_eq_true rfl, Nat.le_of_ble_eq_true rfl, Nat.le_of_ble_eq_true rfl⟩ 0 wM_0 rfl rfl rfl hl.1 rfl (Nat.le_of_ble_eq_true rfl) dX9_key_13 (fun H locs _ hP hS => ?_)
    cases hF
    exact ret_Wi C0 hP hS trivial dX9_key_16
theorem pkX9_noKeys : pkV yX9_noKeys cX9_noKeys 2 (some .int) RX9 0 := ⟨mI_X9_noKeys, mS_X9_noKeys, mN_X9, mC_X9_noKeys, by decide +kernel⟩
def fX9_noKeys (mem : Mem) : Option (Int32 × Mem) :=
  some (mem 0 9, up2 mem 0 9 0)
set_option maxHeartbeats 4000000 in
set_option maxRecDepth 100000 in
theorem kX9_noKeys (l : Launch) (g : gG) (ad : Nat → Nat) (mem : Mem) (r : Int32) (mem2 : Mem) (hF : fX9_noKeys mem = some (r, mem2)) : Met l yX9_noKeys (Cond.code yX9_noKeys cX9_noKeys 2 (some .int) :: gw) { frames := 1, cells := 0, slots := 0, locals := 24 } (pG (wM g ad mem) (eM g ad) g [.ref (ad 0)]) (qW (wM g ad mem2) g (AW 29 ad) (some (.int r)) (True)) 0 0 (AW 29 ad) := by
  refine met_of (by decide) (Nat.le_of_ble_eq_true rfl) ?_
  intro p e s m args below meth c ls C0 hP hl
  obtain ⟨hx, hb, hml, hown, hts, hr, hlk, hE⟩ := id C0
  obtain ⟨hK, hA⟩ := id hE
  have hl : lv_has ls 2 [(0, .ref (ad 0))] := hl
  have hS : va_S (AW 29 ad) s.heap s.heap [] := va_S.rf
  unfold fX9_noKeys at hF
  refine lv_aload_n hx hb dX9_noKeys_0 rfl (lv_at hl 0 rfl) ?_
  refine get_W C0 hK hP iwX9 0 wM_0 rfl 9 (by decide) mF_X9_146 rfl rfl dX9_noKeys_1 ?_
  refine lv_istore_n (lv' := [(1, .int (mem 0 9)), (0, .ref (ad 0))]) hx hb dX9_noKeys_4 rfl hl (by decide) rfl (fun ls hl => ?_)
  refine lv_aload_n hx hb dX9_noKeys_5 rfl (lv_at hl 1 rfl) ?_
  refine lv_iconst (v := 0) hx hb dX9_noKeys_6 (by decide) ?_
  refine put_W (k := 9) C0 hK hP (wM_D hA) hS iwX9 tyX9_ok nmX9 0 wM_0 rfl (by decide) mF_X9_146 rfl rfl rfl rfl (Nat.le_of_ble_eq_true rfl) wM_s0_9 dX9_noKeys_7 (fun H locs hP hS => ?_)
  refine lv_iload_n hx hb dX9_noKeys_10 rfl (lv_at hl 0 rfl) ?_
  cases hF
  exact ret_Wi C0 hP hS trivial dX9_noKeys_11
theorem pkX9_rank : pkV yX9_rank cX9_rank 4 (some .int) RX9 2 := ⟨mI_X9_rank, mS_X9_rank, mN_X9, mC_X9_rank, by decide +kernel⟩
def fX9_rank (mem : Mem) (a1 : Int32) (a2 : Int32) : Option (Int32) :=
  gI a2 20 (if a1 = 1 then (gI a2 20 (if mem 7 a2.toNatClampNeg = 2 then (some 0) else (some 1))) else (if a1 = 2 then (gI a2 20 (if mem 7 a2.toNatClampNeg = 1 then (some 0) else (some 1))) else (if a1 = 3 then (gI (mem 6 a2.toNatClampNeg) 10 (if mem 5 (mem 6 a2.toNatClampNeg).toNatClampNeg = 0 then (some 0) else (some 1))) else (if a1 = 4 then (gI (mem 6 a2.toNatClampNeg) 10 (some (mem 5 (mem 6 a2.toNatClampNeg).toNatClampNeg))) else (if a1 = 5 then (gI (mem 6 a2.toNatClampNeg) 10 (some (mem 4 (mem 6 a2.toNatClampNeg).toNatClampNeg))) else (if a1 = 6 then (gI (mem 6 a2.toNatClampNeg) 10 (ob1 (fX9_timeOf mem (mem 2 (mem 6 a2.toNatClampNeg).toNatClampNeg)) (fun r18 => some r18))) else (if a1 = 7 then (gI (mem 6 a2.toNatClampNeg) 10 (if mem 2 (mem 6 a2.toNatClampNeg).toNatClampNeg = mem 0 11 then (some 1) else (some 0))) else (if a1 = 8 then (ob1 (fX9_isGuest mem (mem 6 a2.toNatClampNeg)) (fun r24 => if r24 = 0 then (some 0) else (some 1))) else (gI (mem 6 a2.toNatClampNeg) 10 (if mem 1 (mem 6 a2.toNatClampNeg).toNatClampNeg = 2 then (some 0) else (some 1)))))))))))
set_option maxHeartbeats 4000000 in
set_option maxRecDepth 100000 in
theorem kX9_rank (l : Launch) (g : gG) (ad : Nat → Nat) (mem : Mem) (a1 : Int32) (a2 : Int32) (r : Int32) (hF : fX9_rank mem a1 a2 = some r) : Met l yX9_rank (Cond.code yX9_rank cX9_rank 4 (some .int) :: gw) { frames := 2, cells := 0, slots := 0, locals := 47 } (pG (wM g ad mem) (eM g ad) g [.ref (ad 0), .int a1, .int a2]) (qR (some (.int r)) (True)) 0 0 noA := by
  refine met_of (by decide) (Nat.le_of_ble_eq_true rfl) ?_
  intro p e s m args below meth c ls C0 hP hl
  obtain ⟨hx, hb, hml, hown, hts, hr, hlk, hE⟩ := id C0
  obtain ⟨hK, hA⟩ := id hE
  have hl : lv_has ls 4 [(0, .ref (ad 0)), (1, .int a1), (2, .int a2)] := hl
  have hS : va_S (AW 29 ad) s.heap s.heap [] := va_S.rf
  unfold fX9_rank at hF
  refine lv_aload_n hx hb dX9_rank_0 rfl (lv_at hl 0 rfl) ?_
  refine get_W C0 hK hP iwX9 0 wM_0 rfl 7 (by decide) mF_X9_26 rfl rfl dX9_rank_1 ?_
  refine lv_iload_n hx hb dX9_rank_4 rfl (lv_at hl 2 rfl) ?_
  obtain ⟨g1, hF⟩ := gI_some hF
  refine va_iald hx hb hK hP 6 0 wM_6 rfl g1 dX9_rank_5 ?_
  refine lv_istore_n (lv' := [(3, .int (mem 6 a2.toNatClampNeg)), (0, .ref (ad 0)), (1, .int a1), (2, .int a2)]) hx hb dX9_rank_6 rfl hl (by decide) rfl (fun ls hl => ?_)
  refine lv_iload_n hx hb dX9_rank_7 rfl (lv_at hl 2 rfl) ?_
  by_cases c2 : a1 = 1
  · replace hF := (if_pos c2).symm.trans hF
    refine lv_tableIn (off := 48) (tgt := 56) hx hb dX9_rank_8 (by rw [c2]; decide) (by rw [c2]; decide) (by rw [c2]; rfl) (by decide) ?_
    refine lv_aload_n hx hb dX9_rank_56 rfl (lv_at hl 1 rfl) ?_
    refine get_W C0 hK hP iwX9 0 wM_0 rfl 8 (by decide) mF_X9_29 rfl rfl dX9_rank_57 ?_
    refine lv_iload_n hx hb dX9_rank_60 rfl (lv_at hl 3 rfl) ?_
    obtain ⟨g3, hF⟩ := gI_some hF
    refine va_iald hx hb hK hP 7 0 wM_7 rfl g3 dX9_rank_61 ?_
    refine lv_iconst (v := 2) hx hb dX9_rank_62 (by decide) ?_
    refine lv_icmp_ne (tgt := 70) hx hb dX9_rank_63 (by decide) (fun c4 => ?_) (fun c4 => ?_)
    · replace hF := (if_neg c4).symm.trans hF
      refine lv_iconst (v := 1) hx hb dX9_rank_70 (by decide) ?_
      cases hF
      exact ret_Ri C0 trivial dX9_rank_71
    · replace hF := (if_pos c4).symm.trans hF
      refine lv_iconst (v := 0) hx hb dX9_rank_66 (by decide) ?_
      refine lv_goto (tgt := 71) hx hb dX9_rank_67 (by decide) ?_
      cases hF
      exact ret_Ri C0 trivial dX9_rank_71
  replace hF := (if_neg c2).symm.trans hF
  by_cases c5 : a1 = 2
  · replace hF := (if_pos c5).symm.trans hF
    refine lv_tableIn (off := 64) (tgt := 72) hx hb dX9_rank_8 (by rw [c5]; decide) (by rw [c5]; decide) (by rw [c5]; rfl) (by decide) ?_
    refine lv_aload_n hx hb dX9_rank_72 rfl (lv_at hl 1 rfl) ?_
    refine get_W C0 hK hP iwX9 0 wM_0 rfl 8 (by decide) mF_X9_29 rfl rfl dX9_rank_73 ?_
    refine lv_iload_n hx hb dX9_rank_76 rfl (lv_at hl 3 rfl) ?_
    obtain ⟨g6, hF⟩ := gI_some hF
    refine va_iald hx hb hK hP 7 0 wM_7 rfl g6 dX9_rank_77 ?_
    refine lv_iconst (v := 1) hx hb dX9_rank_78 (by decide) ?_
    refine lv_icmp_ne (tgt := 86) hx hb dX9_rank_79 (by decide) (fun c7 => ?_) (fun c7 => ?_)
    · replace hF := (if_neg c7).symm.trans hF
      refine lv_iconst (v := 1) hx hb dX9_rank_86 (by decide) ?_
      cases hF
      exact ret_Ri C0 trivial dX9_rank_87
    · replace hF := (if_pos c7).symm.trans hF
      refine lv_iconst (v := 0) hx hb dX9_rank_82 (by decide) ?_
      refine lv_goto (tgt := 87) hx hb dX9_rank_83 (by decide) ?_
      cases hF
      exact ret_Ri C0 trivial dX9_rank_87
  replace hF := (if_neg c5).symm.trans hF
  by_cases c8 : a1 = 3
  · replace hF := (if_pos c8).symm.trans hF
    refine lv_tableIn (off := 80) (tgt := 88) hx hb dX9_rank_8 (by rw [c8]; decide) (by rw [c8]; decide) (by rw [c8]; rfl) (by decide) ?_
    refine lv_aload_n hx hb dX9_rank_88 rfl (lv_at hl 1 rfl) ?_
    refine get_W C0 hK hP iwX9 0 wM_0 rfl 5 (by decide) mF_X9_23 rfl rfl dX9_rank_89 ?_
    refine lv_iload_n hx hb dX9_rank_92 rfl (lv_at hl 0 rfl) ?_
    obtain ⟨g9, hF⟩ := gI_some hF
    refine va_iald hx hb hK hP 5 0 wM_5 rfl g9 dX9_rank_93 ?_
    refine lv_if_ne (tgt := 101) hx hb dX9_rank_94 (by decide) (fun c10 => ?_) (fun c10 => ?_)
    · replace hF := (if_neg c10).symm.trans hF
      refine lv_iconst (v := 1) hx hb dX9_rank_101 (by decide) ?_
      cases hF
      exact ret_Ri C0 trivial dX9_rank_102
    · replace hF := (if_pos c10).symm.trans hF
      refine lv_iconst (v := 0) hx hb dX9_rank_97 (by decide) ?_
      refine lv_goto (tgt := 102) hx hb dX9_rank_98 (by decide) ?_
      cases hF
      exact ret_Ri C0 trivial dX9_rank_102
  replace hF := (if_neg c8).symm.trans hF
  by_cases c11 : a1 = 4
  · replace hF := (if_pos c11).symm.trans hF
    refine lv_tableIn (off := 95) (tgt := 103) hx hb dX9_rank_8 (by rw [c11]; decide) (by rw [c11]; decide) (by rw [c11]; rfl) (by decide) ?_
    refine lv_aload_n hx hb dX9_rank_103 rfl (lv_at hl 1 rfl) ?_
    refine get_W C0 hK hP iwX9 0 wM_0 rfl 5 (by decide) mF_X9_23 rfl rfl dX9_rank_104 ?_
    refine lv_iload_n hx hb dX9_rank_107 rfl (lv_at hl 0 rfl) ?_
    obtain ⟨g12, hF⟩ := gI_some hF
    refine va_iald hx hb hK hP 5 0 wM_5 rfl g12 dX9_rank_108 ?_
    cases hF
    exact ret_Ri C0 trivial dX9_rank_109
  replace hF := (if_neg c11).symm.trans hF
  by_cases c13 : a1 = 5
  · replace hF := (if_pos c13).symm.trans hF
    refine lv_tableIn (off := 102) (tgt := 110) hx hb dX9_rank_8 (by rw [c13]; decide) (by rw [c13]; decide) (by rw [c13]; rfl) (by decide) ?_
    refine lv_aload_n hx hb dX9_rank_110 rfl (lv_at hl 1 rfl) ?_
    refine get_W C0 hK hP iwX9 0 wM_0 rfl 4 (by decide) mF_X9_20 rfl rfl dX9_rank_111 ?_
    refine lv_iload_n hx hb dX9_rank_114 rfl (lv_at hl 0 rfl) ?_
    obtain ⟨g14, hF⟩ := gI_some hF
    refine va_iald hx hb hK hP 4 0 wM_4 rfl g14 dX9_rank_115 ?_
    cases hF
    exact ret_Ri C0 trivial dX9_rank_116
  replace hF := (if_neg c13).symm.trans hF
  by_cases c15 : a1 = 6
  · replace hF := (if_pos c15).symm.trans hF
    refine lv_tableIn (off := 109) (tgt := 117) hx hb dX9_rank_8 (by rw [c15]; decide) (by rw [c15]; decide) (by rw [c15]; rfl) (by decide) ?_
    refine lv_aload_n hx hb dX9_rank_117 rfl (lv_at hl 1 rfl) ?_
    refine lv_aload_n hx hb dX9_rank_118 rfl (lv_at hl 1 rfl) ?_
    refine get_W C0 hK hP iwX9 0 wM_0 rfl 2 (by decide) mF_X9_13 rfl rfl dX9_rank_119 ?_
    refine lv_iload_n hx hb dX9_rank_122 rfl (lv_at hl 0 rfl) ?_
    obtain ⟨g16, hF⟩ := gI_some hF
    refine va_iald hx hb hK hP 2 0 wM_2 rfl g16 dX9_rank_123 ?_
    obtain ⟨r18, h17, hF⟩ := ob_some hF
    refine cV_Ri C0 eM_st hP hS hK pkX9_timeOf (As := [.int (mem 2 (mem 6 a2.toNatClampNeg).toNatClampNeg)]) (rest := []) (kX9_timeOf l g ad mem (mem 2 (mem 6 a2.toNatClampNeg).toNatClampNeg) r18 h17) mL_X9_123 ⟨rfl, rfl, Nat.le_of_ble_eq_true rfl, Nat.le_of_ble_eq_true rfl, Nat.le_of_ble_eq_true rfl, Nat.le_of_ble_eq_true rfl⟩ 0 wM_0 rfl rfl rfl hl.1 rfl (Nat.le_of_ble_eq_true rfl) dX9_rank_124 (fun _ => ?_)
    cases hF
    exact ret_Ri C0 trivial dX9_rank_127
  replace hF := (if_neg c15).symm.trans hF
  by_cases c19 : a1 = 7
  · replace hF := (if_pos c19).symm.trans hF
    refine lv_tableIn (off := 120) (tgt := 128) hx hb dX9_rank_8 (by rw [c19]; decide) (by rw [c19]; decide) (by rw [c19]; rfl) (by decide) ?_
    refine lv_aload_n hx hb dX9_rank_128 rfl (lv_at hl 1 rfl) ?_
    refine get_W C0 hK hP iwX9 0 wM_0 rfl 2 (by decide) mF_X9_13 rfl rfl dX9_rank_129 ?_
    refine lv_iload_n hx hb dX9_rank_132 rfl (lv_at hl 0 rfl) ?_
    obtain ⟨g20, hF⟩ := gI_some hF
    refine va_iald hx hb hK hP 2 0 wM_2 rfl g20 dX9_rank_133 ?_
    refine lv_aload_n hx hb dX9_rank_134 rfl (lv_at hl 1 rfl) ?_
    refine get_W C0 hK hP iwX9 0 wM_0 rfl 11 (by decide) mF_X9_35 rfl rfl dX9_rank_135 ?_
    refine lv_icmp_ne (tgt := 145) hx hb dX9_rank_138 (by decide) (fun c21 => ?_) (fun c21 => ?_)
    · replace hF := (if_neg c21).symm.trans hF
      refine lv_iconst (v := 0) hx hb dX9_rank_145 (by decide) ?_
      cases hF
      exact ret_Ri C0 trivial dX9_rank_146
    · replace hF := (if_pos c21).symm.trans hF
      refine lv_iconst (v := 1) hx hb dX9_rank_141 (by decide) ?_
      refine lv_goto (tgt := 146) hx hb dX9_rank_142 (by decide) ?_
      cases hF
      exact ret_Ri C0 trivial dX9_rank_146
  replace hF := (if_neg c19).symm.trans hF
  by_cases c22 : a1 = 8
  · replace hF := (if_pos c22).symm.trans hF
    refine lv_tableIn (off := 139) (tgt := 147) hx hb dX9_rank_8 (by rw [c22]; decide) (by rw [c22]; decide) (by rw [c22]; rfl) (by decide) ?_
    refine lv_aload_n hx hb dX9_rank_147 rfl (lv_at hl 1 rfl) ?_
    refine lv_iload_n hx hb dX9_rank_148 rfl (lv_at hl 0 rfl) ?_
    obtain ⟨r24, h23, hF⟩ := ob_some hF
    refine cV_Ri C0 eM_st hP hS hK pkX9_isGuest (As := [.int (mem 6 a2.toNatClampNeg)]) (rest := []) (kX9_isGuest l g ad mem (mem 6 a2.toNatClampNeg) r24 h23) mL_X9_119 ⟨rfl, rfl, Nat.le_of_ble_eq_true rfl, Nat.le_of_ble_eq_true rfl, Nat.le_of_ble_eq_true rfl, Nat.le_of_ble_eq_true rfl⟩ 0 wM_0 rfl rfl rfl hl.1 rfl (Nat.le_of_ble_eq_true rfl) dX9_rank_149 (fun b25 => ?_)
    refine lv_if_eq (tgt := 159) hx hb dX9_rank_152 (by decide) (fun c26 => ?_) (fun c26 => ?_)
    · replace hF := (if_pos c26).symm.trans hF
      refine lv_iconst (v := 0) hx hb dX9_rank_159 (by decide) ?_
      cases hF
      exact ret_Ri C0 trivial dX9_rank_160
    · replace hF := (if_neg c26).symm.trans hF
      refine lv_iconst (v := 1) hx hb dX9_rank_155 (by decide) ?_
      refine lv_goto (tgt := 160) hx hb dX9_rank_156 (by decide) ?_
      cases hF
      exact ret_Ri C0 trivial dX9_rank_160
  replace hF := (if_neg c22).symm.trans hF
  have tc2 := ne_toInt c2 (k := 1) rfl
  have tc5 := ne_toInt c5 (k := 2) rfl
  have tc8 := ne_toInt c8 (k := 3) rfl
  have tc11 := ne_toInt c11 (k := 4) rfl
  have tc13 := ne_toInt c13 (k := 5) rfl
  have tc15 := ne_toInt c15 (k := 6) rfl
  have tc19 := ne_toInt c19 (k := 7) rfl
  have tc22 := ne_toInt c22 (k := 8) rfl
  refine lv_tableOut (tgt := 161) hx hb dX9_rank_8 (by omega) (by decide) ?_
  refine lv_aload_n hx hb dX9_rank_161 rfl (lv_at hl 1 rfl) ?_
  refine get_W C0 hK hP iwX9 0 wM_0 rfl 1 (by decide) mF_X9_7 rfl rfl dX9_rank_162 ?_
  refine lv_iload_n hx hb dX9_rank_165 rfl (lv_at hl 0 rfl) ?_
  obtain ⟨g27, hF⟩ := gI_some hF
  refine va_iald hx hb hK hP 1 0 wM_1 rfl g27 dX9_rank_166 ?_
  refine lv_iconst (v := 2) hx hb dX9_rank_167 (by decide) ?_
  refine lv_icmp_ne (tgt := 175) hx hb dX9_rank_168 (by decide) (fun c28 => ?_) (fun c28 => ?_)
  · replace hF := (if_neg c28).symm.trans hF
    refine lv_iconst (v := 1) hx hb dX9_rank_175 (by decide) ?_
    cases hF
    exact ret_Ri C0 trivial dX9_rank_176
  · replace hF := (if_pos c28).symm.trans hF
    refine lv_iconst (v := 0) hx hb dX9_rank_171 (by decide) ?_
    refine lv_goto (tgt := 176) hx hb dX9_rank_172 (by decide) ?_
    cases hF
    exact ret_Ri C0 trivial dX9_rank_176
theorem pkX9_isAhead : pkV yX9_isAhead cX9_isAhead 6 (some .boolean) RX9 2 := ⟨mI_X9_isAhead, mS_X9_isAhead, mN_X9, mC_X9_isAhead, by decide +kernel⟩
def fX9_isAhead_2 (mem : Mem) (z1 : Int32) (z2 : Int32) : Nat → Int32 → Option (Int32)
  | 0, _ => none
  | n + 1, x3 =>
    if mem 0 9 ≤ x3 then (if z2 ≤ z1 then (some 0) else (some 1)) else (gI x3 6 (ob1 (fX9_rank mem (mem 8 x3.toNatClampNeg) z1) (fun r5 => gI x3 6 (ob1 (fX9_rank mem (mem 8 x3.toNatClampNeg) z2) (fun r8 => if r5 = r8 then (fX9_isAhead_2 mem z1 z2 n (x3 + 1)) else (if r8 ≤ r5 then (some 0) else (some 1)))))))
set_option maxHeartbeats 4000000 in
set_option maxRecDepth 100000 in
theorem lpX9_isAhead_2 {p : Program} {l : Launch} {e : Env} {s : State} {m : MethodId} {args : Array Value} {below : List Frame} {meth : Method} {c : Code} (g : gG) (ad : Nat → Nat) (mem : Mem) (z1 : Int32) (z2 : Int32) (r : Int32) (C0 : cxt (eM g ad) cX9_isAhead 6 RX9 (some .boolean) p s m args meth c) (hP : va_P g.1 vwCl (wM g ad mem) s.heap) :
    ∀ (n : Nat) (x3 : Int32) (ls : Array Slot), fX9_isAhead_2 mem z1 z2 n x3 = some r → lv_has ls 6 [(0, .ref (ad 0)), (1, .int z1), (2, .int z2), (3, .int x3)] → W p l e { frames := 3, cells := 0, slots := 0, locals := 70 } s m args below meth c s.heap [] 0 0 (MQ below (qR (some (.int r)) (isB r)) args s 0 0 noA) (F0 m 2 ls []) := by
  obtain ⟨hx, hb, hml, hown, hts, hr, hlk, hE⟩ := id C0
  obtain ⟨hK, hA⟩ := id hE
  intro n
  induction n with
  | zero =>
    intro x3 ls hF hl
    cases hF
  | succ n ih =>
    intro x3 ls hF hl
    rw [fX9_isAhead_2] at hF
    have hS : va_S (AW 29 ad) s.heap s.heap [] := va_S.rf
    refine lv_iload_n hx hb dX9_isAhead_2 rfl (lv_at hl 3 rfl) ?_
    refine lv_aload_n hx hb dX9_isAhead_3 rfl (lv_at hl 0 rfl) ?_
    refine get_W C0 hK hP iwX9 0 wM_0 rfl 9 (by decide) mF_X9_146 rfl rfl dX9_isAhead_4 ?_
    refine lv_icmp_ge (tgt := 62) hx hb dX9_isAhead_7 (by decide) (fun c1 => ?_) (fun c1 => ?_)
    · replace hF := (if_pos c1).symm.trans hF
      refine lv_iload_n hx hb dX9_isAhead_62 rfl (lv_at hl 1 rfl) ?_
      refine lv_iload_n hx hb dX9_isAhead_63 rfl (lv_at hl 2 rfl) ?_
      refine lv_icmp_ge (tgt := 71) hx hb dX9_isAhead_64 (by decide) (fun c2 => ?_) (fun c2 => ?_)
      · replace hF := (if_pos c2).symm.trans hF
        refine lv_iconst (v := 0) hx hb dX9_isAhead_71 (by decide) ?_
        cases hF
        exact ret_Rz C0 (Or.inl rfl) (Or.inl rfl) dX9_isAhead_72
      · replace hF := (if_neg c2).symm.trans hF
        refine lv_iconst (v := 1) hx hb dX9_isAhead_67 (by decide) ?_
        refine lv_goto (tgt := 72) hx hb dX9_isAhead_68 (by decide) ?_
        cases hF
        exact ret_Rz C0 (Or.inr rfl) (Or.inr rfl) dX9_isAhead_72
    · replace hF := (if_neg c1).symm.trans hF
      refine lv_aload_n hx hb dX9_isAhead_10 rfl (lv_at hl 0 rfl) ?_
      refine lv_aload_n hx hb dX9_isAhead_11 rfl (lv_at hl 0 rfl) ?_
      refine get_W C0 hK hP iwX9 0 wM_0 rfl 10 (by decide) mF_X9_32 rfl rfl dX9_isAhead_12 ?_
      refine lv_iload_n hx hb dX9_isAhead_15 rfl (lv_at hl 3 rfl) ?_
      obtain ⟨g3, hF⟩ := gI_some hF
      refine va_iald hx hb hK hP 8 0 wM_8 rfl g3 dX9_isAhead_16 ?_
      refine lv_iload_n hx hb dX9_isAhead_17 rfl (lv_at hl 1 rfl) ?_
      obtain ⟨r5, h4, hF⟩ := ob_some hF
      refine cV_Ri C0 eM_st hP hS hK pkX9_rank (As := [.int (mem 8 x3.toNatClampNeg), .int z1]) (rest := []) (kX9_rank l g ad mem (mem 8 x3.toNatClampNeg) z1 r5 h4) mL_X9_152 ⟨rfl, rfl, Nat.le_of_ble_eq_true rfl, Nat.le_of_ble_eq_true rfl, Nat.le_of_ble_eq_true rfl, Nat.le_of_ble_eq_true rfl⟩ 0 wM_0 rfl rfl rfl hl.1 rfl (Nat.le_of_ble_eq_true rfl) dX9_isAhead_18 (fun _ => ?_)
      refine lv_istore (lv' := [(4, .int r5), (0, .ref (ad 0)), (1, .int z1), (2, .int z2), (3, .int x3)]) hx hb dX9_isAhead_21 hl (by decide) rfl (fun ls hl => ?_)
      refine lv_aload_n hx hb dX9_isAhead_23 rfl (lv_at hl 1 rfl) ?_
      refine lv_aload_n hx hb dX9_isAhead_24 rfl (lv_at hl 1 rfl) ?_
      refine get_W C0 hK hP iwX9 0 wM_0 rfl 10 (by decide) mF_X9_32 rfl rfl dX9_isAhead_25 ?_
      refine lv_iload_n hx hb dX9_isAhead_28 rfl (lv_at hl 4 rfl) ?_
      obtain ⟨g6, hF⟩ := gI_some hF
      refine va_iald hx hb hK hP 8 0 wM_8 rfl g6 dX9_isAhead_29 ?_
      refine lv_iload_n hx hb dX9_isAhead_30 rfl (lv_at hl 3 rfl) ?_
      obtain ⟨r8, h7, hF⟩ := ob_some hF
      refine cV_Ri C0 eM_st hP hS hK pkX9_rank (As := [.int (mem 8 x3.toNatClampNeg), .int z2]) (rest := []) (kX9_rank l g ad mem (mem 8 x3.toNatClampNeg) z2 r8 h7) mL_X9_152 ⟨rfl, rfl, Nat.le_of_ble_eq_true rfl, Nat.le_of_ble_eq_true rfl, Nat.le_of_ble_eq_true rfl, Nat.le_of_ble_eq_true rfl⟩ 0 wM_0 rfl rfl rfl hl.1 rfl (Nat.le_of_ble_eq_true rfl) dX9_isAhead_31 (fun _ => ?_)
      refine lv_istore (lv' := [(5, .int r8), (4, .int r5), (0, .ref (ad 0)), (1, .int z1), (2, .int z2), (3, .int x3)]) hx hb dX9_isAhead_34 hl (by decide) rfl (fun ls hl => ?_)
      refine lv_iload hx hb dX9_isAhead_36 (lv_at hl 1 rfl) ?_
      refine lv_iload hx hb dX9_isAhead_38 (lv_at hl 0 rfl) ?_
      refine lv_icmp_eq (tgt := 56) hx hb dX9_isAhead_40 (by decide) (fun c9 => ?_) (fun c9 => ?_)
      · replace hF := (if_pos c9).symm.trans hF
        refine lv_iinc (v := x3 + 1) (lv' := [(3, .int (x3 + 1)), (5, .int r8), (4, .int r5), (0, .ref (ad 0)), (1, .int z1), (2, .int z2)]) hx hb dX9_isAhead_56 hl (k := 5) rfl rfl (by decide) rfl (fun ls hl => ?_)
        refine lv_goto (tgt := 2) hx hb dX9_isAhead_59 (by decide) ?_
        exact ih (x3 + 1) ls hF (lv_sub hl [3, 4, 5, 0] rfl)
      · replace hF := (if_neg c9).symm.trans hF
        refine lv_iload hx hb dX9_isAhead_43 (lv_at hl 1 rfl) ?_
        refine lv_iload hx hb dX9_isAhead_45 (lv_at hl 0 rfl) ?_
        refine lv_icmp_ge (tgt := 54) hx hb dX9_isAhead_47 (by decide) (fun c10 => ?_) (fun c10 => ?_)
        · replace hF := (if_pos c10).symm.trans hF
          refine lv_iconst (v := 0) hx hb dX9_isAhead_54 (by decide) ?_
          cases hF
          exact ret_Rz C0 (Or.inl rfl) (Or.inl rfl) dX9_isAhead_55
        · replace hF := (if_neg c10).symm.trans hF
          refine lv_iconst (v := 1) hx hb dX9_isAhead_50 (by decide) ?_
          refine lv_goto (tgt := 55) hx hb dX9_isAhead_51 (by decide) ?_
          cases hF
          exact ret_Rz C0 (Or.inr rfl) (Or.inr rfl) dX9_isAhead_55
def fX9_isAhead (mem : Mem) (a1 : Int32) (a2 : Int32) : Option (Int32) :=
  fX9_isAhead_2 mem a1 a2 fu 0
set_option maxHeartbeats 4000000 in
set_option maxRecDepth 100000 in
theorem kX9_isAhead (l : Launch) (g : gG) (ad : Nat → Nat) (mem : Mem) (a1 : Int32) (a2 : Int32) (r : Int32) (hF : fX9_isAhead mem a1 a2 = some r) : Met l yX9_isAhead (Cond.code yX9_isAhead cX9_isAhead 6 (some .boolean) :: gw) { frames := 3, cells := 0, slots := 0, locals := 70 } (pG (wM g ad mem) (eM g ad) g [.ref (ad 0), .int a1, .int a2]) (qR (some (.int r)) (isB r)) 0 0 noA := by
  refine met_of (by decide) (Nat.le_of_ble_eq_true rfl) ?_
  intro p e s m args below meth c ls C0 hP hl
  obtain ⟨hx, hb, hml, hown, hts, hr, hlk, hE⟩ := id C0
  obtain ⟨hK, hA⟩ := id hE
  have hl : lv_has ls 6 [(0, .ref (ad 0)), (1, .int a1), (2, .int a2)] := hl
  have hS : va_S (AW 29 ad) s.heap s.heap [] := va_S.rf
  unfold fX9_isAhead at hF
  refine lv_iconst (v := 0) hx hb dX9_isAhead_0 (by decide) ?_
  refine lv_istore_n (lv' := [(3, .int 0), (0, .ref (ad 0)), (1, .int a1), (2, .int a2)]) hx hb dX9_isAhead_1 rfl hl (by decide) rfl (fun ls hl => ?_)
  exact lpX9_isAhead_2 g ad mem a1 a2 r C0 hP fu 0 ls hF (lv_sub hl [1, 2, 3, 0] rfl)
theorem pkX9_tellList : pkV yX9_tellList cX9_tellList 3 (none) RX9 0 := ⟨mI_X9_tellList, mS_X9_tellList, mN_X9, mC_X9_tellList, by decide +kernel⟩
def fX9_tellList_34 (z1 : Int32) (kc : Mem → Int32 → Option (Mem)) : Nat → Mem → Int32 → Option (Mem)
  | 0, _, _ => none
  | n + 1, mem, x2 =>
    if x2 ≤ 0 then (gI x2 20 (kc (up2 (up2 mem 23 x2.toNatClampNeg z1) 0 33 (((up2 mem 23 x2.toNatClampNeg z1) 0 33) + 1)) (z1 + 1))) else (gI (x2 - 1) 20 (ob1 (fX9_isAhead mem z1 (mem 23 (x2 - 1).toNatClampNeg)) (fun r9 => if r9 = 0 then (gI x2 20 (kc (up2 (up2 mem 23 x2.toNatClampNeg z1) 0 33 (((up2 mem 23 x2.toNatClampNeg z1) 0 33) + 1)) (z1 + 1))) else (gI (x2 - 1) 20 (gI x2 20 (fX9_tellList_34 z1 kc n (up2 mem 23 x2.toNatClampNeg (mem 23 (x2 - 1).toNatClampNeg)) (x2 + (-1))))))))
set_option maxHeartbeats 4000000 in
set_option maxRecDepth 100000 in
theorem lpX9_tellList_34 {p : Program} {l : Launch} {e : Env} {s : State} {m : MethodId} {args : Array Value} {below : List Frame} {meth : Method} {c : Code} (g : gG) (ad : Nat → Nat) (z1 : Int32) (kc : Mem → Int32 → Option (Mem)) (mem2 : Mem) (C0 : cxt (eM g ad) cX9_tellList 3 RX9 (none) p s m args meth c)
    (hkc : ∀ (mem : Mem) (x1 : Int32) (H : Heap) (locs : List Loc) (ls : Array Slot), kc mem x1 = some mem2 → va_P g.1 vwCl (wM g ad mem) H → va_S (AW 29 ad) s.heap H locs → lv_has ls 3 [(0, .ref (ad 0)), (1, .int x1)] → W p l e { frames := 4, cells := 0, slots := 0, locals := 95 } s m args below meth c H locs 0 0 (MQ below (qW (wM g ad mem2) g (AW 29 ad) (none) (True)) args s 0 0 (AW 29 ad)) (F0 m 7 ls [])) :
    ∀ (n : Nat) (mem : Mem) (x2 : Int32) (H : Heap) (locs : List Loc) (ls : Array Slot), fX9_tellList_34 z1 kc n mem x2 = some mem2 → va_P g.1 vwCl (wM g ad mem) H → va_S (AW 29 ad) s.heap H locs → lv_has ls 3 [(0, .ref (ad 0)), (1, .int z1), (2, .int x2)] → W p l e { frames := 4, cells := 0, slots := 0, locals := 95 } s m args below meth c H locs 0 0 (MQ below (qW (wM g ad mem2) g (AW 29 ad) (none) (True)) args s 0 0 (AW 29 ad)) (F0 m 34 ls []) := by
  obtain ⟨hx, hb, hml, hown, hts, hr, hlk, hE⟩ := id C0
  obtain ⟨hK, hA⟩ := id hE
  intro n
  induction n with
  | zero =>
    intro mem x2 H locs ls hF hP hS hl
    cases hF
  | succ n ih =>
    intro mem x2 H locs ls hF hP hS hl
    rw [fX9_tellList_34] at hF
    refine lv_iload_n hx hb dX9_tellList_34 rfl (lv_at hl 2 rfl) ?_
    refine lv_if_le (tgt := 74) hx hb dX9_tellList_35 (by decide) (fun c5 => ?_) (fun c5 => ?_)
    · replace hF := (if_pos c5).symm.trans hF
      refine lv_aload_n hx hb dX9_tellList_74 rfl (lv_at hl 0 rfl) ?_
      refine get_W C0 hK hP iwX9 0 wM_0 rfl 32 (by decide) mF_X9_81 rfl rfl dX9_tellList_75 ?_
      refine lv_iload_n hx hb dX9_tellList_78 rfl (lv_at hl 2 rfl) ?_
      refine lv_iload_n hx hb dX9_tellList_79 rfl (lv_at hl 1 rfl) ?_
      obtain ⟨g6, hF⟩ := gI_some hF
      refine iast_W C0 hK hP (wM_D hA) hS 23 wM_23 g6 wM_s23 dX9_tellList_80 (fun H locs hP hS => ?_)
      refine lv_aload_n hx hb dX9_tellList_81 rfl (lv_at hl 0 rfl) ?_
      refine lv_dup hx hb dX9_tellList_82 rfl ?_
      refine get_W C0 hK hP iwX9 0 wM_0 rfl 33 (by decide) mF_X9_155 rfl rfl dX9_tellList_83 ?_
      refine lv_iconst (v := 1) hx hb dX9_tellList_86 (by decide) ?_
      refine lv_iadd hx hb dX9_tellList_87 ?_
      refine put_W (k := 33) C0 hK hP (wM_D hA) hS iwX9 tyX9_ok nmX9 0 wM_0 rfl (by decide) mF_X9_155 rfl rfl rfl rfl (Nat.le_of_ble_eq_true rfl) wM_s0_33 dX9_tellList_88 (fun H locs hP hS => ?_)
      refine lv_iinc (v := z1 + 1) (lv' := [(1, .int (z1 + 1)), (0, .ref (ad 0)), (2, .int x2)]) hx hb dX9_tellList_91 hl (k := 1) rfl rfl (by decide) rfl (fun ls hl => ?_)
      refine lv_goto (tgt := 7) hx hb dX9_tellList_94 (by decide) ?_
      exact hkc (up2 (up2 mem 23 x2.toNatClampNeg z1) 0 33 (((up2 mem 23 x2.toNatClampNeg z1) 0 33) + 1)) (z1 + 1) _ _ ls hF hP hS (lv_sub hl [1, 0] rfl)
    · replace hF := (if_neg c5).symm.trans hF
      refine lv_aload_n hx hb dX9_tellList_38 rfl (lv_at hl 0 rfl) ?_
      refine lv_iload_n hx hb dX9_tellList_39 rfl (lv_at hl 1 rfl) ?_
      refine lv_aload_n hx hb dX9_tellList_40 rfl (lv_at hl 0 rfl) ?_
      refine get_W C0 hK hP iwX9 0 wM_0 rfl 32 (by decide) mF_X9_81 rfl rfl dX9_tellList_41 ?_
      refine lv_iload_n hx hb dX9_tellList_44 rfl (lv_at hl 2 rfl) ?_
      refine lv_iconst (v := 1) hx hb dX9_tellList_45 (by decide) ?_
      refine lv_isub hx hb dX9_tellList_46 ?_
      obtain ⟨g7, hF⟩ := gI_some hF
      refine va_iald hx hb hK hP 23 0 wM_23 rfl g7 dX9_tellList_47 ?_
      obtain ⟨r9, h8, hF⟩ := ob_some hF
      refine cV_Ri C0 eM_st hP hS hK pkX9_isAhead (As := [.int z1, .int (mem 23 (x2 - 1).toNatClampNeg)]) (rest := []) (kX9_isAhead l g ad mem z1 (mem 23 (x2 - 1).toNatClampNeg) r9 h8) mL_X9_158 ⟨rfl, rfl, Nat.le_of_ble_eq_true rfl, Nat.le_of_ble_eq_true rfl, Nat.le_of_ble_eq_true rfl, Nat.le_of_ble_eq_true rfl⟩ 0 wM_0 rfl rfl rfl hl.1 rfl (Nat.le_of_ble_eq_true rfl) dX9_tellList_48 (fun b10 => ?_)
      refine lv_if_eq (tgt := 74) hx hb dX9_tellList_51 (by decide) (fun c11 => ?_) (fun c11 => ?_)
      · replace hF := (if_pos c11).symm.trans hF
        refine lv_aload_n hx hb dX9_tellList_74 rfl (lv_at hl 0 rfl) ?_
        refine get_W C0 hK hP iwX9 0 wM_0 rfl 32 (by decide) mF_X9_81 rfl rfl dX9_tellList_75 ?_
        refine lv_iload_n hx hb dX9_tellList_78 rfl (lv_at hl 2 rfl) ?_
        refine lv_iload_n hx hb dX9_tellList_79 rfl (lv_at hl 1 rfl) ?_
        obtain ⟨g12, hF⟩ := gI_some hF
        refine iast_W C0 hK hP (wM_D hA) hS 23 wM_23 g12 wM_s23 dX9_tellList_80 (fun H locs hP hS => ?_)
        refine lv_aload_n hx hb dX9_tellList_81 rfl (lv_at hl 0 rfl) ?_
        refine lv_dup hx hb dX9_tellList_82 rfl ?_
        refine get_W C0 hK hP iwX9 0 wM_0 rfl 33 (by decide) mF_X9_155 rfl rfl dX9_tellList_83 ?_
        refine lv_iconst (v := 1) hx hb dX9_tellList_86 (by decide) ?_
        refine lv_iadd hx hb dX9_tellList_87 ?_
        refine put_W (k := 33) C0 hK hP (wM_D hA) hS iwX9 tyX9_ok nmX9 0 wM_0 rfl (by decide) mF_X9_155 rfl rfl rfl rfl (Nat.le_of_ble_eq_true rfl) wM_s0_33 dX9_tellList_88 (fun H locs hP hS => ?_)
        refine lv_iinc (v := z1 + 1) (lv' := [(1, .int (z1 + 1)), (0, .ref (ad 0)), (2, .int x2)]) hx hb dX9_tellList_91 hl (k := 1) rfl rfl (by decide) rfl (fun ls hl => ?_)
        refine lv_goto (tgt := 7) hx hb dX9_tellList_94 (by decide) ?_
        exact hkc (up2 (up2 mem 23 x2.toNatClampNeg z1) 0 33 (((up2 mem 23 x2.toNatClampNeg z1) 0 33) + 1)) (z1 + 1) _ _ ls hF hP hS (lv_sub hl [1, 0] rfl)
      · replace hF := (if_neg c11).symm.trans hF
        refine lv_aload_n hx hb dX9_tellList_54 rfl (lv_at hl 0 rfl) ?_
        refine get_W C0 hK hP iwX9 0 wM_0 rfl 32 (by decide) mF_X9_81 rfl rfl dX9_tellList_55 ?_
        refine lv_iload_n hx hb dX9_tellList_58 rfl (lv_at hl 2 rfl) ?_
        refine lv_aload_n hx hb dX9_tellList_59 rfl (lv_at hl 0 rfl) ?_
        refine get_W C0 hK hP iwX9 0 wM_0 rfl 32 (by decide) mF_X9_81 rfl rfl dX9_tellList_60 ?_
        refine lv_iload_n hx hb dX9_tellList_63 rfl (lv_at hl 2 rfl) ?_
        refine lv_iconst (v := 1) hx hb dX9_tellList_64 (by decide) ?_
        refine lv_isub hx hb dX9_tellList_65 ?_
        obtain ⟨g13, hF⟩ := gI_some hF
        refine va_iald hx hb hK hP 23 0 wM_23 rfl g13 dX9_tellList_66 ?_
        obtain ⟨g14, hF⟩ := gI_some hF
        refine iast_W C0 hK hP (wM_D hA) hS 23 wM_23 g14 wM_s23 dX9_tellList_67 (fun H locs hP hS => ?_)
        refine lv_iinc (v := x2 + (-1)) (lv' := [(2, .int (x2 + (-1))), (0, .ref (ad 0)), (1, .int z1)]) hx hb dX9_tellList_68 hl (k := 2) rfl rfl (by decide) rfl (fun ls hl => ?_)
        refine lv_goto (tgt := 34) hx hb dX9_tellList_71 (by decide) ?_
        exact ih (up2 mem 23 x2.toNatClampNeg (mem 23 (x2 - 1).toNatClampNeg)) (x2 + (-1)) _ _ ls hF hP hS (lv_sub hl [1, 2, 0] rfl)
def fX9_tellList_7 : Nat → Mem → Int32 → Option (Mem)
  | 0, _, _ => none
  | n + 1, mem, x1 =>
    if mem 0 6 ≤ x1 then (some mem) else (gI x1 20 (gI (mem 6 x1.toNatClampNeg) 10 (if mem 3 (mem 6 x1.toNatClampNeg).toNatClampNeg = 0 then (fX9_tellList_7 n mem (x1 + 1)) else (fX9_tellList_34 x1 (fX9_tellList_7 n) fu mem (mem 0 33)))))
set_option maxHeartbeats 4000000 in
set_option maxRecDepth 100000 in
theorem lpX9_tellList_7 {p : Program} {l : Launch} {e : Env} {s : State} {m : MethodId} {args : Array Value} {below : List Frame} {meth : Method} {c : Code} (g : gG) (ad : Nat → Nat) (mem2 : Mem) (C0 : cxt (eM g ad) cX9_tellList 3 RX9 (none) p s m args meth c) :
    ∀ (n : Nat) (mem : Mem) (x1 : Int32) (H : Heap) (locs : List Loc) (ls : Array Slot), fX9_tellList_7 n mem x1 = some mem2 → va_P g.1 vwCl (wM g ad mem) H → va_S (AW 29 ad) s.heap H locs → lv_has ls 3 [(0, .ref (ad 0)), (1, .int x1)] → W p l e { frames := 4, cells := 0, slots := 0, locals := 95 } s m args below meth c H locs 0 0 (MQ below (qW (wM g ad mem2) g (AW 29 ad) (none) (True)) args s 0 0 (AW 29 ad)) (F0 m 7 ls []) := by
  obtain ⟨hx, hb, hml, hown, hts, hr, hlk, hE⟩ := id C0
  obtain ⟨hK, hA⟩ := id hE
  intro n
  induction n with
  | zero =>
    intro mem x1 H locs ls hF hP hS hl
    cases hF
  | succ n ih =>
    intro mem x1 H locs ls hF hP hS hl
    rw [fX9_tellList_7] at hF
    refine lv_iload_n hx hb dX9_tellList_7 rfl (lv_at hl 1 rfl) ?_
    refine lv_aload_n hx hb dX9_tellList_8 rfl (lv_at hl 0 rfl) ?_
    refine get_W C0 hK hP iwX9 0 wM_0 rfl 6 (by decide) mF_X9_126 rfl rfl dX9_tellList_9 ?_
    refine lv_icmp_ge (tgt := 97) hx hb dX9_tellList_12 (by decide) (fun c1 => ?_) (fun c1 => ?_)
    · replace hF := (if_pos c1).symm.trans hF
      cases hF
      exact ret_Wv C0 hP hS trivial dX9_tellList_97
    · replace hF := (if_neg c1).symm.trans hF
      refine lv_aload_n hx hb dX9_tellList_15 rfl (lv_at hl 0 rfl) ?_
      refine get_W C0 hK hP iwX9 0 wM_0 rfl 3 (by decide) mF_X9_16 rfl rfl dX9_tellList_16 ?_
      refine lv_aload_n hx hb dX9_tellList_19 rfl (lv_at hl 0 rfl) ?_
      refine get_W C0 hK hP iwX9 0 wM_0 rfl 7 (by decide) mF_X9_26 rfl rfl dX9_tellList_20 ?_
      refine lv_iload_n hx hb dX9_tellList_23 rfl (lv_at hl 1 rfl) ?_
      obtain ⟨g2, hF⟩ := gI_some hF
      refine va_iald hx hb hK hP 6 0 wM_6 rfl g2 dX9_tellList_24 ?_
      obtain ⟨g3, hF⟩ := gI_some hF
      refine va_zald hx hb hK hP 3 1 wM_3 rfl g3 dX9_tellList_25 ?_
      refine lv_if_eq (tgt := 91) hx hb dX9_tellList_26 (by decide) (fun c4 => ?_) (fun c4 => ?_)
      · replace hF := (if_pos c4).symm.trans hF
        refine lv_iinc (v := x1 + 1) (lv' := [(1, .int (x1 + 1)), (0, .ref (ad 0))]) hx hb dX9_tellList_91 hl (k := 1) rfl rfl (by decide) rfl (fun ls hl => ?_)
        refine lv_goto (tgt := 7) hx hb dX9_tellList_94 (by decide) ?_
        exact ih mem (x1 + 1) _ _ ls hF hP hS (lv_sub hl [1, 0] rfl)
      · replace hF := (if_neg c4).symm.trans hF
        refine lv_aload_n hx hb dX9_tellList_29 rfl (lv_at hl 0 rfl) ?_
        refine get_W C0 hK hP iwX9 0 wM_0 rfl 33 (by decide) mF_X9_155 rfl rfl dX9_tellList_30 ?_
        refine lv_istore_n (lv' := [(2, .int (mem 0 33)), (0, .ref (ad 0)), (1, .int x1)]) hx hb dX9_tellList_33 rfl hl (by decide) rfl (fun ls hl => ?_)
        exact lpX9_tellList_34 g ad x1 (fX9_tellList_7 n) mem2 C0 ih fu mem (mem 0 33) _ _ ls hF hP hS (lv_sub hl [1, 2, 0] rfl)
def fX9_tellList (mem : Mem) : Option (Mem) :=
  fX9_tellList_7 fu (up2 mem 0 33 0) 0
set_option maxHeartbeats 4000000 in
set_option maxRecDepth 100000 in
theorem kX9_tellList (l : Launch) (g : gG) (ad : Nat → Nat) (mem : Mem) (mem2 : Mem) (hF : fX9_tellList mem = some mem2) : Met l yX9_tellList (Cond.code yX9_tellList cX9_tellList 3 (none) :: gw) { frames := 4, cells := 0, slots := 0, locals := 95 } (pG (wM g ad mem) (eM g ad) g [.ref (ad 0)]) (qW (wM g ad mem2) g (AW 29 ad) (none) (True)) 0 0 (AW 29 ad) := by
  refine met_of (by decide) (Nat.le_of_ble_eq_true rfl) ?_
  intro p e s m args below meth c ls C0 hP hl
  obtain ⟨hx, hb, hml, hown, hts, hr, hlk, hE⟩ := id C0
  obtain ⟨hK, hA⟩ := id hE
  have hl : lv_has ls 3 [(0, .ref (ad 0))] := hl
  have hS : va_S (AW 29 ad) s.heap s.heap [] := va_S.rf
  unfold fX9_tellList at hF
  refine lv_aload_n hx hb dX9_tellList_0 rfl (lv_at hl 0 rfl) ?_
  refine lv_iconst (v := 0) hx hb dX9_tellList_1 (by decide) ?_
  refine put_W (k := 33) C0 hK hP (wM_D hA) hS iwX9 tyX9_ok nmX9 0 wM_0 rfl (by decide) mF_X9_155 rfl rfl rfl rfl (Nat.le_of_ble_eq_true rfl) wM_s0_33 dX9_tellList_2 (fun H locs hP hS => ?_)
  refine lv_iconst (v := 0) hx hb dX9_tellList_5 (by decide) ?_
  refine lv_istore_n (lv' := [(1, .int 0), (0, .ref (ad 0))]) hx hb dX9_tellList_6 rfl hl (by decide) rfl (fun ls hl => ?_)
  exact lpX9_tellList_7 g ad mem2 C0 fu (up2 mem 0 33 0) 0 _ _ ls hF hP hS (lv_sub hl [1, 0] rfl)
theorem pkX9_listed : pkV yX9_listed cX9_listed 3 (some .int) RX9 2 := ⟨mI_X9_listed, mS_X9_listed, mN_X9, mC_X9_listed, by decide +kernel⟩
def fX9_listed (mem : Mem) (a1 : Int32) (a2 : Int32) : Option (Int32 × Mem) :=
  ob1 (fX9_tellList mem) (fun m2 => if a1 < 0 then (ob2 (fX9_finding m2 (-100006)) (fun r6 m5 => some (r6, m5))) else (if a1 < m2 0 33 then (if a2 = 0 then (gI a1 20 (gI (m2 23 a1.toNatClampNeg) 20 (some (m2 6 (m2 23 a1.toNatClampNeg).toNatClampNeg, m2)))) else (gI a1 20 (gI (m2 23 a1.toNatClampNeg) 20 (some (m2 7 (m2 23 a1.toNatClampNeg).toNatClampNeg, m2))))) else (ob2 (fX9_finding m2 (-100006)) (fun r15 m14 => some (r15, m14)))))
set_option maxHeartbeats 4000000 in
set_option maxRecDepth 100000 in
theorem kX9_listed (l : Launch) (g : gG) (ad : Nat → Nat) (mem : Mem) (a1 : Int32) (a2 : Int32) (r : Int32) (mem2 : Mem) (hF : fX9_listed mem a1 a2 = some (r, mem2)) : Met l yX9_listed (Cond.code yX9_listed cX9_listed 3 (some .int) :: gw) { frames := 5, cells := 0, slots := 0, locals := 117 } (pG (wM g ad mem) (eM g ad) g [.ref (ad 0), .int a1, .int a2]) (qW (wM g ad mem2) g (AW 29 ad) (some (.int r)) (True)) 0 0 (AW 29 ad) := by
  refine met_of (by decide) (Nat.le_of_ble_eq_true rfl) ?_
  intro p e s m args below meth c ls C0 hP hl
  obtain ⟨hx, hb, hml, hown, hts, hr, hlk, hE⟩ := id C0
  obtain ⟨hK, hA⟩ := id hE
  have hl : lv_has ls 3 [(0, .ref (ad 0)), (1, .int a1), (2, .int a2)] := hl
  have hS : va_S (AW 29 ad) s.heap s.heap [] := va_S.rf
  unfold fX9_listed at hF
  refine lv_aload_n hx hb dX9_listed_0 rfl (lv_at hl 0 rfl) ?_
  obtain ⟨m2, h1, hF⟩ := ob_some hF
  refine cV_Wv C0 eM_st hP hS hK pkX9_tellList (As := []) (rest := []) (kX9_tellList l g ad mem m2 h1) mL_X9_162 ⟨rfl, rfl, Nat.le_of_ble_eq_true rfl, Nat.le_of_ble_eq_true rfl, Nat.le_of_ble_eq_true rfl, Nat.le_of_ble_eq_true rfl⟩ 0 wM_0 rfl rfl rfl hl.1 rfl (Nat.le_of_ble_eq_true rfl) dX9_listed_1 (fun H locs _ hP hS => ?_)
  refine lv_iload_n hx hb dX9_listed_4 rfl (lv_at hl 1 rfl) ?_
  refine lv_if_lt (tgt := 16) hx hb dX9_listed_5 (by decide) (fun c3 => ?_) (fun c3 => ?_)
  · replace hF := (if_pos c3).symm.trans hF
    refine lv_aload_n hx hb dX9_listed_16 rfl (lv_at hl 0 rfl) ?_
    refine lv_ldc hx hb hown (hts _ mK_X9_141) dX9_listed_17 ?_
    obtain ⟨r6, m5, h4, hF⟩ := ob2_some hF
    refine cV_Wi C0 eM_st hP hS hK pkX9_finding (As := [.int (-100006)]) (rest := []) (kX9_finding l g ad m2 (-100006) r6 m5 h4) mL_X9_110 ⟨rfl, rfl, Nat.le_of_ble_eq_true rfl, Nat.le_of_ble_eq_true rfl, Nat.le_of_ble_eq_true rfl, Nat.le_of_ble_eq_true rfl⟩ 0 wM_0 rfl rfl rfl hl.1 rfl (Nat.le_of_ble_eq_true rfl) dX9_listed_19 (fun H locs _ hP hS => ?_)
    cases hF
    exact ret_Wi C0 hP hS trivial dX9_listed_22
  · replace hF := (if_neg c3).symm.trans hF
    refine lv_iload_n hx hb dX9_listed_8 rfl (lv_at hl 1 rfl) ?_
    refine lv_aload_n hx hb dX9_listed_9 rfl (lv_at hl 0 rfl) ?_
    refine get_W C0 hK hP iwX9 0 wM_0 rfl 33 (by decide) mF_X9_155 rfl rfl dX9_listed_10 ?_
    refine lv_icmp_lt (tgt := 23) hx hb dX9_listed_13 (by decide) (fun c7 => ?_) (fun c7 => ?_)
    · replace hF := (if_pos c7).symm.trans hF
      refine lv_iload_n hx hb dX9_listed_23 rfl (lv_at hl 2 rfl) ?_
      refine lv_if_eq (tgt := 41) hx hb dX9_listed_24 (by decide) (fun c8 => ?_) (fun c8 => ?_)
      · replace hF := (if_pos c8).symm.trans hF
        refine lv_aload_n hx hb dX9_listed_41 rfl (lv_at hl 0 rfl) ?_
        refine get_W C0 hK hP iwX9 0 wM_0 rfl 7 (by decide) mF_X9_26 rfl rfl dX9_listed_42 ?_
        refine lv_aload_n hx hb dX9_listed_45 rfl (lv_at hl 0 rfl) ?_
        refine get_W C0 hK hP iwX9 0 wM_0 rfl 32 (by decide) mF_X9_81 rfl rfl dX9_listed_46 ?_
        refine lv_iload_n hx hb dX9_listed_49 rfl (lv_at hl 1 rfl) ?_
        obtain ⟨g9, hF⟩ := gI_some hF
        refine va_iald hx hb hK hP 23 0 wM_23 rfl g9 dX9_listed_50 ?_
        obtain ⟨g10, hF⟩ := gI_some hF
        refine va_iald hx hb hK hP 6 0 wM_6 rfl g10 dX9_listed_51 ?_
        cases hF
        exact ret_Wi C0 hP hS trivial dX9_listed_52
      · replace hF := (if_neg c8).symm.trans hF
        refine lv_aload_n hx hb dX9_listed_27 rfl (lv_at hl 0 rfl) ?_
        refine get_W C0 hK hP iwX9 0 wM_0 rfl 8 (by decide) mF_X9_29 rfl rfl dX9_listed_28 ?_
        refine lv_aload_n hx hb dX9_listed_31 rfl (lv_at hl 0 rfl) ?_
        refine get_W C0 hK hP iwX9 0 wM_0 rfl 32 (by decide) mF_X9_81 rfl rfl dX9_listed_32 ?_
        refine lv_iload_n hx hb dX9_listed_35 rfl (lv_at hl 1 rfl) ?_
        obtain ⟨g11, hF⟩ := gI_some hF
        refine va_iald hx hb hK hP 23 0 wM_23 rfl g11 dX9_listed_36 ?_
        obtain ⟨g12, hF⟩ := gI_some hF
        refine va_iald hx hb hK hP 7 0 wM_7 rfl g12 dX9_listed_37 ?_
        refine lv_goto (tgt := 52) hx hb dX9_listed_38 (by decide) ?_
        cases hF
        exact ret_Wi C0 hP hS trivial dX9_listed_52
    · replace hF := (if_neg c7).symm.trans hF
      refine lv_aload_n hx hb dX9_listed_16 rfl (lv_at hl 0 rfl) ?_
      refine lv_ldc hx hb hown (hts _ mK_X9_141) dX9_listed_17 ?_
      obtain ⟨r15, m14, h13, hF⟩ := ob2_some hF
      refine cV_Wi C0 eM_st hP hS hK pkX9_finding (As := [.int (-100006)]) (rest := []) (kX9_finding l g ad m2 (-100006) r15 m14 h13) mL_X9_110 ⟨rfl, rfl, Nat.le_of_ble_eq_true rfl, Nat.le_of_ble_eq_true rfl, Nat.le_of_ble_eq_true rfl, Nat.le_of_ble_eq_true rfl⟩ 0 wM_0 rfl rfl rfl hl.1 rfl (Nat.le_of_ble_eq_true rfl) dX9_listed_19 (fun H locs _ hP hS => ?_)
      cases hF
      exact ret_Wi C0 hP hS trivial dX9_listed_22
theorem pkX9_place : pkV yX9_place cX9_place 4 (some .int) RX9 2 := ⟨mI_X9_place, mS_X9_place, mN_X9, mC_X9_place, by decide +kernel⟩
def fX9_place_28 (mem : Mem) (z1 : Int32) (z2 : Int32) : Nat → Int32 → Option (Int32 × Mem)
  | 0, _ => none
  | n + 1, x3 =>
    if mem 0 33 ≤ x3 then (ob2 (fX9_finding mem (-100006)) (fun r17 m16 => some (r17, m16))) else (gI x3 20 (gI (mem 23 x3.toNatClampNeg) 20 (if mem 6 (mem 23 x3.toNatClampNeg).toNatClampNeg = z1 then (gI x3 20 (gI (mem 23 x3.toNatClampNeg) 20 (if mem 7 (mem 23 x3.toNatClampNeg).toNatClampNeg = z2 then (some (x3, mem)) else (fX9_place_28 mem z1 z2 n (x3 + 1))))) else (fX9_place_28 mem z1 z2 n (x3 + 1)))))
set_option maxHeartbeats 4000000 in
set_option maxRecDepth 100000 in
theorem lpX9_place_28 {p : Program} {l : Launch} {e : Env} {s : State} {m : MethodId} {args : Array Value} {below : List Frame} {meth : Method} {c : Code} (g : gG) (ad : Nat → Nat) (mem : Mem) (z1 : Int32) (z2 : Int32) (r : Int32) (mem2 : Mem) (C0 : cxt (eM g ad) cX9_place 4 RX9 (some .int) p s m args meth c) :
    ∀ (n : Nat) (x3 : Int32) (H : Heap) (locs : List Loc) (ls : Array Slot), fX9_place_28 mem z1 z2 n x3 = some (r, mem2) → va_P g.1 vwCl (wM g ad mem) H → va_S (AW 29 ad) s.heap H locs → lv_has ls 4 [(0, .ref (ad 0)), (1, .int z1), (2, .int z2), (3, .int x3)] → W p l e { frames := 5, cells := 0, slots := 0, locals := 117 } s m args below meth c H locs 0 0 (MQ below (qW (wM g ad mem2) g (AW 29 ad) (some (.int r)) (True)) args s 0 0 (AW 29 ad)) (F0 m 28 ls []) := by
  obtain ⟨hx, hb, hml, hown, hts, hr, hlk, hE⟩ := id C0
  obtain ⟨hK, hA⟩ := id hE
  intro n
  induction n with
  | zero =>
    intro x3 H locs ls hF hP hS hl
    cases hF
  | succ n ih =>
    intro x3 H locs ls hF hP hS hl
    rw [fX9_place_28] at hF
    refine lv_iload_n hx hb dX9_place_28 rfl (lv_at hl 3 rfl) ?_
    refine lv_aload_n hx hb dX9_place_29 rfl (lv_at hl 0 rfl) ?_
    refine get_W C0 hK hP iwX9 0 wM_0 rfl 33 (by decide) mF_X9_155 rfl rfl dX9_place_30 ?_
    refine lv_icmp_ge (tgt := 74) hx hb dX9_place_33 (by decide) (fun c14 => ?_) (fun c14 => ?_)
    · replace hF := (if_pos c14).symm.trans hF
      refine lv_aload_n hx hb dX9_place_74 rfl (lv_at hl 0 rfl) ?_
      refine lv_ldc hx hb hown (hts _ mK_X9_141) dX9_place_75 ?_
      obtain ⟨r17, m16, h15, hF⟩ := ob2_some hF
      refine cV_Wi C0 eM_st hP hS hK pkX9_finding (As := [.int (-100006)]) (rest := []) (kX9_finding l g ad mem (-100006) r17 m16 h15) mL_X9_110 ⟨rfl, rfl, Nat.le_of_ble_eq_true rfl, Nat.le_of_ble_eq_true rfl, Nat.le_of_ble_eq_true rfl, Nat.le_of_ble_eq_true rfl⟩ 0 wM_0 rfl rfl rfl hl.1 rfl (Nat.le_of_ble_eq_true rfl) dX9_place_77 (fun H locs _ hP hS => ?_)
      cases hF
      exact ret_Wi C0 hP hS trivial dX9_place_80
    · replace hF := (if_neg c14).symm.trans hF
      refine lv_aload_n hx hb dX9_place_36 rfl (lv_at hl 0 rfl) ?_
      refine get_W C0 hK hP iwX9 0 wM_0 rfl 7 (by decide) mF_X9_26 rfl rfl dX9_place_37 ?_
      refine lv_aload_n hx hb dX9_place_40 rfl (lv_at hl 0 rfl) ?_
      refine get_W C0 hK hP iwX9 0 wM_0 rfl 32 (by decide) mF_X9_81 rfl rfl dX9_place_41 ?_
      refine lv_iload_n hx hb dX9_place_44 rfl (lv_at hl 3 rfl) ?_
      obtain ⟨g18, hF⟩ := gI_some hF
      refine va_iald hx hb hK hP 23 0 wM_23 rfl g18 dX9_place_45 ?_
      obtain ⟨g19, hF⟩ := gI_some hF
      refine va_iald hx hb hK hP 6 0 wM_6 rfl g19 dX9_place_46 ?_
      refine lv_iload_n hx hb dX9_place_47 rfl (lv_at hl 1 rfl) ?_
      refine lv_icmp_ne (tgt := 68) hx hb dX9_place_48 (by decide) (fun c20 => ?_) (fun c20 => ?_)
      · replace hF := (if_neg c20).symm.trans hF
        refine lv_iinc (v := x3 + 1) (lv' := [(3, .int (x3 + 1)), (0, .ref (ad 0)), (1, .int z1), (2, .int z2)]) hx hb dX9_place_68 hl (k := 3) rfl rfl (by decide) rfl (fun ls hl => ?_)
        refine lv_goto (tgt := 28) hx hb dX9_place_71 (by decide) ?_
        exact ih (x3 + 1) _ _ ls hF hP hS (lv_sub hl [1, 2, 3, 0] rfl)
      · replace hF := (if_pos c20).symm.trans hF
        refine lv_aload_n hx hb dX9_place_51 rfl (lv_at hl 0 rfl) ?_
        refine get_W C0 hK hP iwX9 0 wM_0 rfl 8 (by decide) mF_X9_29 rfl rfl dX9_place_52 ?_
        refine lv_aload_n hx hb dX9_place_55 rfl (lv_at hl 0 rfl) ?_
        refine get_W C0 hK hP iwX9 0 wM_0 rfl 32 (by decide) mF_X9_81 rfl rfl dX9_place_56 ?_
        refine lv_iload_n hx hb dX9_place_59 rfl (lv_at hl 3 rfl) ?_
        obtain ⟨g21, hF⟩ := gI_some hF
        refine va_iald hx hb hK hP 23 0 wM_23 rfl g21 dX9_place_60 ?_
        obtain ⟨g22, hF⟩ := gI_some hF
        refine va_iald hx hb hK hP 7 0 wM_7 rfl g22 dX9_place_61 ?_
        refine lv_iload_n hx hb dX9_place_62 rfl (lv_at hl 2 rfl) ?_
        refine lv_icmp_ne (tgt := 68) hx hb dX9_place_63 (by decide) (fun c23 => ?_) (fun c23 => ?_)
        · replace hF := (if_neg c23).symm.trans hF
          refine lv_iinc (v := x3 + 1) (lv' := [(3, .int (x3 + 1)), (0, .ref (ad 0)), (1, .int z1), (2, .int z2)]) hx hb dX9_place_68 hl (k := 3) rfl rfl (by decide) rfl (fun ls hl => ?_)
          refine lv_goto (tgt := 28) hx hb dX9_place_71 (by decide) ?_
          exact ih (x3 + 1) _ _ ls hF hP hS (lv_sub hl [1, 2, 3, 0] rfl)
        · replace hF := (if_pos c23).symm.trans hF
          refine lv_iload_n hx hb dX9_place_66 rfl (lv_at hl 3 rfl) ?_
          cases hF
          exact ret_Wi C0 hP hS trivial dX9_place_67
def fX9_place (mem : Mem) (a1 : Int32) (a2 : Int32) : Option (Int32 × Mem) :=
  ob1 (fX9_isMember mem a1) (fun r2 => if r2 = 0 then (ob2 (fX9_finding mem (-100001)) (fun r7 m6 => some (r7, m6))) else (ob1 (fX9_isSort a2) (fun r9 => if r9 = 0 then (ob2 (fX9_finding mem (-100001)) (fun r26 m25 => some (r26, m25))) else (ob1 (fX9_tellList mem) (fun m13 => fX9_place_28 m13 a1 a2 fu 0)))))
set_option maxHeartbeats 4000000 in
set_option maxRecDepth 100000 in
theorem kX9_place (l : Launch) (g : gG) (ad : Nat → Nat) (mem : Mem) (a1 : Int32) (a2 : Int32) (r : Int32) (mem2 : Mem) (hF : fX9_place mem a1 a2 = some (r, mem2)) : Met l yX9_place (Cond.code yX9_place cX9_place 4 (some .int) :: gw) { frames := 5, cells := 0, slots := 0, locals := 117 } (pG (wM g ad mem) (eM g ad) g [.ref (ad 0), .int a1, .int a2]) (qW (wM g ad mem2) g (AW 29 ad) (some (.int r)) (True)) 0 0 (AW 29 ad) := by
  refine met_of (by decide) (Nat.le_of_ble_eq_true rfl) ?_
  intro p e s m args below meth c ls C0 hP hl
  obtain ⟨hx, hb, hml, hown, hts, hr, hlk, hE⟩ := id C0
  obtain ⟨hK, hA⟩ := id hE
  have hl : lv_has ls 4 [(0, .ref (ad 0)), (1, .int a1), (2, .int a2)] := hl
  have hS : va_S (AW 29 ad) s.heap s.heap [] := va_S.rf
  unfold fX9_place at hF
  refine lv_aload_n hx hb dX9_place_0 rfl (lv_at hl 0 rfl) ?_
  refine lv_iload_n hx hb dX9_place_1 rfl (lv_at hl 1 rfl) ?_
  obtain ⟨r2, h1, hF⟩ := ob_some hF
  refine cV_Ri C0 eM_st hP hS hK pkX9_isMember (As := [.int a1]) (rest := []) (kX9_isMember l g ad mem a1 r2 h1) mL_X9_115 ⟨rfl, rfl, Nat.le_of_ble_eq_true rfl, Nat.le_of_ble_eq_true rfl, Nat.le_of_ble_eq_true rfl, Nat.le_of_ble_eq_true rfl⟩ 0 wM_0 rfl rfl rfl hl.1 rfl (Nat.le_of_ble_eq_true rfl) dX9_place_2 (fun b3 => ?_)
  refine lv_if_eq (tgt := 15) hx hb dX9_place_5 (by decide) (fun c4 => ?_) (fun c4 => ?_)
  · replace hF := (if_pos c4).symm.trans hF
    refine lv_aload_n hx hb dX9_place_15 rfl (lv_at hl 0 rfl) ?_
    refine lv_ldc hx hb hown (hts _ mK_X9_109) dX9_place_16 ?_
    obtain ⟨r7, m6, h5, hF⟩ := ob2_some hF
    refine cV_Wi C0 eM_st hP hS hK pkX9_finding (As := [.int (-100001)]) (rest := []) (kX9_finding l g ad mem (-100001) r7 m6 h5) mL_X9_110 ⟨rfl, rfl, Nat.le_of_ble_eq_true rfl, Nat.le_of_ble_eq_true rfl, Nat.le_of_ble_eq_true rfl, Nat.le_of_ble_eq_true rfl⟩ 0 wM_0 rfl rfl rfl hl.1 rfl (Nat.le_of_ble_eq_true rfl) dX9_place_18 (fun H locs _ hP hS => ?_)
    cases hF
    exact ret_Wi C0 hP hS trivial dX9_place_21
  · replace hF := (if_neg c4).symm.trans hF
    refine lv_iload_n hx hb dX9_place_8 rfl (lv_at hl 2 rfl) ?_
    obtain ⟨r9, h8, hF⟩ := ob_some hF
    refine cS_Ri C0 pkX9_isSort (As := [.int a2]) (rest := []) (kX9_isSort l g a2 r9 h8) mL_X9_129 ⟨rfl, rfl, Nat.le_of_ble_eq_true rfl, Nat.le_of_ble_eq_true rfl, Nat.le_of_ble_eq_true rfl, Nat.le_of_ble_eq_true rfl⟩ rfl hl.1 rfl (Nat.le_of_ble_eq_true rfl) dX9_place_9 (fun b10 => ?_)
    refine lv_if_ne (tgt := 22) hx hb dX9_place_12 (by decide) (fun c11 => ?_) (fun c11 => ?_)
    · replace hF := (if_neg c11).symm.trans hF
      refine lv_aload_n hx hb dX9_place_22 rfl (lv_at hl 0 rfl) ?_
      obtain ⟨m13, h12, hF⟩ := ob_some hF
      refine cV_Wv C0 eM_st hP hS hK pkX9_tellList (As := []) (rest := []) (kX9_tellList l g ad mem m13 h12) mL_X9_162 ⟨rfl, rfl, Nat.le_of_ble_eq_true rfl, Nat.le_of_ble_eq_true rfl, Nat.le_of_ble_eq_true rfl, Nat.le_of_ble_eq_true rfl⟩ 0 wM_0 rfl rfl rfl hl.1 rfl (Nat.le_of_ble_eq_true rfl) dX9_place_23 (fun H locs _ hP hS => ?_)
      refine lv_iconst (v := 0) hx hb dX9_place_26 (by decide) ?_
      refine lv_istore_n (lv' := [(3, .int 0), (0, .ref (ad 0)), (1, .int a1), (2, .int a2)]) hx hb dX9_place_27 rfl hl (by decide) rfl (fun ls hl => ?_)
      exact lpX9_place_28 g ad m13 a1 a2 r mem2 C0 fu 0 _ _ ls hF hP hS (lv_sub hl [1, 2, 3, 0] rfl)
    · replace hF := (if_pos c11).symm.trans hF
      refine lv_aload_n hx hb dX9_place_15 rfl (lv_at hl 0 rfl) ?_
      refine lv_ldc hx hb hown (hts _ mK_X9_109) dX9_place_16 ?_
      obtain ⟨r26, m25, h24, hF⟩ := ob2_some hF
      refine cV_Wi C0 eM_st hP hS hK pkX9_finding (As := [.int (-100001)]) (rest := []) (kX9_finding l g ad mem (-100001) r26 m25 h24) mL_X9_110 ⟨rfl, rfl, Nat.le_of_ble_eq_true rfl, Nat.le_of_ble_eq_true rfl, Nat.le_of_ble_eq_true rfl, Nat.le_of_ble_eq_true rfl⟩ 0 wM_0 rfl rfl rfl hl.1 rfl (Nat.le_of_ble_eq_true rfl) dX9_place_18 (fun H locs _ hP hS => ?_)
      cases hF
      exact ret_Wi C0 hP hS trivial dX9_place_21
theorem pkX9_firstOf : pkV yX9_firstOf cX9_firstOf 3 (some .int) RX9 1 := ⟨mI_X9_firstOf, mS_X9_firstOf, mN_X9, mC_X9_firstOf, by decide +kernel⟩
def fX9_firstOf_6 (mem : Mem) (z1 : Int32) : Nat → Int32 → Option (Int32 × Mem)
  | 0, _ => none
  | n + 1, x2 =>
    if mem 0 33 ≤ x2 then (some ((-1), mem)) else (gI x2 20 (gI (mem 23 x2.toNatClampNeg) 20 (if mem 7 (mem 23 x2.toNatClampNeg).toNatClampNeg = z1 then (gI x2 20 (some (mem 23 x2.toNatClampNeg, mem))) else (fX9_firstOf_6 mem z1 n (x2 + 1)))))
set_option maxHeartbeats 4000000 in
set_option maxRecDepth 100000 in
theorem lpX9_firstOf_6 {p : Program} {l : Launch} {e : Env} {s : State} {m : MethodId} {args : Array Value} {below : List Frame} {meth : Method} {c : Code} (g : gG) (ad : Nat → Nat) (mem : Mem) (z1 : Int32) (r : Int32) (mem2 : Mem) (C0 : cxt (eM g ad) cX9_firstOf 3 RX9 (some .int) p s m args meth c) :
    ∀ (n : Nat) (x2 : Int32) (H : Heap) (locs : List Loc) (ls : Array Slot), fX9_firstOf_6 mem z1 n x2 = some (r, mem2) → va_P g.1 vwCl (wM g ad mem) H → va_S (AW 29 ad) s.heap H locs → lv_has ls 3 [(0, .ref (ad 0)), (1, .int z1), (2, .int x2)] → W p l e { frames := 5, cells := 0, slots := 0, locals := 117 } s m args below meth c H locs 0 0 (MQ below (qW (wM g ad mem2) g (AW 29 ad) (some (.int r)) (True)) args s 0 0 (AW 29 ad)) (F0 m 6 ls []) := by
  obtain ⟨hx, hb, hml, hown, hts, hr, hlk, hE⟩ := id C0
  obtain ⟨hK, hA⟩ := id hE
  intro n
  induction n with
  | zero =>
    intro x2 H locs ls hF hP hS hl
    cases hF
  | succ n ih =>
    intro x2 H locs ls hF hP hS hl
    rw [fX9_firstOf_6] at hF
    refine lv_iload_n hx hb dX9_firstOf_6 rfl (lv_at hl 2 rfl) ?_
    refine lv_aload_n hx hb dX9_firstOf_7 rfl (lv_at hl 0 rfl) ?_
    refine get_W C0 hK hP iwX9 0 wM_0 rfl 33 (by decide) mF_X9_155 rfl rfl dX9_firstOf_8 ?_
    refine lv_icmp_ge (tgt := 42) hx hb dX9_firstOf_11 (by decide) (fun c3 => ?_) (fun c3 => ?_)
    · replace hF := (if_pos c3).symm.trans hF
      refine lv_iconst (v := (-1)) hx hb dX9_firstOf_42 (by decide) ?_
      cases hF
      exact ret_Wi C0 hP hS trivial dX9_firstOf_43
    · replace hF := (if_neg c3).symm.trans hF
      refine lv_aload_n hx hb dX9_firstOf_14 rfl (lv_at hl 0 rfl) ?_
      refine get_W C0 hK hP iwX9 0 wM_0 rfl 8 (by decide) mF_X9_29 rfl rfl dX9_firstOf_15 ?_
      refine lv_aload_n hx hb dX9_firstOf_18 rfl (lv_at hl 0 rfl) ?_
      refine get_W C0 hK hP iwX9 0 wM_0 rfl 32 (by decide) mF_X9_81 rfl rfl dX9_firstOf_19 ?_
      refine lv_iload_n hx hb dX9_firstOf_22 rfl (lv_at hl 2 rfl) ?_
      obtain ⟨g4, hF⟩ := gI_some hF
      refine va_iald hx hb hK hP 23 0 wM_23 rfl g4 dX9_firstOf_23 ?_
      obtain ⟨g5, hF⟩ := gI_some hF
      refine va_iald hx hb hK hP 7 0 wM_7 rfl g5 dX9_firstOf_24 ?_
      refine lv_iload_n hx hb dX9_firstOf_25 rfl (lv_at hl 1 rfl) ?_
      refine lv_icmp_ne (tgt := 36) hx hb dX9_firstOf_26 (by decide) (fun c6 => ?_) (fun c6 => ?_)
      · replace hF := (if_neg c6).symm.trans hF
        refine lv_iinc (v := x2 + 1) (lv' := [(2, .int (x2 + 1)), (0, .ref (ad 0)), (1, .int z1)]) hx hb dX9_firstOf_36 hl (k := 2) rfl rfl (by decide) rfl (fun ls hl => ?_)
        refine lv_goto (tgt := 6) hx hb dX9_firstOf_39 (by decide) ?_
        exact ih (x2 + 1) _ _ ls hF hP hS (lv_sub hl [1, 2, 0] rfl)
      · replace hF := (if_pos c6).symm.trans hF
        refine lv_aload_n hx hb dX9_firstOf_29 rfl (lv_at hl 0 rfl) ?_
        refine get_W C0 hK hP iwX9 0 wM_0 rfl 32 (by decide) mF_X9_81 rfl rfl dX9_firstOf_30 ?_
        refine lv_iload_n hx hb dX9_firstOf_33 rfl (lv_at hl 2 rfl) ?_
        obtain ⟨g7, hF⟩ := gI_some hF
        refine va_iald hx hb hK hP 23 0 wM_23 rfl g7 dX9_firstOf_34 ?_
        cases hF
        exact ret_Wi C0 hP hS trivial dX9_firstOf_35
def fX9_firstOf (mem : Mem) (a1 : Int32) : Option (Int32 × Mem) :=
  ob1 (fX9_tellList mem) (fun m2 => fX9_firstOf_6 m2 a1 fu 0)
set_option maxHeartbeats 4000000 in
set_option maxRecDepth 100000 in
theorem kX9_firstOf (l : Launch) (g : gG) (ad : Nat → Nat) (mem : Mem) (a1 : Int32) (r : Int32) (mem2 : Mem) (hF : fX9_firstOf mem a1 = some (r, mem2)) : Met l yX9_firstOf (Cond.code yX9_firstOf cX9_firstOf 3 (some .int) :: gw) { frames := 5, cells := 0, slots := 0, locals := 117 } (pG (wM g ad mem) (eM g ad) g [.ref (ad 0), .int a1]) (qW (wM g ad mem2) g (AW 29 ad) (some (.int r)) (True)) 0 0 (AW 29 ad) := by
  refine met_of (by decide) (Nat.le_of_ble_eq_true rfl) ?_
  intro p e s m args below meth c ls C0 hP hl
  obtain ⟨hx, hb, hml, hown, hts, hr, hlk, hE⟩ := id C0
  obtain ⟨hK, hA⟩ := id hE
  have hl : lv_has ls 3 [(0, .ref (ad 0)), (1, .int a1)] := hl
  have hS : va_S (AW 29 ad) s.heap s.heap [] := va_S.rf
  unfold fX9_firstOf at hF
  refine lv_aload_n hx hb dX9_firstOf_0 rfl (lv_at hl 0 rfl) ?_
  obtain ⟨m2, h1, hF⟩ := ob_some hF
  refine cV_Wv C0 eM_st hP hS hK pkX9_tellList (As := []) (rest := []) (kX9_tellList l g ad mem m2 h1) mL_X9_162 ⟨rfl, rfl, Nat.le_of_ble_eq_true rfl, Nat.le_of_ble_eq_true rfl, Nat.le_of_ble_eq_true rfl, Nat.le_of_ble_eq_true rfl⟩ 0 wM_0 rfl rfl rfl hl.1 rfl (Nat.le_of_ble_eq_true rfl) dX9_firstOf_1 (fun H locs _ hP hS => ?_)
  refine lv_iconst (v := 0) hx hb dX9_firstOf_4 (by decide) ?_
  refine lv_istore_n (lv' := [(2, .int 0), (0, .ref (ad 0)), (1, .int a1)]) hx hb dX9_firstOf_5 rfl hl (by decide) rfl (fun ls hl => ?_)
  exact lpX9_firstOf_6 g ad m2 a1 r mem2 C0 fu 0 _ _ ls hF hP hS (lv_sub hl [1, 2, 0] rfl)
theorem pkX9_limitOf : pkV yX9_limitOf cX9_limitOf 3 (some .int) RX9 2 := ⟨mI_X9_limitOf, mS_X9_limitOf, mN_X9, mC_X9_limitOf, by decide +kernel⟩
def fX9_limitOf (mem : Mem) (a1 : Int32) (a2 : Int32) : Option (Int32) :=
  gI a1 10 (if mem 1 a1.toNatClampNeg = 3 then (gI a2 3 (some (2 * (mem 13 a2.toNatClampNeg)))) else (gI a2 3 (some (mem 13 a2.toNatClampNeg))))
set_option maxHeartbeats 4000000 in
set_option maxRecDepth 100000 in
theorem kX9_limitOf (l : Launch) (g : gG) (ad : Nat → Nat) (mem : Mem) (a1 : Int32) (a2 : Int32) (r : Int32) (hF : fX9_limitOf mem a1 a2 = some r) : Met l yX9_limitOf (Cond.code yX9_limitOf cX9_limitOf 3 (some .int) :: gw) { frames := 1, cells := 0, slots := 0, locals := 24 } (pG (wM g ad mem) (eM g ad) g [.ref (ad 0), .int a1, .int a2]) (qR (some (.int r)) (True)) 0 0 noA := by
  refine met_of (by decide) (Nat.le_of_ble_eq_true rfl) ?_
  intro p e s m args below meth c ls C0 hP hl
  obtain ⟨hx, hb, hml, hown, hts, hr, hlk, hE⟩ := id C0
  obtain ⟨hK, hA⟩ := id hE
  have hl : lv_has ls 3 [(0, .ref (ad 0)), (1, .int a1), (2, .int a2)] := hl
  have hS : va_S (AW 29 ad) s.heap s.heap [] := va_S.rf
  unfold fX9_limitOf at hF
  refine lv_aload_n hx hb dX9_limitOf_0 rfl (lv_at hl 0 rfl) ?_
  refine get_W C0 hK hP iwX9 0 wM_0 rfl 1 (by decide) mF_X9_7 rfl rfl dX9_limitOf_1 ?_
  refine lv_iload_n hx hb dX9_limitOf_4 rfl (lv_at hl 1 rfl) ?_
  obtain ⟨g1, hF⟩ := gI_some hF
  refine va_iald hx hb hK hP 1 0 wM_1 rfl g1 dX9_limitOf_5 ?_
  refine lv_iconst (v := 3) hx hb dX9_limitOf_6 (by decide) ?_
  refine lv_icmp_ne (tgt := 21) hx hb dX9_limitOf_7 (by decide) (fun c2 => ?_) (fun c2 => ?_)
  · replace hF := (if_neg c2).symm.trans hF
    refine lv_aload_n hx hb dX9_limitOf_21 rfl (lv_at hl 0 rfl) ?_
    refine get_W C0 hK hP iwX9 0 wM_0 rfl 17 (by decide) mF_X9_51 rfl rfl dX9_limitOf_22 ?_
    refine lv_iload_n hx hb dX9_limitOf_25 rfl (lv_at hl 2 rfl) ?_
    obtain ⟨g3, hF⟩ := gI_some hF
    refine va_iald hx hb hK hP 13 0 wM_13 rfl g3 dX9_limitOf_26 ?_
    cases hF
    exact ret_Ri C0 trivial dX9_limitOf_27
  · replace hF := (if_pos c2).symm.trans hF
    refine lv_iconst (v := 2) hx hb dX9_limitOf_10 (by decide) ?_
    refine lv_aload_n hx hb dX9_limitOf_11 rfl (lv_at hl 0 rfl) ?_
    refine get_W C0 hK hP iwX9 0 wM_0 rfl 17 (by decide) mF_X9_51 rfl rfl dX9_limitOf_12 ?_
    refine lv_iload_n hx hb dX9_limitOf_15 rfl (lv_at hl 2 rfl) ?_
    obtain ⟨g4, hF⟩ := gI_some hF
    refine va_iald hx hb hK hP 13 0 wM_13 rfl g4 dX9_limitOf_16 ?_
    refine lv_imul hx hb dX9_limitOf_17 ?_
    refine lv_goto (tgt := 27) hx hb dX9_limitOf_18 (by decide) ?_
    cases hF
    exact ret_Ri C0 trivial dX9_limitOf_27
theorem pkX9_wait : pkV yX9_wait cX9_wait 7 (some .int) RX9 1 := ⟨mI_X9_wait, mS_X9_wait, mN_X9, mC_X9_wait, by decide +kernel⟩
def fX9_wait_297 (z1 : Int32) (z2 : Int32) (z3 : Int32) (z4 : Int32) (z5 : Int32) : Nat → Mem → Int32 → Option (Int32 × Mem)
  | 0, _, _ => none
  | n + 1, mem, x6 =>
    if mem 0 0 ≤ x6 then (if z4 = 100 then (ob2 (fX9_finding mem (-100008)) (fun r25 m24 => some (r25, m24))) else (some (z4, mem))) else (gI x6 10 (gI x6 10 (gI x6 10 (gI x6 10 (fX9_wait_297 z1 z2 z3 z4 z5 n (up2 (up2 mem 4 x6.toNatClampNeg (mem 26 x6.toNatClampNeg)) 5 x6.toNatClampNeg ((up2 mem 4 x6.toNatClampNeg (mem 26 x6.toNatClampNeg)) 27 x6.toNatClampNeg)) (x6 + 1))))))
set_option maxHeartbeats 4000000 in
set_option maxRecDepth 100000 in
theorem lpX9_wait_297 {p : Program} {l : Launch} {e : Env} {s : State} {m : MethodId} {args : Array Value} {below : List Frame} {meth : Method} {c : Code} (g : gG) (ad : Nat → Nat) (z1 : Int32) (z2 : Int32) (z3 : Int32) (z4 : Int32) (z5 : Int32) (r : Int32) (mem2 : Mem) (C0 : cxt (eM g ad) cX9_wait 7 RX9 (some .int) p s m args meth c) :
    ∀ (n : Nat) (mem : Mem) (x6 : Int32) (H : Heap) (locs : List Loc) (ls : Array Slot), fX9_wait_297 z1 z2 z3 z4 z5 n mem x6 = some (r, mem2) → va_P g.1 vwCl (wM g ad mem) H → va_S (AW 29 ad) s.heap H locs → lv_has ls 7 [(0, .ref (ad 0)), (1, .int z1), (2, .int z2), (3, .int z3), (4, .int z4), (5, .int z5), (6, .int x6)] → W p l e { frames := 6, cells := 0, slots := 0, locals := 139 } s m args below meth c H locs 0 0 (MQ below (qW (wM g ad mem2) g (AW 29 ad) (some (.int r)) (True)) args s 0 0 (AW 29 ad)) (F0 m 297 ls []) := by
  obtain ⟨hx, hb, hml, hown, hts, hr, hlk, hE⟩ := id C0
  obtain ⟨hK, hA⟩ := id hE
  intro n
  induction n with
  | zero =>
    intro mem x6 H locs ls hF hP hS hl
    cases hF
  | succ n ih =>
    intro mem x6 H locs ls hF hP hS hl
    rw [fX9_wait_297] at hF
    refine lv_iload hx hb dX9_wait_297 (lv_at hl 6 rfl) ?_
    refine lv_aload_n hx hb dX9_wait_299 rfl (lv_at hl 0 rfl) ?_
    refine get_W C0 hK hP iwX9 0 wM_0 rfl 0 (by decide) mF_X9_102 rfl rfl dX9_wait_300 ?_
    refine lv_icmp_ge (tgt := 340) hx hb dX9_wait_303 (by decide) (fun c21 => ?_) (fun c21 => ?_)
    · replace hF := (if_pos c21).symm.trans hF
      refine lv_iload hx hb dX9_wait_340 (lv_at hl 4 rfl) ?_
      refine lv_bipush (v := 100) hx hb dX9_wait_342 (by decide) ?_
      refine lv_icmp_ne (tgt := 356) hx hb dX9_wait_344 (by decide) (fun c22 => ?_) (fun c22 => ?_)
      · replace hF := (if_neg c22).symm.trans hF
        refine lv_iload hx hb dX9_wait_356 (lv_at hl 4 rfl) ?_
        cases hF
        exact ret_Wi C0 hP hS trivial dX9_wait_358
      · replace hF := (if_pos c22).symm.trans hF
        refine lv_aload_n hx hb dX9_wait_347 rfl (lv_at hl 0 rfl) ?_
        refine lv_ldc hx hb hown (hts _ mK_X9_171) dX9_wait_348 ?_
        obtain ⟨r25, m24, h23, hF⟩ := ob2_some hF
        refine cV_Wi C0 eM_st hP hS hK pkX9_finding (As := [.int (-100008)]) (rest := []) (kX9_finding l g ad mem (-100008) r25 m24 h23) mL_X9_110 ⟨rfl, rfl, Nat.le_of_ble_eq_true rfl, Nat.le_of_ble_eq_true rfl, Nat.le_of_ble_eq_true rfl, Nat.le_of_ble_eq_true rfl⟩ 0 wM_0 rfl rfl rfl hl.1 rfl (Nat.le_of_ble_eq_true rfl) dX9_wait_350 (fun H locs _ hP hS => ?_)
        refine lv_goto (tgt := 358) hx hb dX9_wait_353 (by decide) ?_
        cases hF
        exact ret_Wi C0 hP hS trivial dX9_wait_358
    · replace hF := (if_neg c21).symm.trans hF
      refine lv_aload_n hx hb dX9_wait_306 rfl (lv_at hl 0 rfl) ?_
      refine get_W C0 hK hP iwX9 0 wM_0 rfl 4 (by decide) mF_X9_20 rfl rfl dX9_wait_307 ?_
      refine lv_iload hx hb dX9_wait_310 (lv_at hl 6 rfl) ?_
      refine lv_aload_n hx hb dX9_wait_312 rfl (lv_at hl 0 rfl) ?_
      refine get_W C0 hK hP iwX9 0 wM_0 rfl 36 (by decide) mF_X9_90 rfl rfl dX9_wait_313 ?_
      refine lv_iload hx hb dX9_wait_316 (lv_at hl 6 rfl) ?_
      obtain ⟨g26, hF⟩ := gI_some hF
      refine va_iald hx hb hK hP 26 0 wM_26 rfl g26 dX9_wait_318 ?_
      obtain ⟨g27, hF⟩ := gI_some hF
      refine iast_W C0 hK hP (wM_D hA) hS 4 wM_4 g27 wM_s4 dX9_wait_319 (fun H locs hP hS => ?_)
      refine lv_aload_n hx hb dX9_wait_320 rfl (lv_at hl 0 rfl) ?_
      refine get_W C0 hK hP iwX9 0 wM_0 rfl 5 (by decide) mF_X9_23 rfl rfl dX9_wait_321 ?_
      refine lv_iload hx hb dX9_wait_324 (lv_at hl 6 rfl) ?_
      refine lv_aload_n hx hb dX9_wait_326 rfl (lv_at hl 0 rfl) ?_
      refine get_W C0 hK hP iwX9 0 wM_0 rfl 37 (by decide) mF_X9_93 rfl rfl dX9_wait_327 ?_
      refine lv_iload hx hb dX9_wait_330 (lv_at hl 6 rfl) ?_
      obtain ⟨g28, hF⟩ := gI_some hF
      refine va_iald hx hb hK hP 27 0 wM_27 rfl g28 dX9_wait_332 ?_
      obtain ⟨g29, hF⟩ := gI_some hF
      refine iast_W C0 hK hP (wM_D hA) hS 5 wM_5 g29 wM_s5 dX9_wait_333 (fun H locs hP hS => ?_)
      refine lv_iinc (v := x6 + 1) (lv' := [(6, .int (x6 + 1)), (0, .ref (ad 0)), (1, .int z1), (2, .int z2), (3, .int z3), (4, .int z4), (5, .int z5)]) hx hb dX9_wait_334 hl (k := 6) rfl rfl (by decide) rfl (fun ls hl => ?_)
      refine lv_goto (tgt := 297) hx hb dX9_wait_337 (by decide) ?_
      exact ih (up2 (up2 mem 4 x6.toNatClampNeg (mem 26 x6.toNatClampNeg)) 5 x6.toNatClampNeg ((up2 mem 4 x6.toNatClampNeg (mem 26 x6.toNatClampNeg)) 27 x6.toNatClampNeg)) (x6 + 1) _ _ ls hF hP hS (lv_sub hl [1, 2, 3, 4, 5, 6, 0] rfl)
def fX9_wait_254 (z1 : Int32) (z2 : Int32) (z3 : Int32) (z4 : Int32) (z5 : Int32) : Nat → Mem → Int32 → Option (Int32 × Mem)
  | 0, _, _ => none
  | n + 1, mem, x6 =>
    if z2 ≤ x6 then (fX9_wait_297 z1 z2 z3 z4 z5 fu mem 0) else (gI x6 20 (gI x6 20 (gI x6 20 (gI x6 20 (fX9_wait_254 z1 z2 z3 z4 z5 n (up2 (up2 mem 6 x6.toNatClampNeg (mem 24 x6.toNatClampNeg)) 7 x6.toNatClampNeg ((up2 mem 6 x6.toNatClampNeg (mem 24 x6.toNatClampNeg)) 25 x6.toNatClampNeg)) (x6 + 1))))))
set_option maxHeartbeats 4000000 in
set_option maxRecDepth 100000 in
theorem lpX9_wait_254 {p : Program} {l : Launch} {e : Env} {s : State} {m : MethodId} {args : Array Value} {below : List Frame} {meth : Method} {c : Code} (g : gG) (ad : Nat → Nat) (z1 : Int32) (z2 : Int32) (z3 : Int32) (z4 : Int32) (z5 : Int32) (r : Int32) (mem2 : Mem) (C0 : cxt (eM g ad) cX9_wait 7 RX9 (some .int) p s m args meth c) :
    ∀ (n : Nat) (mem : Mem) (x6 : Int32) (H : Heap) (locs : List Loc) (ls : Array Slot), fX9_wait_254 z1 z2 z3 z4 z5 n mem x6 = some (r, mem2) → va_P g.1 vwCl (wM g ad mem) H → va_S (AW 29 ad) s.heap H locs → lv_has ls 7 [(0, .ref (ad 0)), (1, .int z1), (2, .int z2), (3, .int z3), (4, .int z4), (5, .int z5), (6, .int x6)] → W p l e { frames := 6, cells := 0, slots := 0, locals := 139 } s m args below meth c H locs 0 0 (MQ below (qW (wM g ad mem2) g (AW 29 ad) (some (.int r)) (True)) args s 0 0 (AW 29 ad)) (F0 m 254 ls []) := by
  obtain ⟨hx, hb, hml, hown, hts, hr, hlk, hE⟩ := id C0
  obtain ⟨hK, hA⟩ := id hE
  intro n
  induction n with
  | zero =>
    intro mem x6 H locs ls hF hP hS hl
    cases hF
  | succ n ih =>
    intro mem x6 H locs ls hF hP hS hl
    rw [fX9_wait_254] at hF
    refine lv_iload hx hb dX9_wait_254 (lv_at hl 6 rfl) ?_
    refine lv_iload_n hx hb dX9_wait_256 rfl (lv_at hl 2 rfl) ?_
    refine lv_icmp_ge (tgt := 294) hx hb dX9_wait_257 (by decide) (fun c20 => ?_) (fun c20 => ?_)
    · replace hF := (if_pos c20).symm.trans hF
      refine lv_iconst (v := 0) hx hb dX9_wait_294 (by decide) ?_
      refine lv_istore (lv' := [(6, .int 0), (0, .ref (ad 0)), (1, .int z1), (2, .int z2), (3, .int z3), (4, .int z4), (5, .int z5)]) hx hb dX9_wait_295 hl (by decide) rfl (fun ls hl => ?_)
      exact lpX9_wait_297 g ad z1 z2 z3 z4 z5 r mem2 C0 fu mem 0 _ _ ls hF hP hS (lv_sub hl [1, 2, 3, 4, 5, 6, 0] rfl)
    · replace hF := (if_neg c20).symm.trans hF
      refine lv_aload_n hx hb dX9_wait_260 rfl (lv_at hl 0 rfl) ?_
      refine get_W C0 hK hP iwX9 0 wM_0 rfl 7 (by decide) mF_X9_26 rfl rfl dX9_wait_261 ?_
      refine lv_iload hx hb dX9_wait_264 (lv_at hl 6 rfl) ?_
      refine lv_aload_n hx hb dX9_wait_266 rfl (lv_at hl 0 rfl) ?_
      refine get_W C0 hK hP iwX9 0 wM_0 rfl 34 (by decide) mF_X9_84 rfl rfl dX9_wait_267 ?_
      refine lv_iload hx hb dX9_wait_270 (lv_at hl 6 rfl) ?_
      obtain ⟨g30, hF⟩ := gI_some hF
      refine va_iald hx hb hK hP 24 0 wM_24 rfl g30 dX9_wait_272 ?_
      obtain ⟨g31, hF⟩ := gI_some hF
      refine iast_W C0 hK hP (wM_D hA) hS 6 wM_6 g31 wM_s6 dX9_wait_273 (fun H locs hP hS => ?_)
      refine lv_aload_n hx hb dX9_wait_274 rfl (lv_at hl 0 rfl) ?_
      refine get_W C0 hK hP iwX9 0 wM_0 rfl 8 (by decide) mF_X9_29 rfl rfl dX9_wait_275 ?_
      refine lv_iload hx hb dX9_wait_278 (lv_at hl 6 rfl) ?_
      refine lv_aload_n hx hb dX9_wait_280 rfl (lv_at hl 0 rfl) ?_
      refine get_W C0 hK hP iwX9 0 wM_0 rfl 35 (by decide) mF_X9_87 rfl rfl dX9_wait_281 ?_
      refine lv_iload hx hb dX9_wait_284 (lv_at hl 6 rfl) ?_
      obtain ⟨g32, hF⟩ := gI_some hF
      refine va_iald hx hb hK hP 25 0 wM_25 rfl g32 dX9_wait_286 ?_
      obtain ⟨g33, hF⟩ := gI_some hF
      refine iast_W C0 hK hP (wM_D hA) hS 7 wM_7 g33 wM_s7 dX9_wait_287 (fun H locs hP hS => ?_)
      refine lv_iinc (v := x6 + 1) (lv' := [(6, .int (x6 + 1)), (0, .ref (ad 0)), (1, .int z1), (2, .int z2), (3, .int z3), (4, .int z4), (5, .int z5)]) hx hb dX9_wait_288 hl (k := 6) rfl rfl (by decide) rfl (fun ls hl => ?_)
      refine lv_goto (tgt := 254) hx hb dX9_wait_291 (by decide) ?_
      exact ih (up2 (up2 mem 6 x6.toNatClampNeg (mem 24 x6.toNatClampNeg)) 7 x6.toNatClampNeg ((up2 mem 6 x6.toNatClampNeg (mem 24 x6.toNatClampNeg)) 25 x6.toNatClampNeg)) (x6 + 1) _ _ ls hF hP hS (lv_sub hl [1, 2, 3, 4, 5, 6, 0] rfl)
def fX9_wait_149 (z1 : Int32) (z2 : Int32) (z3 : Int32) : Nat → Mem → Int32 → Int32 → Option (Int32 × Mem)
  | 0, _, _, _ => none
  | n + 1, mem, x4, x5 =>
    gI x5 20 (if mem 6 x5.toNatClampNeg = z1 then (fX9_wait_254 z1 z2 z3 x4 x5 fu (up2 (up2 mem 0 6 z2) 0 11 z3) 0) else (if 100 ≤ x4 then (fX9_wait_254 z1 z2 z3 x4 x5 fu (up2 (up2 mem 0 6 z2) 0 11 z3) 0) else (gI x5 20 (ob1 (fX9_goes mem x5) (fun m37 => gI (mem 6 x5.toNatClampNeg) 10 (gI (mem 6 x5.toNatClampNeg) 10 (gI (mem 6 x5.toNatClampNeg) 10 (gI (mem 6 x5.toNatClampNeg) 10 (ob1 (fX9_limitOf (up2 (up2 m37 5 (mem 6 x5.toNatClampNeg).toNatClampNeg ((m37 5 (mem 6 x5.toNatClampNeg).toNatClampNeg) + 1)) 0 11 ((up2 m37 5 (mem 6 x5.toNatClampNeg).toNatClampNeg ((m37 5 (mem 6 x5.toNatClampNeg).toNatClampNeg) + 1)) 2 (mem 6 x5.toNatClampNeg).toNatClampNeg)) (mem 6 x5.toNatClampNeg) 0) (fun r43 => gI (mem 6 x5.toNatClampNeg) 10 (ob1 (fX9_comes (up2 (up2 (up2 m37 5 (mem 6 x5.toNatClampNeg).toNatClampNeg ((m37 5 (mem 6 x5.toNatClampNeg).toNatClampNeg) + 1)) 0 11 ((up2 m37 5 (mem 6 x5.toNatClampNeg).toNatClampNeg ((m37 5 (mem 6 x5.toNatClampNeg).toNatClampNeg) + 1)) 2 (mem 6 x5.toNatClampNeg).toNatClampNeg)) 4 (mem 6 x5.toNatClampNeg).toNatClampNeg (((up2 (up2 m37 5 (mem 6 x5.toNatClampNeg).toNatClampNeg ((m37 5 (mem 6 x5.toNatClampNeg).toNatClampNeg) + 1)) 0 11 ((up2 m37 5 (mem 6 x5.toNatClampNeg).toNatClampNeg ((m37 5 (mem 6 x5.toNatClampNeg).toNatClampNeg) + 1)) 2 (mem 6 x5.toNatClampNeg).toNatClampNeg)) 4 (mem 6 x5.toNatClampNeg).toNatClampNeg) + r43)) (mem 6 x5.toNatClampNeg) 0) (fun m46 => ob2 (fX9_firstOf m46 0) (fun r49 m48 => fX9_wait_149 z1 z2 z3 n m48 (x4 + 1) r49)))))))))))))
set_option maxHeartbeats 4000000 in
set_option maxRecDepth 100000 in
theorem lpX9_wait_149 {p : Program} {l : Launch} {e : Env} {s : State} {m : MethodId} {args : Array Value} {below : List Frame} {meth : Method} {c : Code} (g : gG) (ad : Nat → Nat) (z1 : Int32) (z2 : Int32) (z3 : Int32) (r : Int32) (mem2 : Mem) (C0 : cxt (eM g ad) cX9_wait 7 RX9 (some .int) p s m args meth c) :
    ∀ (n : Nat) (mem : Mem) (x4 : Int32) (x5 : Int32) (H : Heap) (locs : List Loc) (ls : Array Slot), fX9_wait_149 z1 z2 z3 n mem x4 x5 = some (r, mem2) → va_P g.1 vwCl (wM g ad mem) H → va_S (AW 29 ad) s.heap H locs → lv_has ls 7 [(0, .ref (ad 0)), (1, .int z1), (2, .int z2), (3, .int z3), (4, .int x4), (5, .int x5)] → W p l e { frames := 6, cells := 0, slots := 0, locals := 139 } s m args below meth c H locs 0 0 (MQ below (qW (wM g ad mem2) g (AW 29 ad) (some (.int r)) (True)) args s 0 0 (AW 29 ad)) (F0 m 149 ls []) := by
  obtain ⟨hx, hb, hml, hown, hts, hr, hlk, hE⟩ := id C0
  obtain ⟨hK, hA⟩ := id hE
  intro n
  induction n with
  | zero =>
    intro mem x4 x5 H locs ls hF hP hS hl
    cases hF
  | succ n ih =>
    intro mem x4 x5 H locs ls hF hP hS hl
    rw [fX9_wait_149] at hF
    refine lv_aload_n hx hb dX9_wait_149 rfl (lv_at hl 0 rfl) ?_
    refine get_W C0 hK hP iwX9 0 wM_0 rfl 7 (by decide) mF_X9_26 rfl rfl dX9_wait_150 ?_
    refine lv_iload hx hb dX9_wait_153 (lv_at hl 5 rfl) ?_
    obtain ⟨g18, hF⟩ := gI_some hF
    refine va_iald hx hb hK hP 6 0 wM_6 rfl g18 dX9_wait_155 ?_
    refine lv_iload_n hx hb dX9_wait_156 rfl (lv_at hl 1 rfl) ?_
    refine lv_icmp_eq (tgt := 241) hx hb dX9_wait_157 (by decide) (fun c19 => ?_) (fun c19 => ?_)
    · replace hF := (if_pos c19).symm.trans hF
      refine lv_aload_n hx hb dX9_wait_241 rfl (lv_at hl 0 rfl) ?_
      refine lv_iload_n hx hb dX9_wait_242 rfl (lv_at hl 2 rfl) ?_
      refine put_W (k := 6) C0 hK hP (wM_D hA) hS iwX9 tyX9_ok nmX9 0 wM_0 rfl (by decide) mF_X9_126 rfl rfl rfl rfl (Nat.le_of_ble_eq_true rfl) wM_s0_6 dX9_wait_243 (fun H locs hP hS => ?_)
      refine lv_aload_n hx hb dX9_wait_246 rfl (lv_at hl 0 rfl) ?_
      refine lv_iload_n hx hb dX9_wait_247 rfl (lv_at hl 3 rfl) ?_
      refine put_W (k := 11) C0 hK hP (wM_D hA) hS iwX9 tyX9_ok nmX9 0 wM_0 rfl (by decide) mF_X9_35 rfl rfl rfl rfl (Nat.le_of_ble_eq_true rfl) wM_s0_11 dX9_wait_248 (fun H locs hP hS => ?_)
      refine lv_iconst (v := 0) hx hb dX9_wait_251 (by decide) ?_
      refine lv_istore (lv' := [(6, .int 0), (0, .ref (ad 0)), (1, .int z1), (2, .int z2), (3, .int z3), (4, .int x4), (5, .int x5)]) hx hb dX9_wait_252 hl (by decide) rfl (fun ls hl => ?_)
      exact lpX9_wait_254 g ad z1 z2 z3 x4 x5 r mem2 C0 fu (up2 (up2 mem 0 6 z2) 0 11 z3) 0 _ _ ls hF hP hS (lv_sub hl [1, 2, 3, 4, 5, 6, 0] rfl)
    · replace hF := (if_neg c19).symm.trans hF
      refine lv_iload hx hb dX9_wait_160 (lv_at hl 4 rfl) ?_
      refine lv_bipush (v := 100) hx hb dX9_wait_162 (by decide) ?_
      refine lv_icmp_ge (tgt := 241) hx hb dX9_wait_164 (by decide) (fun c34 => ?_) (fun c34 => ?_)
      · replace hF := (if_pos c34).symm.trans hF
        refine lv_aload_n hx hb dX9_wait_241 rfl (lv_at hl 0 rfl) ?_
        refine lv_iload_n hx hb dX9_wait_242 rfl (lv_at hl 2 rfl) ?_
        refine put_W (k := 6) C0 hK hP (wM_D hA) hS iwX9 tyX9_ok nmX9 0 wM_0 rfl (by decide) mF_X9_126 rfl rfl rfl rfl (Nat.le_of_ble_eq_true rfl) wM_s0_6 dX9_wait_243 (fun H locs hP hS => ?_)
        refine lv_aload_n hx hb dX9_wait_246 rfl (lv_at hl 0 rfl) ?_
        refine lv_iload_n hx hb dX9_wait_247 rfl (lv_at hl 3 rfl) ?_
        refine put_W (k := 11) C0 hK hP (wM_D hA) hS iwX9 tyX9_ok nmX9 0 wM_0 rfl (by decide) mF_X9_35 rfl rfl rfl rfl (Nat.le_of_ble_eq_true rfl) wM_s0_11 dX9_wait_248 (fun H locs hP hS => ?_)
        refine lv_iconst (v := 0) hx hb dX9_wait_251 (by decide) ?_
        refine lv_istore (lv' := [(6, .int 0), (0, .ref (ad 0)), (1, .int z1), (2, .int z2), (3, .int z3), (4, .int x4), (5, .int x5)]) hx hb dX9_wait_252 hl (by decide) rfl (fun ls hl => ?_)
        exact lpX9_wait_254 g ad z1 z2 z3 x4 x5 r mem2 C0 fu (up2 (up2 mem 0 6 z2) 0 11 z3) 0 _ _ ls hF hP hS (lv_sub hl [1, 2, 3, 4, 5, 6, 0] rfl)
      · replace hF := (if_neg c34).symm.trans hF
        refine lv_aload_n hx hb dX9_wait_167 rfl (lv_at hl 0 rfl) ?_
        refine get_W C0 hK hP iwX9 0 wM_0 rfl 7 (by decide) mF_X9_26 rfl rfl dX9_wait_168 ?_
        refine lv_iload hx hb dX9_wait_171 (lv_at hl 5 rfl) ?_
        obtain ⟨g35, hF⟩ := gI_some hF
        refine va_iald hx hb hK hP 6 0 wM_6 rfl g35 dX9_wait_173 ?_
        refine lv_istore (lv' := [(6, .int (mem 6 x5.toNatClampNeg)), (0, .ref (ad 0)), (1, .int z1), (2, .int z2), (3, .int z3), (4, .int x4), (5, .int x5)]) hx hb dX9_wait_174 hl (by decide) rfl (fun ls hl => ?_)
        refine lv_aload_n hx hb dX9_wait_176 rfl (lv_at hl 1 rfl) ?_
        refine lv_iload hx hb dX9_wait_177 (lv_at hl 6 rfl) ?_
        obtain ⟨m37, h36, hF⟩ := ob_some hF
        refine cV_Wv C0 eM_st hP hS hK pkX9_goes (As := [.int x5]) (rest := []) (kX9_goes l g ad mem x5 m37 h36) mL_X9_142 ⟨rfl, rfl, Nat.le_of_ble_eq_true rfl, Nat.le_of_ble_eq_true rfl, Nat.le_of_ble_eq_true rfl, Nat.le_of_ble_eq_true rfl⟩ 0 wM_0 rfl rfl rfl hl.1 rfl (Nat.le_of_ble_eq_true rfl) dX9_wait_179 (fun H locs _ hP hS => ?_)
        refine lv_aload_n hx hb dX9_wait_182 rfl (lv_at hl 1 rfl) ?_
        refine get_W C0 hK hP iwX9 0 wM_0 rfl 5 (by decide) mF_X9_23 rfl rfl dX9_wait_183 ?_
        refine lv_iload hx hb dX9_wait_186 (lv_at hl 0 rfl) ?_
        refine lv_dup2_11 hx hb dX9_wait_188 rfl rfl ?_
        obtain ⟨g38, hF⟩ := gI_some hF
        refine va_iald hx hb hK hP 5 0 wM_5 rfl g38 dX9_wait_189 ?_
        refine lv_iconst (v := 1) hx hb dX9_wait_190 (by decide) ?_
        refine lv_iadd hx hb dX9_wait_191 ?_
        obtain ⟨g39, hF⟩ := gI_some hF
        refine iast_W C0 hK hP (wM_D hA) hS 5 wM_5 g39 wM_s5 dX9_wait_192 (fun H locs hP hS => ?_)
        refine lv_aload_n hx hb dX9_wait_193 rfl (lv_at hl 1 rfl) ?_
        refine lv_aload_n hx hb dX9_wait_194 rfl (lv_at hl 1 rfl) ?_
        refine get_W C0 hK hP iwX9 0 wM_0 rfl 2 (by decide) mF_X9_13 rfl rfl dX9_wait_195 ?_
        refine lv_iload hx hb dX9_wait_198 (lv_at hl 0 rfl) ?_
        obtain ⟨g40, hF⟩ := gI_some hF
        refine va_iald hx hb hK hP 2 0 wM_2 rfl g40 dX9_wait_200 ?_
        refine put_W (k := 11) C0 hK hP (wM_D hA) hS iwX9 tyX9_ok nmX9 0 wM_0 rfl (by decide) mF_X9_35 rfl rfl rfl rfl (Nat.le_of_ble_eq_true rfl) wM_s0_11 dX9_wait_201 (fun H locs hP hS => ?_)
        refine lv_aload_n hx hb dX9_wait_204 rfl (lv_at hl 1 rfl) ?_
        refine get_W C0 hK hP iwX9 0 wM_0 rfl 4 (by decide) mF_X9_20 rfl rfl dX9_wait_205 ?_
        refine lv_iload hx hb dX9_wait_208 (lv_at hl 0 rfl) ?_
        refine lv_dup2_11 hx hb dX9_wait_210 rfl rfl ?_
        obtain ⟨g41, hF⟩ := gI_some hF
        refine va_iald hx hb hK hP 4 0 wM_4 rfl g41 dX9_wait_211 ?_
        refine lv_aload_n hx hb dX9_wait_212 rfl (lv_at hl 1 rfl) ?_
        refine lv_iload hx hb dX9_wait_213 (lv_at hl 0 rfl) ?_
        refine lv_iconst (v := 0) hx hb dX9_wait_215 (by decide) ?_
        obtain ⟨r43, h42, hF⟩ := ob_some hF
        refine cV_Ri C0 eM_st hP hS hK pkX9_limitOf (As := [.int (mem 6 x5.toNatClampNeg), .int 0]) (rest := [.int ((up2 (up2 m37 5 (mem 6 x5.toNatClampNeg).toNatClampNeg ((m37 5 (mem 6 x5.toNatClampNeg).toNatClampNeg) + 1)) 0 11 ((up2 m37 5 (mem 6 x5.toNatClampNeg).toNatClampNeg ((m37 5 (mem 6 x5.toNatClampNeg).toNatClampNeg) + 1)) 2 (mem 6 x5.toNatClampNeg).toNatClampNeg)) 4 (mem 6 x5.toNatClampNeg).toNatClampNeg), .int (mem 6 x5.toNatClampNeg), .ref (ad 4)]) (kX9_limitOf l g ad (up2 (up2 m37 5 (mem 6 x5.toNatClampNeg).toNatClampNeg ((m37 5 (mem 6 x5.toNatClampNeg).toNatClampNeg) + 1)) 0 11 ((up2 m37 5 (mem 6 x5.toNatClampNeg).toNatClampNeg ((m37 5 (mem 6 x5.toNatClampNeg).toNatClampNeg) + 1)) 2 (mem 6 x5.toNatClampNeg).toNatClampNeg)) (mem 6 x5.toNatClampNeg) 0 r43 h42) mL_X9_168 ⟨rfl, rfl, Nat.le_of_ble_eq_true rfl, Nat.le_of_ble_eq_true rfl, Nat.le_of_ble_eq_true rfl, Nat.le_of_ble_eq_true rfl⟩ 0 wM_0 rfl rfl rfl hl.1 rfl (Nat.le_of_ble_eq_true rfl) dX9_wait_216 (fun _ => ?_)
        refine lv_iadd hx hb dX9_wait_219 ?_
        obtain ⟨g44, hF⟩ := gI_some hF
        refine iast_W C0 hK hP (wM_D hA) hS 4 wM_4 g44 wM_s4 dX9_wait_220 (fun H locs hP hS => ?_)
        refine lv_aload_n hx hb dX9_wait_221 rfl (lv_at hl 1 rfl) ?_
        refine lv_iload hx hb dX9_wait_222 (lv_at hl 0 rfl) ?_
        refine lv_iconst (v := 0) hx hb dX9_wait_224 (by decide) ?_
        obtain ⟨m46, h45, hF⟩ := ob_some hF
        refine cV_Wv C0 eM_st hP hS hK pkX9_comes (As := [.int (mem 6 x5.toNatClampNeg), .int 0]) (rest := []) (kX9_comes l g ad (up2 (up2 (up2 m37 5 (mem 6 x5.toNatClampNeg).toNatClampNeg ((m37 5 (mem 6 x5.toNatClampNeg).toNatClampNeg) + 1)) 0 11 ((up2 m37 5 (mem 6 x5.toNatClampNeg).toNatClampNeg ((m37 5 (mem 6 x5.toNatClampNeg).toNatClampNeg) + 1)) 2 (mem 6 x5.toNatClampNeg).toNatClampNeg)) 4 (mem 6 x5.toNatClampNeg).toNatClampNeg (((up2 (up2 m37 5 (mem 6 x5.toNatClampNeg).toNatClampNeg ((m37 5 (mem 6 x5.toNatClampNeg).toNatClampNeg) + 1)) 0 11 ((up2 m37 5 (mem 6 x5.toNatClampNeg).toNatClampNeg ((m37 5 (mem 6 x5.toNatClampNeg).toNatClampNeg) + 1)) 2 (mem 6 x5.toNatClampNeg).toNatClampNeg)) 4 (mem 6 x5.toNatClampNeg).toNatClampNeg) + r43)) (mem 6 x5.toNatClampNeg) 0 m46 h45) mL_X9_137 ⟨rfl, rfl, Nat.le_of_ble_eq_true rfl, Nat.le_of_ble_eq_true rfl, Nat.le_of_ble_eq_true rfl, Nat.le_of_ble_eq_true rfl⟩ 0 wM_0 rfl rfl rfl hl.1 rfl (Nat.le_of_ble_eq_true rfl) dX9_wait_225 (fun H locs _ hP hS => ?_)
        refine lv_iinc (v := x4 + 1) (lv' := [(4, .int (x4 + 1)), (6, .int (mem 6 x5.toNatClampNeg)), (0, .ref (ad 0)), (1, .int z1), (2, .int z2), (3, .int z3), (5, .int x5)]) hx hb dX9_wait_228 hl (k := 5) rfl rfl (by decide) rfl (fun ls hl => ?_)
        refine lv_aload_n hx hb dX9_wait_231 rfl (lv_at hl 2 rfl) ?_
        refine lv_iconst (v := 0) hx hb dX9_wait_232 (by decide) ?_
        obtain ⟨r49, m48, h47, hF⟩ := ob2_some hF
        refine cV_Wi C0 eM_st hP hS hK pkX9_firstOf (As := [.int 0]) (rest := []) (kX9_firstOf l g ad m46 0 r49 m48 h47) mL_X9_165 ⟨rfl, rfl, Nat.le_of_ble_eq_true rfl, Nat.le_of_ble_eq_true rfl, Nat.le_of_ble_eq_true rfl, Nat.le_of_ble_eq_true rfl⟩ 0 wM_0 rfl rfl rfl hl.1 rfl (Nat.le_of_ble_eq_true rfl) dX9_wait_233 (fun H locs _ hP hS => ?_)
        refine lv_istore (lv' := [(5, .int r49), (4, .int (x4 + 1)), (6, .int (mem 6 x5.toNatClampNeg)), (0, .ref (ad 0)), (1, .int z1), (2, .int z2), (3, .int z3)]) hx hb dX9_wait_236 hl (by decide) rfl (fun ls hl => ?_)
        refine lv_goto (tgt := 149) hx hb dX9_wait_238 (by decide) ?_
        exact ih m48 (x4 + 1) r49 _ _ ls hF hP hS (lv_sub hl [3, 4, 5, 6, 1, 0] rfl)
def fX9_wait_96 (z1 : Int32) (z2 : Int32) (z3 : Int32) : Nat → Mem → Int32 → Option (Int32 × Mem)
  | 0, _, _ => none
  | n + 1, mem, x4 =>
    if mem 0 0 ≤ x4 then (ob2 (fX9_firstOf mem 0) (fun r17 m16 => fX9_wait_149 z1 z2 z3 fu m16 0 r17)) else (gI x4 10 (gI x4 10 (gI x4 10 (gI x4 10 (fX9_wait_96 z1 z2 z3 n (up2 (up2 mem 26 x4.toNatClampNeg (mem 4 x4.toNatClampNeg)) 27 x4.toNatClampNeg ((up2 mem 26 x4.toNatClampNeg (mem 4 x4.toNatClampNeg)) 5 x4.toNatClampNeg)) (x4 + 1))))))
set_option maxHeartbeats 4000000 in
set_option maxRecDepth 100000 in
theorem lpX9_wait_96 {p : Program} {l : Launch} {e : Env} {s : State} {m : MethodId} {args : Array Value} {below : List Frame} {meth : Method} {c : Code} (g : gG) (ad : Nat → Nat) (z1 : Int32) (z2 : Int32) (z3 : Int32) (r : Int32) (mem2 : Mem) (C0 : cxt (eM g ad) cX9_wait 7 RX9 (some .int) p s m args meth c) :
    ∀ (n : Nat) (mem : Mem) (x4 : Int32) (H : Heap) (locs : List Loc) (ls : Array Slot), fX9_wait_96 z1 z2 z3 n mem x4 = some (r, mem2) → va_P g.1 vwCl (wM g ad mem) H → va_S (AW 29 ad) s.heap H locs → lv_has ls 7 [(0, .ref (ad 0)), (1, .int z1), (2, .int z2), (3, .int z3), (4, .int x4)] → W p l e { frames := 6, cells := 0, slots := 0, locals := 139 } s m args below meth c H locs 0 0 (MQ below (qW (wM g ad mem2) g (AW 29 ad) (some (.int r)) (True)) args s 0 0 (AW 29 ad)) (F0 m 96 ls []) := by
  obtain ⟨hx, hb, hml, hown, hts, hr, hlk, hE⟩ := id C0
  obtain ⟨hK, hA⟩ := id hE
  intro n
  induction n with
  | zero =>
    intro mem x4 H locs ls hF hP hS hl
    cases hF
  | succ n ih =>
    intro mem x4 H locs ls hF hP hS hl
    rw [fX9_wait_96] at hF
    refine lv_iload hx hb dX9_wait_96 (lv_at hl 4 rfl) ?_
    refine lv_aload_n hx hb dX9_wait_98 rfl (lv_at hl 0 rfl) ?_
    refine get_W C0 hK hP iwX9 0 wM_0 rfl 0 (by decide) mF_X9_102 rfl rfl dX9_wait_99 ?_
    refine lv_icmp_ge (tgt := 139) hx hb dX9_wait_102 (by decide) (fun c14 => ?_) (fun c14 => ?_)
    · replace hF := (if_pos c14).symm.trans hF
      refine lv_iconst (v := 0) hx hb dX9_wait_139 (by decide) ?_
      refine lv_istore (lv' := [(4, .int 0), (0, .ref (ad 0)), (1, .int z1), (2, .int z2), (3, .int z3)]) hx hb dX9_wait_140 hl (by decide) rfl (fun ls hl => ?_)
      refine lv_aload_n hx hb dX9_wait_142 rfl (lv_at hl 1 rfl) ?_
      refine lv_iconst (v := 0) hx hb dX9_wait_143 (by decide) ?_
      obtain ⟨r17, m16, h15, hF⟩ := ob2_some hF
      refine cV_Wi C0 eM_st hP hS hK pkX9_firstOf (As := [.int 0]) (rest := []) (kX9_firstOf l g ad mem 0 r17 m16 h15) mL_X9_165 ⟨rfl, rfl, Nat.le_of_ble_eq_true rfl, Nat.le_of_ble_eq_true rfl, Nat.le_of_ble_eq_true rfl, Nat.le_of_ble_eq_true rfl⟩ 0 wM_0 rfl rfl rfl hl.1 rfl (Nat.le_of_ble_eq_true rfl) dX9_wait_144 (fun H locs _ hP hS => ?_)
      refine lv_istore (lv' := [(5, .int r17), (4, .int 0), (0, .ref (ad 0)), (1, .int z1), (2, .int z2), (3, .int z3)]) hx hb dX9_wait_147 hl (by decide) rfl (fun ls hl => ?_)
      exact lpX9_wait_149 g ad z1 z2 z3 r mem2 C0 fu m16 0 r17 _ _ ls hF hP hS (lv_sub hl [2, 3, 4, 5, 1, 0] rfl)
    · replace hF := (if_neg c14).symm.trans hF
      refine lv_aload_n hx hb dX9_wait_105 rfl (lv_at hl 0 rfl) ?_
      refine get_W C0 hK hP iwX9 0 wM_0 rfl 36 (by decide) mF_X9_90 rfl rfl dX9_wait_106 ?_
      refine lv_iload hx hb dX9_wait_109 (lv_at hl 4 rfl) ?_
      refine lv_aload_n hx hb dX9_wait_111 rfl (lv_at hl 0 rfl) ?_
      refine get_W C0 hK hP iwX9 0 wM_0 rfl 4 (by decide) mF_X9_20 rfl rfl dX9_wait_112 ?_
      refine lv_iload hx hb dX9_wait_115 (lv_at hl 4 rfl) ?_
      obtain ⟨g50, hF⟩ := gI_some hF
      refine va_iald hx hb hK hP 4 0 wM_4 rfl g50 dX9_wait_117 ?_
      obtain ⟨g51, hF⟩ := gI_some hF
      refine iast_W C0 hK hP (wM_D hA) hS 26 wM_26 g51 wM_s26 dX9_wait_118 (fun H locs hP hS => ?_)
      refine lv_aload_n hx hb dX9_wait_119 rfl (lv_at hl 0 rfl) ?_
      refine get_W C0 hK hP iwX9 0 wM_0 rfl 37 (by decide) mF_X9_93 rfl rfl dX9_wait_120 ?_
      refine lv_iload hx hb dX9_wait_123 (lv_at hl 4 rfl) ?_
      refine lv_aload_n hx hb dX9_wait_125 rfl (lv_at hl 0 rfl) ?_
      refine get_W C0 hK hP iwX9 0 wM_0 rfl 5 (by decide) mF_X9_23 rfl rfl dX9_wait_126 ?_
      refine lv_iload hx hb dX9_wait_129 (lv_at hl 4 rfl) ?_
      obtain ⟨g52, hF⟩ := gI_some hF
      refine va_iald hx hb hK hP 5 0 wM_5 rfl g52 dX9_wait_131 ?_
      obtain ⟨g53, hF⟩ := gI_some hF
      refine iast_W C0 hK hP (wM_D hA) hS 27 wM_27 g53 wM_s27 dX9_wait_132 (fun H locs hP hS => ?_)
      refine lv_iinc (v := x4 + 1) (lv' := [(4, .int (x4 + 1)), (0, .ref (ad 0)), (1, .int z1), (2, .int z2), (3, .int z3)]) hx hb dX9_wait_133 hl (k := 4) rfl rfl (by decide) rfl (fun ls hl => ?_)
      refine lv_goto (tgt := 96) hx hb dX9_wait_136 (by decide) ?_
      exact ih (up2 (up2 mem 26 x4.toNatClampNeg (mem 4 x4.toNatClampNeg)) 27 x4.toNatClampNeg ((up2 mem 26 x4.toNatClampNeg (mem 4 x4.toNatClampNeg)) 5 x4.toNatClampNeg)) (x4 + 1) _ _ ls hF hP hS (lv_sub hl [1, 2, 3, 4, 0] rfl)
def fX9_wait_53 (z1 : Int32) (z2 : Int32) (z3 : Int32) : Nat → Mem → Int32 → Option (Int32 × Mem)
  | 0, _, _ => none
  | n + 1, mem, x4 =>
    if z2 ≤ x4 then (fX9_wait_96 z1 z2 z3 fu mem 0) else (gI x4 20 (gI x4 20 (gI x4 20 (gI x4 20 (fX9_wait_53 z1 z2 z3 n (up2 (up2 mem 24 x4.toNatClampNeg (mem 6 x4.toNatClampNeg)) 25 x4.toNatClampNeg ((up2 mem 24 x4.toNatClampNeg (mem 6 x4.toNatClampNeg)) 7 x4.toNatClampNeg)) (x4 + 1))))))
set_option maxHeartbeats 4000000 in
set_option maxRecDepth 100000 in
theorem lpX9_wait_53 {p : Program} {l : Launch} {e : Env} {s : State} {m : MethodId} {args : Array Value} {below : List Frame} {meth : Method} {c : Code} (g : gG) (ad : Nat → Nat) (z1 : Int32) (z2 : Int32) (z3 : Int32) (r : Int32) (mem2 : Mem) (C0 : cxt (eM g ad) cX9_wait 7 RX9 (some .int) p s m args meth c) :
    ∀ (n : Nat) (mem : Mem) (x4 : Int32) (H : Heap) (locs : List Loc) (ls : Array Slot), fX9_wait_53 z1 z2 z3 n mem x4 = some (r, mem2) → va_P g.1 vwCl (wM g ad mem) H → va_S (AW 29 ad) s.heap H locs → lv_has ls 7 [(0, .ref (ad 0)), (1, .int z1), (2, .int z2), (3, .int z3), (4, .int x4)] → W p l e { frames := 6, cells := 0, slots := 0, locals := 139 } s m args below meth c H locs 0 0 (MQ below (qW (wM g ad mem2) g (AW 29 ad) (some (.int r)) (True)) args s 0 0 (AW 29 ad)) (F0 m 53 ls []) := by
  obtain ⟨hx, hb, hml, hown, hts, hr, hlk, hE⟩ := id C0
  obtain ⟨hK, hA⟩ := id hE
  intro n
  induction n with
  | zero =>
    intro mem x4 H locs ls hF hP hS hl
    cases hF
  | succ n ih =>
    intro mem x4 H locs ls hF hP hS hl
    rw [fX9_wait_53] at hF
    refine lv_iload hx hb dX9_wait_53 (lv_at hl 4 rfl) ?_
    refine lv_iload_n hx hb dX9_wait_55 rfl (lv_at hl 2 rfl) ?_
    refine lv_icmp_ge (tgt := 93) hx hb dX9_wait_56 (by decide) (fun c13 => ?_) (fun c13 => ?_)
    · replace hF := (if_pos c13).symm.trans hF
      refine lv_iconst (v := 0) hx hb dX9_wait_93 (by decide) ?_
      refine lv_istore (lv' := [(4, .int 0), (0, .ref (ad 0)), (1, .int z1), (2, .int z2), (3, .int z3)]) hx hb dX9_wait_94 hl (by decide) rfl (fun ls hl => ?_)
      exact lpX9_wait_96 g ad z1 z2 z3 r mem2 C0 fu mem 0 _ _ ls hF hP hS (lv_sub hl [1, 2, 3, 4, 0] rfl)
    · replace hF := (if_neg c13).symm.trans hF
      refine lv_aload_n hx hb dX9_wait_59 rfl (lv_at hl 0 rfl) ?_
      refine get_W C0 hK hP iwX9 0 wM_0 rfl 34 (by decide) mF_X9_84 rfl rfl dX9_wait_60 ?_
      refine lv_iload hx hb dX9_wait_63 (lv_at hl 4 rfl) ?_
      refine lv_aload_n hx hb dX9_wait_65 rfl (lv_at hl 0 rfl) ?_
      refine get_W C0 hK hP iwX9 0 wM_0 rfl 7 (by decide) mF_X9_26 rfl rfl dX9_wait_66 ?_
      refine lv_iload hx hb dX9_wait_69 (lv_at hl 4 rfl) ?_
      obtain ⟨g54, hF⟩ := gI_some hF
      refine va_iald hx hb hK hP 6 0 wM_6 rfl g54 dX9_wait_71 ?_
      obtain ⟨g55, hF⟩ := gI_some hF
      refine iast_W C0 hK hP (wM_D hA) hS 24 wM_24 g55 wM_s24 dX9_wait_72 (fun H locs hP hS => ?_)
      refine lv_aload_n hx hb dX9_wait_73 rfl (lv_at hl 0 rfl) ?_
      refine get_W C0 hK hP iwX9 0 wM_0 rfl 35 (by decide) mF_X9_87 rfl rfl dX9_wait_74 ?_
      refine lv_iload hx hb dX9_wait_77 (lv_at hl 4 rfl) ?_
      refine lv_aload_n hx hb dX9_wait_79 rfl (lv_at hl 0 rfl) ?_
      refine get_W C0 hK hP iwX9 0 wM_0 rfl 8 (by decide) mF_X9_29 rfl rfl dX9_wait_80 ?_
      refine lv_iload hx hb dX9_wait_83 (lv_at hl 4 rfl) ?_
      obtain ⟨g56, hF⟩ := gI_some hF
      refine va_iald hx hb hK hP 7 0 wM_7 rfl g56 dX9_wait_85 ?_
      obtain ⟨g57, hF⟩ := gI_some hF
      refine iast_W C0 hK hP (wM_D hA) hS 25 wM_25 g57 wM_s25 dX9_wait_86 (fun H locs hP hS => ?_)
      refine lv_iinc (v := x4 + 1) (lv' := [(4, .int (x4 + 1)), (0, .ref (ad 0)), (1, .int z1), (2, .int z2), (3, .int z3)]) hx hb dX9_wait_87 hl (k := 4) rfl rfl (by decide) rfl (fun ls hl => ?_)
      refine lv_goto (tgt := 53) hx hb dX9_wait_90 (by decide) ?_
      exact ih (up2 (up2 mem 24 x4.toNatClampNeg (mem 6 x4.toNatClampNeg)) 25 x4.toNatClampNeg ((up2 mem 24 x4.toNatClampNeg (mem 6 x4.toNatClampNeg)) 7 x4.toNatClampNeg)) (x4 + 1) _ _ ls hF hP hS (lv_sub hl [1, 2, 3, 4, 0] rfl)
def fX9_wait (mem : Mem) (a1 : Int32) : Option (Int32 × Mem) :=
  ob1 (fX9_isMember mem a1) (fun r2 => if r2 = 0 then (ob2 (fX9_finding mem (-100001)) (fun r63 m62 => some (r63, m62))) else (gI a1 10 (if mem 3 a1.toNatClampNeg = 0 then (ob2 (fX9_finding mem (-100006)) (fun r9 m8 => some (r9, m8))) else (ob1 (fX9_askingOf mem a1 0) (fun r11 => if 0 ≤ r11 then (fX9_wait_53 a1 (mem 0 6) (mem 0 11) fu mem 0) else (ob2 (fX9_finding mem (-100006)) (fun r60 m59 => some (r60, m59))))))))
set_option maxHeartbeats 4000000 in
set_option maxRecDepth 100000 in
theorem kX9_wait (l : Launch) (g : gG) (ad : Nat → Nat) (mem : Mem) (a1 : Int32) (r : Int32) (mem2 : Mem) (hF : fX9_wait mem a1 = some (r, mem2)) : Met l yX9_wait (Cond.code yX9_wait cX9_wait 7 (some .int) :: gw) { frames := 6, cells := 0, slots := 0, locals := 139 } (pG (wM g ad mem) (eM g ad) g [.ref (ad 0), .int a1]) (qW (wM g ad mem2) g (AW 29 ad) (some (.int r)) (True)) 0 0 (AW 29 ad) := by
  refine met_of (by decide) (Nat.le_of_ble_eq_true rfl) ?_
  intro p e s m args below meth c ls C0 hP hl
  obtain ⟨hx, hb, hml, hown, hts, hr, hlk, hE⟩ := id C0
  obtain ⟨hK, hA⟩ := id hE
  have hl : lv_has ls 7 [(0, .ref (ad 0)), (1, .int a1)] := hl
  have hS : va_S (AW 29 ad) s.heap s.heap [] := va_S.rf
  unfold fX9_wait at hF
  refine lv_aload_n hx hb dX9_wait_0 rfl (lv_at hl 0 rfl) ?_
  refine lv_iload_n hx hb dX9_wait_1 rfl (lv_at hl 1 rfl) ?_
  obtain ⟨r2, h1, hF⟩ := ob_some hF
  refine cV_Ri C0 eM_st hP hS hK pkX9_isMember (As := [.int a1]) (rest := []) (kX9_isMember l g ad mem a1 r2 h1) mL_X9_115 ⟨rfl, rfl, Nat.le_of_ble_eq_true rfl, Nat.le_of_ble_eq_true rfl, Nat.le_of_ble_eq_true rfl, Nat.le_of_ble_eq_true rfl⟩ 0 wM_0 rfl rfl rfl hl.1 rfl (Nat.le_of_ble_eq_true rfl) dX9_wait_2 (fun b3 => ?_)
  refine lv_if_ne (tgt := 15) hx hb dX9_wait_5 (by decide) (fun c4 => ?_) (fun c4 => ?_)
  · replace hF := (if_neg c4).symm.trans hF
    refine lv_aload_n hx hb dX9_wait_15 rfl (lv_at hl 0 rfl) ?_
    refine get_W C0 hK hP iwX9 0 wM_0 rfl 3 (by decide) mF_X9_16 rfl rfl dX9_wait_16 ?_
    refine lv_iload_n hx hb dX9_wait_19 rfl (lv_at hl 1 rfl) ?_
    obtain ⟨g5, hF⟩ := gI_some hF
    refine va_zald hx hb hK hP 3 1 wM_3 rfl g5 dX9_wait_20 ?_
    refine lv_if_eq (tgt := 33) hx hb dX9_wait_21 (by decide) (fun c6 => ?_) (fun c6 => ?_)
    · replace hF := (if_pos c6).symm.trans hF
      refine lv_aload_n hx hb dX9_wait_33 rfl (lv_at hl 0 rfl) ?_
      refine lv_ldc hx hb hown (hts _ mK_X9_141) dX9_wait_34 ?_
      obtain ⟨r9, m8, h7, hF⟩ := ob2_some hF
      refine cV_Wi C0 eM_st hP hS hK pkX9_finding (As := [.int (-100006)]) (rest := []) (kX9_finding l g ad mem (-100006) r9 m8 h7) mL_X9_110 ⟨rfl, rfl, Nat.le_of_ble_eq_true rfl, Nat.le_of_ble_eq_true rfl, Nat.le_of_ble_eq_true rfl, Nat.le_of_ble_eq_true rfl⟩ 0 wM_0 rfl rfl rfl hl.1 rfl (Nat.le_of_ble_eq_true rfl) dX9_wait_36 (fun H locs _ hP hS => ?_)
      cases hF
      exact ret_Wi C0 hP hS trivial dX9_wait_39
    · replace hF := (if_neg c6).symm.trans hF
      refine lv_aload_n hx hb dX9_wait_24 rfl (lv_at hl 0 rfl) ?_
      refine lv_iload_n hx hb dX9_wait_25 rfl (lv_at hl 1 rfl) ?_
      refine lv_iconst (v := 0) hx hb dX9_wait_26 (by decide) ?_
      obtain ⟨r11, h10, hF⟩ := ob_some hF
      refine cV_Ri C0 eM_st hP hS hK pkX9_askingOf (As := [.int a1, .int 0]) (rest := []) (kX9_askingOf l g ad mem a1 0 r11 h10) mL_X9_132 ⟨rfl, rfl, Nat.le_of_ble_eq_true rfl, Nat.le_of_ble_eq_true rfl, Nat.le_of_ble_eq_true rfl, Nat.le_of_ble_eq_true rfl⟩ 0 wM_0 rfl rfl rfl hl.1 rfl (Nat.le_of_ble_eq_true rfl) dX9_wait_27 (fun _ => ?_)
      refine lv_if_ge (tgt := 40) hx hb dX9_wait_30 (by decide) (fun c12 => ?_) (fun c12 => ?_)
      · replace hF := (if_pos c12).symm.trans hF
        refine lv_aload_n hx hb dX9_wait_40 rfl (lv_at hl 0 rfl) ?_
        refine get_W C0 hK hP iwX9 0 wM_0 rfl 6 (by decide) mF_X9_126 rfl rfl dX9_wait_41 ?_
        refine lv_istore_n (lv' := [(2, .int (mem 0 6)), (0, .ref (ad 0)), (1, .int a1)]) hx hb dX9_wait_44 rfl hl (by decide) rfl (fun ls hl => ?_)
        refine lv_aload_n hx hb dX9_wait_45 rfl (lv_at hl 1 rfl) ?_
        refine get_W C0 hK hP iwX9 0 wM_0 rfl 11 (by decide) mF_X9_35 rfl rfl dX9_wait_46 ?_
        refine lv_istore_n (lv' := [(3, .int (mem 0 11)), (2, .int (mem 0 6)), (0, .ref (ad 0)), (1, .int a1)]) hx hb dX9_wait_49 rfl hl (by decide) rfl (fun ls hl => ?_)
        refine lv_iconst (v := 0) hx hb dX9_wait_50 (by decide) ?_
        refine lv_istore (lv' := [(4, .int 0), (3, .int (mem 0 11)), (2, .int (mem 0 6)), (0, .ref (ad 0)), (1, .int a1)]) hx hb dX9_wait_51 hl (by decide) rfl (fun ls hl => ?_)
        exact lpX9_wait_53 g ad a1 (mem 0 6) (mem 0 11) r mem2 C0 fu mem 0 _ _ ls hF hP hS (lv_sub hl [3, 4, 2, 1, 0] rfl)
      · replace hF := (if_neg c12).symm.trans hF
        refine lv_aload_n hx hb dX9_wait_33 rfl (lv_at hl 0 rfl) ?_
        refine lv_ldc hx hb hown (hts _ mK_X9_141) dX9_wait_34 ?_
        obtain ⟨r60, m59, h58, hF⟩ := ob2_some hF
        refine cV_Wi C0 eM_st hP hS hK pkX9_finding (As := [.int (-100006)]) (rest := []) (kX9_finding l g ad mem (-100006) r60 m59 h58) mL_X9_110 ⟨rfl, rfl, Nat.le_of_ble_eq_true rfl, Nat.le_of_ble_eq_true rfl, Nat.le_of_ble_eq_true rfl, Nat.le_of_ble_eq_true rfl⟩ 0 wM_0 rfl rfl rfl hl.1 rfl (Nat.le_of_ble_eq_true rfl) dX9_wait_36 (fun H locs _ hP hS => ?_)
        cases hF
        exact ret_Wi C0 hP hS trivial dX9_wait_39
  · replace hF := (if_pos c4).symm.trans hF
    refine lv_aload_n hx hb dX9_wait_8 rfl (lv_at hl 0 rfl) ?_
    refine lv_ldc hx hb hown (hts _ mK_X9_109) dX9_wait_9 ?_
    obtain ⟨r63, m62, h61, hF⟩ := ob2_some hF
    refine cV_Wi C0 eM_st hP hS hK pkX9_finding (As := [.int (-100001)]) (rest := []) (kX9_finding l g ad mem (-100001) r63 m62 h61) mL_X9_110 ⟨rfl, rfl, Nat.le_of_ble_eq_true rfl, Nat.le_of_ble_eq_true rfl, Nat.le_of_ble_eq_true rfl, Nat.le_of_ble_eq_true rfl⟩ 0 wM_0 rfl rfl rfl hl.1 rfl (Nat.le_of_ble_eq_true rfl) dX9_wait_11 (fun H locs _ hP hS => ?_)
    cases hF
    exact ret_Wi C0 hP hS trivial dX9_wait_14
theorem pkX9_fits : pkV yX9_fits cX9_fits 7 (some .int) RX9 2 := ⟨mI_X9_fits, mS_X9_fits, mN_X9, mC_X9_fits, by decide +kernel⟩
def fX9_fits_30 (mem : Mem) (z1 : Int32) (z2 : Int32) : Nat → Int32 → Int32 → Int32 → Option (Int32 × Mem)
  | 0, _, _, _ => none
  | n + 1, x3, x4, x5 =>
    if mem 0 33 ≤ x5 then (some (x3, mem)) else (gI x5 20 (gI (mem 23 x5.toNatClampNeg) 20 (gI x5 20 (gI (mem 23 x5.toNatClampNeg) 20 (ob1 (fX9_limitOf mem (mem 6 (mem 23 x5.toNatClampNeg).toNatClampNeg) (mem 7 (mem 23 x5.toNatClampNeg).toNatClampNeg)) (fun r13 => if x4 < r13 then (if z2 = 0 then (some (x3, mem)) else (fX9_fits_30 mem z1 z2 n x3 x4 (x5 + 1))) else (fX9_fits_30 mem z1 z2 n (x3 + 1) (x4 - r13) (x5 + 1))))))))
set_option maxHeartbeats 4000000 in
set_option maxRecDepth 100000 in
theorem lpX9_fits_30 {p : Program} {l : Launch} {e : Env} {s : State} {m : MethodId} {args : Array Value} {below : List Frame} {meth : Method} {c : Code} (g : gG) (ad : Nat → Nat) (mem : Mem) (z1 : Int32) (z2 : Int32) (r : Int32) (mem2 : Mem) (C0 : cxt (eM g ad) cX9_fits 7 RX9 (some .int) p s m args meth c) :
    ∀ (n : Nat) (x3 : Int32) (x4 : Int32) (x5 : Int32) (H : Heap) (locs : List Loc) (ls : Array Slot), fX9_fits_30 mem z1 z2 n x3 x4 x5 = some (r, mem2) → va_P g.1 vwCl (wM g ad mem) H → va_S (AW 29 ad) s.heap H locs → lv_has ls 7 [(0, .ref (ad 0)), (1, .int z1), (2, .int z2), (3, .int x3), (4, .int x4), (5, .int x5)] → W p l e { frames := 5, cells := 0, slots := 0, locals := 117 } s m args below meth c H locs 0 0 (MQ below (qW (wM g ad mem2) g (AW 29 ad) (some (.int r)) (True)) args s 0 0 (AW 29 ad)) (F0 m 30 ls []) := by
  obtain ⟨hx, hb, hml, hown, hts, hr, hlk, hE⟩ := id C0
  obtain ⟨hK, hA⟩ := id hE
  intro n
  induction n with
  | zero =>
    intro x3 x4 x5 H locs ls hF hP hS hl
    cases hF
  | succ n ih =>
    intro x3 x4 x5 H locs ls hF hP hS hl
    rw [fX9_fits_30] at hF
    refine lv_iload hx hb dX9_fits_30 (lv_at hl 5 rfl) ?_
    refine lv_aload_n hx hb dX9_fits_32 rfl (lv_at hl 0 rfl) ?_
    refine get_W C0 hK hP iwX9 0 wM_0 rfl 33 (by decide) mF_X9_155 rfl rfl dX9_fits_33 ?_
    refine lv_icmp_ge (tgt := 101) hx hb dX9_fits_36 (by decide) (fun c7 => ?_) (fun c7 => ?_)
    · replace hF := (if_pos c7).symm.trans hF
      refine lv_iload_n hx hb dX9_fits_101 rfl (lv_at hl 3 rfl) ?_
      cases hF
      exact ret_Wi C0 hP hS trivial dX9_fits_102
    · replace hF := (if_neg c7).symm.trans hF
      refine lv_aload_n hx hb dX9_fits_39 rfl (lv_at hl 0 rfl) ?_
      refine lv_aload_n hx hb dX9_fits_40 rfl (lv_at hl 0 rfl) ?_
      refine get_W C0 hK hP iwX9 0 wM_0 rfl 7 (by decide) mF_X9_26 rfl rfl dX9_fits_41 ?_
      refine lv_aload_n hx hb dX9_fits_44 rfl (lv_at hl 0 rfl) ?_
      refine get_W C0 hK hP iwX9 0 wM_0 rfl 32 (by decide) mF_X9_81 rfl rfl dX9_fits_45 ?_
      refine lv_iload hx hb dX9_fits_48 (lv_at hl 5 rfl) ?_
      obtain ⟨g8, hF⟩ := gI_some hF
      refine va_iald hx hb hK hP 23 0 wM_23 rfl g8 dX9_fits_50 ?_
      obtain ⟨g9, hF⟩ := gI_some hF
      refine va_iald hx hb hK hP 6 0 wM_6 rfl g9 dX9_fits_51 ?_
      refine lv_aload_n hx hb dX9_fits_52 rfl (lv_at hl 0 rfl) ?_
      refine get_W C0 hK hP iwX9 0 wM_0 rfl 8 (by decide) mF_X9_29 rfl rfl dX9_fits_53 ?_
      refine lv_aload_n hx hb dX9_fits_56 rfl (lv_at hl 0 rfl) ?_
      refine get_W C0 hK hP iwX9 0 wM_0 rfl 32 (by decide) mF_X9_81 rfl rfl dX9_fits_57 ?_
      refine lv_iload hx hb dX9_fits_60 (lv_at hl 5 rfl) ?_
      obtain ⟨g10, hF⟩ := gI_some hF
      refine va_iald hx hb hK hP 23 0 wM_23 rfl g10 dX9_fits_62 ?_
      obtain ⟨g11, hF⟩ := gI_some hF
      refine va_iald hx hb hK hP 7 0 wM_7 rfl g11 dX9_fits_63 ?_
      obtain ⟨r13, h12, hF⟩ := ob_some hF
      refine cV_Ri C0 eM_st hP hS hK pkX9_limitOf (As := [.int (mem 6 (mem 23 x5.toNatClampNeg).toNatClampNeg), .int (mem 7 (mem 23 x5.toNatClampNeg).toNatClampNeg)]) (rest := []) (kX9_limitOf l g ad mem (mem 6 (mem 23 x5.toNatClampNeg).toNatClampNeg) (mem 7 (mem 23 x5.toNatClampNeg).toNatClampNeg) r13 h12) mL_X9_168 ⟨rfl, rfl, Nat.le_of_ble_eq_true rfl, Nat.le_of_ble_eq_true rfl, Nat.le_of_ble_eq_true rfl, Nat.le_of_ble_eq_true rfl⟩ 0 wM_0 rfl rfl rfl hl.1 rfl (Nat.le_of_ble_eq_true rfl) dX9_fits_64 (fun _ => ?_)
      refine lv_istore (lv' := [(6, .int r13), (0, .ref (ad 0)), (1, .int z1), (2, .int z2), (3, .int x3), (4, .int x4), (5, .int x5)]) hx hb dX9_fits_67 hl (by decide) rfl (fun ls hl => ?_)
      refine lv_iload hx hb dX9_fits_69 (lv_at hl 0 rfl) ?_
      refine lv_iload hx hb dX9_fits_71 (lv_at hl 5 rfl) ?_
      refine lv_icmp_gt (tgt := 89) hx hb dX9_fits_73 (by decide) (fun c14 => ?_) (fun c14 => ?_)
      · replace hF := (if_pos c14).symm.trans hF
        refine lv_iload_n hx hb dX9_fits_89 rfl (lv_at hl 3 rfl) ?_
        refine lv_if_ne (tgt := 95) hx hb dX9_fits_90 (by decide) (fun c15 => ?_) (fun c15 => ?_)
        · replace hF := (if_neg c15).symm.trans hF
          refine lv_iinc (v := x5 + 1) (lv' := [(5, .int (x5 + 1)), (6, .int r13), (0, .ref (ad 0)), (1, .int z1), (2, .int z2), (3, .int x3), (4, .int x4)]) hx hb dX9_fits_95 hl (k := 6) rfl rfl (by decide) rfl (fun ls hl => ?_)
          refine lv_goto (tgt := 30) hx hb dX9_fits_98 (by decide) ?_
          exact ih x3 x4 (x5 + 1) _ _ ls hF hP hS (lv_sub hl [2, 3, 4, 5, 6, 0] rfl)
        · replace hF := (if_pos c15).symm.trans hF
          refine lv_iload_n hx hb dX9_fits_93 rfl (lv_at hl 4 rfl) ?_
          cases hF
          exact ret_Wi C0 hP hS trivial dX9_fits_94
      · replace hF := (if_neg c14).symm.trans hF
        refine lv_iinc (v := x3 + 1) (lv' := [(3, .int (x3 + 1)), (6, .int r13), (0, .ref (ad 0)), (1, .int z1), (2, .int z2), (4, .int x4), (5, .int x5)]) hx hb dX9_fits_76 hl (k := 4) rfl rfl (by decide) rfl (fun ls hl => ?_)
        refine lv_iload hx hb dX9_fits_79 (lv_at hl 5 rfl) ?_
        refine lv_iload hx hb dX9_fits_81 (lv_at hl 1 rfl) ?_
        refine lv_isub hx hb dX9_fits_83 ?_
        refine lv_istore (lv' := [(4, .int (x4 - r13)), (3, .int (x3 + 1)), (6, .int r13), (0, .ref (ad 0)), (1, .int z1), (2, .int z2), (5, .int x5)]) hx hb dX9_fits_84 hl (by decide) rfl (fun ls hl => ?_)
        refine lv_goto (tgt := 95) hx hb dX9_fits_86 (by decide) ?_
        refine lv_iinc (v := x5 + 1) (lv' := [(5, .int (x5 + 1)), (4, .int (x4 - r13)), (3, .int (x3 + 1)), (6, .int r13), (0, .ref (ad 0)), (1, .int z1), (2, .int z2)]) hx hb dX9_fits_95 hl (k := 6) rfl rfl (by decide) rfl (fun ls hl => ?_)
        refine lv_goto (tgt := 30) hx hb dX9_fits_98 (by decide) ?_
        exact ih (x3 + 1) (x4 - r13) (x5 + 1) _ _ ls hF hP hS (lv_sub hl [4, 5, 6, 2, 1, 0] rfl)
def fX9_fits (mem : Mem) (a1 : Int32) (a2 : Int32) : Option (Int32 × Mem) :=
  ob1 (fX9_isIn a1 0 1000) (fun r2 => if r2 = 0 then (ob2 (fX9_finding mem (-100001)) (fun r18 m17 => some (r18, m17))) else (ob1 (fX9_tellList mem) (fun m6 => fX9_fits_30 m6 a1 a2 fu 0 a1 0)))
set_option maxHeartbeats 4000000 in
set_option maxRecDepth 100000 in
theorem kX9_fits (l : Launch) (g : gG) (ad : Nat → Nat) (mem : Mem) (a1 : Int32) (a2 : Int32) (r : Int32) (mem2 : Mem) (hF : fX9_fits mem a1 a2 = some (r, mem2)) : Met l yX9_fits (Cond.code yX9_fits cX9_fits 7 (some .int) :: gw) { frames := 5, cells := 0, slots := 0, locals := 117 } (pG (wM g ad mem) (eM g ad) g [.ref (ad 0), .int a1, .int a2]) (qW (wM g ad mem2) g (AW 29 ad) (some (.int r)) (True)) 0 0 (AW 29 ad) := by
  refine met_of (by decide) (Nat.le_of_ble_eq_true rfl) ?_
  intro p e s m args below meth c ls C0 hP hl
  obtain ⟨hx, hb, hml, hown, hts, hr, hlk, hE⟩ := id C0
  obtain ⟨hK, hA⟩ := id hE
  have hl : lv_has ls 7 [(0, .ref (ad 0)), (1, .int a1), (2, .int a2)] := hl
  have hS : va_S (AW 29 ad) s.heap s.heap [] := va_S.rf
  unfold fX9_fits at hF
  refine lv_iload_n hx hb dX9_fits_0 rfl (lv_at hl 1 rfl) ?_
  refine lv_iconst (v := 0) hx hb dX9_fits_1 (by decide) ?_
  refine lv_sipush (v := 1000) hx hb dX9_fits_2 (by decide) ?_
  obtain ⟨r2, h1, hF⟩ := ob_some hF
  refine cS_Ri C0 pkX9_isIn (As := [.int a1, .int 0, .int 1000]) (rest := []) (kX9_isIn l g a1 0 1000 r2 h1) mL_X9_105 ⟨rfl, rfl, Nat.le_of_ble_eq_true rfl, Nat.le_of_ble_eq_true rfl, Nat.le_of_ble_eq_true rfl, Nat.le_of_ble_eq_true rfl⟩ rfl hl.1 rfl (Nat.le_of_ble_eq_true rfl) dX9_fits_5 (fun b3 => ?_)
  refine lv_if_ne (tgt := 18) hx hb dX9_fits_8 (by decide) (fun c4 => ?_) (fun c4 => ?_)
  · replace hF := (if_neg c4).symm.trans hF
    refine lv_aload_n hx hb dX9_fits_18 rfl (lv_at hl 0 rfl) ?_
    obtain ⟨m6, h5, hF⟩ := ob_some hF
    refine cV_Wv C0 eM_st hP hS hK pkX9_tellList (As := []) (rest := []) (kX9_tellList l g ad mem m6 h5) mL_X9_162 ⟨rfl, rfl, Nat.le_of_ble_eq_true rfl, Nat.le_of_ble_eq_true rfl, Nat.le_of_ble_eq_true rfl, Nat.le_of_ble_eq_true rfl⟩ 0 wM_0 rfl rfl rfl hl.1 rfl (Nat.le_of_ble_eq_true rfl) dX9_fits_19 (fun H locs _ hP hS => ?_)
    refine lv_iconst (v := 0) hx hb dX9_fits_22 (by decide) ?_
    refine lv_istore_n (lv' := [(3, .int 0), (0, .ref (ad 0)), (1, .int a1), (2, .int a2)]) hx hb dX9_fits_23 rfl hl (by decide) rfl (fun ls hl => ?_)
    refine lv_iload_n hx hb dX9_fits_24 rfl (lv_at hl 2 rfl) ?_
    refine lv_istore (lv' := [(4, .int a1), (3, .int 0), (0, .ref (ad 0)), (1, .int a1), (2, .int a2)]) hx hb dX9_fits_25 hl (by decide) rfl (fun ls hl => ?_)
    refine lv_iconst (v := 0) hx hb dX9_fits_27 (by decide) ?_
    refine lv_istore (lv' := [(5, .int 0), (4, .int a1), (3, .int 0), (0, .ref (ad 0)), (1, .int a1), (2, .int a2)]) hx hb dX9_fits_28 hl (by decide) rfl (fun ls hl => ?_)
    exact lpX9_fits_30 g ad m6 a1 a2 r mem2 C0 fu 0 a1 0 _ _ ls hF hP hS (lv_sub hl [3, 4, 5, 2, 1, 0] rfl)
  · replace hF := (if_pos c4).symm.trans hF
    refine lv_aload_n hx hb dX9_fits_11 rfl (lv_at hl 0 rfl) ?_
    refine lv_ldc hx hb hown (hts _ mK_X9_109) dX9_fits_12 ?_
    obtain ⟨r18, m17, h16, hF⟩ := ob2_some hF
    refine cV_Wi C0 eM_st hP hS hK pkX9_finding (As := [.int (-100001)]) (rest := []) (kX9_finding l g ad mem (-100001) r18 m17 h16) mL_X9_110 ⟨rfl, rfl, Nat.le_of_ble_eq_true rfl, Nat.le_of_ble_eq_true rfl, Nat.le_of_ble_eq_true rfl, Nat.le_of_ble_eq_true rfl⟩ 0 wM_0 rfl rfl rfl hl.1 rfl (Nat.le_of_ble_eq_true rfl) dX9_fits_14 (fun H locs _ hP hS => ?_)
    cases hF
    exact ret_Wi C0 hP hS trivial dX9_fits_17
theorem pkX9_take : pkV yX9_take cX9_take 4 (some .int) RX9 1 := ⟨mI_X9_take, mS_X9_take, mN_X9, mC_X9_take, by decide +kernel⟩
def fX9_take (mem : Mem) (a1 : Int32) : Option (Int32 × Mem) :=
  gI a1 20 (gI a1 20 (ob1 (fX9_goes mem a1) (fun m4 => gI (m4 0 12) 5 (gI ((up2 m4 9 (m4 0 12).toNatClampNeg (mem 6 a1.toNatClampNeg)) 0 12) 5 (ob1 (fX9_limitOf (up2 (up2 m4 9 (m4 0 12).toNatClampNeg (mem 6 a1.toNatClampNeg)) 10 ((up2 m4 9 (m4 0 12).toNatClampNeg (mem 6 a1.toNatClampNeg)) 0 12).toNatClampNeg (mem 7 a1.toNatClampNeg)) (mem 6 a1.toNatClampNeg) (mem 7 a1.toNatClampNeg)) (fun r8 => gI ((up2 (up2 m4 9 (m4 0 12).toNatClampNeg (mem 6 a1.toNatClampNeg)) 10 ((up2 m4 9 (m4 0 12).toNatClampNeg (mem 6 a1.toNatClampNeg)) 0 12).toNatClampNeg (mem 7 a1.toNatClampNeg)) 0 12) 5 (gI ((up2 (up2 (up2 m4 9 (m4 0 12).toNatClampNeg (mem 6 a1.toNatClampNeg)) 10 ((up2 m4 9 (m4 0 12).toNatClampNeg (mem 6 a1.toNatClampNeg)) 0 12).toNatClampNeg (mem 7 a1.toNatClampNeg)) 11 ((up2 (up2 m4 9 (m4 0 12).toNatClampNeg (mem 6 a1.toNatClampNeg)) 10 ((up2 m4 9 (m4 0 12).toNatClampNeg (mem 6 a1.toNatClampNeg)) 0 12).toNatClampNeg (mem 7 a1.toNatClampNeg)) 0 12).toNatClampNeg r8) 0 12) 5 (gI (mem 6 a1.toNatClampNeg) 10 (if mem 7 a1.toNatClampNeg = 0 then (gI (mem 6 a1.toNatClampNeg) 10 (gI (mem 6 a1.toNatClampNeg) 10 (some (mem 6 a1.toNatClampNeg, up2 (up2 (up2 (up2 (up2 (up2 (up2 m4 9 (m4 0 12).toNatClampNeg (mem 6 a1.toNatClampNeg)) 10 ((up2 m4 9 (m4 0 12).toNatClampNeg (mem 6 a1.toNatClampNeg)) 0 12).toNatClampNeg (mem 7 a1.toNatClampNeg)) 11 ((up2 (up2 m4 9 (m4 0 12).toNatClampNeg (mem 6 a1.toNatClampNeg)) 10 ((up2 m4 9 (m4 0 12).toNatClampNeg (mem 6 a1.toNatClampNeg)) 0 12).toNatClampNeg (mem 7 a1.toNatClampNeg)) 0 12).toNatClampNeg r8) 12 ((up2 (up2 (up2 m4 9 (m4 0 12).toNatClampNeg (mem 6 a1.toNatClampNeg)) 10 ((up2 m4 9 (m4 0 12).toNatClampNeg (mem 6 a1.toNatClampNeg)) 0 12).toNatClampNeg (mem 7 a1.toNatClampNeg)) 11 ((up2 (up2 m4 9 (m4 0 12).toNatClampNeg (mem 6 a1.toNatClampNeg)) 10 ((up2 m4 9 (m4 0 12).toNatClampNeg (mem 6 a1.toNatClampNeg)) 0 12).toNatClampNeg (mem 7 a1.toNatClampNeg)) 0 12).toNatClampNeg r8) 0 12).toNatClampNeg 0) 0 12 (((up2 (up2 (up2 (up2 m4 9 (m4 0 12).toNatClampNeg (mem 6 a1.toNatClampNeg)) 10 ((up2 m4 9 (m4 0 12).toNatClampNeg (mem 6 a1.toNatClampNeg)) 0 12).toNatClampNeg (mem 7 a1.toNatClampNeg)) 11 ((up2 (up2 m4 9 (m4 0 12).toNatClampNeg (mem 6 a1.toNatClampNeg)) 10 ((up2 m4 9 (m4 0 12).toNatClampNeg (mem 6 a1.toNatClampNeg)) 0 12).toNatClampNeg (mem 7 a1.toNatClampNeg)) 0 12).toNatClampNeg r8) 12 ((up2 (up2 (up2 m4 9 (m4 0 12).toNatClampNeg (mem 6 a1.toNatClampNeg)) 10 ((up2 m4 9 (m4 0 12).toNatClampNeg (mem 6 a1.toNatClampNeg)) 0 12).toNatClampNeg (mem 7 a1.toNatClampNeg)) 11 ((up2 (up2 m4 9 (m4 0 12).toNatClampNeg (mem 6 a1.toNatClampNeg)) 10 ((up2 m4 9 (m4 0 12).toNatClampNeg (mem 6 a1.toNatClampNeg)) 0 12).toNatClampNeg (mem 7 a1.toNatClampNeg)) 0 12).toNatClampNeg r8) 0 12).toNatClampNeg 0) 0 12) + 1)) 5 (mem 6 a1.toNatClampNeg).toNatClampNeg (((up2 (up2 (up2 (up2 (up2 m4 9 (m4 0 12).toNatClampNeg (mem 6 a1.toNatClampNeg)) 10 ((up2 m4 9 (m4 0 12).toNatClampNeg (mem 6 a1.toNatClampNeg)) 0 12).toNatClampNeg (mem 7 a1.toNatClampNeg)) 11 ((up2 (up2 m4 9 (m4 0 12).toNatClampNeg (mem 6 a1.toNatClampNeg)) 10 ((up2 m4 9 (m4 0 12).toNatClampNeg (mem 6 a1.toNatClampNeg)) 0 12).toNatClampNeg (mem 7 a1.toNatClampNeg)) 0 12).toNatClampNeg r8) 12 ((up2 (up2 (up2 m4 9 (m4 0 12).toNatClampNeg (mem 6 a1.toNatClampNeg)) 10 ((up2 m4 9 (m4 0 12).toNatClampNeg (mem 6 a1.toNatClampNeg)) 0 12).toNatClampNeg (mem 7 a1.toNatClampNeg)) 11 ((up2 (up2 m4 9 (m4 0 12).toNatClampNeg (mem 6 a1.toNatClampNeg)) 10 ((up2 m4 9 (m4 0 12).toNatClampNeg (mem 6 a1.toNatClampNeg)) 0 12).toNatClampNeg (mem 7 a1.toNatClampNeg)) 0 12).toNatClampNeg r8) 0 12).toNatClampNeg 0) 0 12 (((up2 (up2 (up2 (up2 m4 9 (m4 0 12).toNatClampNeg (mem 6 a1.toNatClampNeg)) 10 ((up2 m4 9 (m4 0 12).toNatClampNeg (mem 6 a1.toNatClampNeg)) 0 12).toNatClampNeg (mem 7 a1.toNatClampNeg)) 11 ((up2 (up2 m4 9 (m4 0 12).toNatClampNeg (mem 6 a1.toNatClampNeg)) 10 ((up2 m4 9 (m4 0 12).toNatClampNeg (mem 6 a1.toNatClampNeg)) 0 12).toNatClampNeg (mem 7 a1.toNatClampNeg)) 0 12).toNatClampNeg r8) 12 ((up2 (up2 (up2 m4 9 (m4 0 12).toNatClampNeg (mem 6 a1.toNatClampNeg)) 10 ((up2 m4 9 (m4 0 12).toNatClampNeg (mem 6 a1.toNatClampNeg)) 0 12).toNatClampNeg (mem 7 a1.toNatClampNeg)) 11 ((up2 (up2 m4 9 (m4 0 12).toNatClampNeg (mem 6 a1.toNatClampNeg)) 10 ((up2 m4 9 (m4 0 12).toNatClampNeg (mem 6 a1.toNatClampNeg)) 0 12).toNatClampNeg (mem 7 a1.toNatClampNeg)) 0 12).toNatClampNeg r8) 0 12).toNatClampNeg 0) 0 12) + 1)) 5 (mem 6 a1.toNatClampNeg).toNatClampNeg) + 1)) 0 11 ((up2 (up2 (up2 (up2 (up2 (up2 m4 9 (m4 0 12).toNatClampNeg (mem 6 a1.toNatClampNeg)) 10 ((up2 m4 9 (m4 0 12).toNatClampNeg (mem 6 a1.toNatClampNeg)) 0 12).toNatClampNeg (mem 7 a1.toNatClampNeg)) 11 ((up2 (up2 m4 9 (m4 0 12).toNatClampNeg (mem 6 a1.toNatClampNeg)) 10 ((up2 m4 9 (m4 0 12).toNatClampNeg (mem 6 a1.toNatClampNeg)) 0 12).toNatClampNeg (mem 7 a1.toNatClampNeg)) 0 12).toNatClampNeg r8) 12 ((up2 (up2 (up2 m4 9 (m4 0 12).toNatClampNeg (mem 6 a1.toNatClampNeg)) 10 ((up2 m4 9 (m4 0 12).toNatClampNeg (mem 6 a1.toNatClampNeg)) 0 12).toNatClampNeg (mem 7 a1.toNatClampNeg)) 11 ((up2 (up2 m4 9 (m4 0 12).toNatClampNeg (mem 6 a1.toNatClampNeg)) 10 ((up2 m4 9 (m4 0 12).toNatClampNeg (mem 6 a1.toNatClampNeg)) 0 12).toNatClampNeg (mem 7 a1.toNatClampNeg)) 0 12).toNatClampNeg r8) 0 12).toNatClampNeg 0) 0 12 (((up2 (up2 (up2 (up2 m4 9 (m4 0 12).toNatClampNeg (mem 6 a1.toNatClampNeg)) 10 ((up2 m4 9 (m4 0 12).toNatClampNeg (mem 6 a1.toNatClampNeg)) 0 12).toNatClampNeg (mem 7 a1.toNatClampNeg)) 11 ((up2 (up2 m4 9 (m4 0 12).toNatClampNeg (mem 6 a1.toNatClampNeg)) 10 ((up2 m4 9 (m4 0 12).toNatClampNeg (mem 6 a1.toNatClampNeg)) 0 12).toNatClampNeg (mem 7 a1.toNatClampNeg)) 0 12).toNatClampNeg r8) 12 ((up2 (up2 (up2 m4 9 (m4 0 12).toNatClampNeg (mem 6 a1.toNatClampNeg)) 10 ((up2 m4 9 (m4 0 12).toNatClampNeg (mem 6 a1.toNatClampNeg)) 0 12).toNatClampNeg (mem 7 a1.toNatClampNeg)) 11 ((up2 (up2 m4 9 (m4 0 12).toNatClampNeg (mem 6 a1.toNatClampNeg)) 10 ((up2 m4 9 (m4 0 12).toNatClampNeg (mem 6 a1.toNatClampNeg)) 0 12).toNatClampNeg (mem 7 a1.toNatClampNeg)) 0 12).toNatClampNeg r8) 0 12).toNatClampNeg 0) 0 12) + 1)) 5 (mem 6 a1.toNatClampNeg).toNatClampNeg (((up2 (up2 (up2 (up2 (up2 m4 9 (m4 0 12).toNatClampNeg (mem 6 a1.toNatClampNeg)) 10 ((up2 m4 9 (m4 0 12).toNatClampNeg (mem 6 a1.toNatClampNeg)) 0 12).toNatClampNeg (mem 7 a1.toNatClampNeg)) 11 ((up2 (up2 m4 9 (m4 0 12).toNatClampNeg (mem 6 a1.toNatClampNeg)) 10 ((up2 m4 9 (m4 0 12).toNatClampNeg (mem 6 a1.toNatClampNeg)) 0 12).toNatClampNeg (mem 7 a1.toNatClampNeg)) 0 12).toNatClampNeg r8) 12 ((up2 (up2 (up2 m4 9 (m4 0 12).toNatClampNeg (mem 6 a1.toNatClampNeg)) 10 ((up2 m4 9 (m4 0 12).toNatClampNeg (mem 6 a1.toNatClampNeg)) 0 12).toNatClampNeg (mem 7 a1.toNatClampNeg)) 11 ((up2 (up2 m4 9 (m4 0 12).toNatClampNeg (mem 6 a1.toNatClampNeg)) 10 ((up2 m4 9 (m4 0 12).toNatClampNeg (mem 6 a1.toNatClampNeg)) 0 12).toNatClampNeg (mem 7 a1.toNatClampNeg)) 0 12).toNatClampNeg r8) 0 12).toNatClampNeg 0) 0 12 (((up2 (up2 (up2 (up2 m4 9 (m4 0 12).toNatClampNeg (mem 6 a1.toNatClampNeg)) 10 ((up2 m4 9 (m4 0 12).toNatClampNeg (mem 6 a1.toNatClampNeg)) 0 12).toNatClampNeg (mem 7 a1.toNatClampNeg)) 11 ((up2 (up2 m4 9 (m4 0 12).toNatClampNeg (mem 6 a1.toNatClampNeg)) 10 ((up2 m4 9 (m4 0 12).toNatClampNeg (mem 6 a1.toNatClampNeg)) 0 12).toNatClampNeg (mem 7 a1.toNatClampNeg)) 0 12).toNatClampNeg r8) 12 ((up2 (up2 (up2 m4 9 (m4 0 12).toNatClampNeg (mem 6 a1.toNatClampNeg)) 10 ((up2 m4 9 (m4 0 12).toNatClampNeg (mem 6 a1.toNatClampNeg)) 0 12).toNatClampNeg (mem 7 a1.toNatClampNeg)) 11 ((up2 (up2 m4 9 (m4 0 12).toNatClampNeg (mem 6 a1.toNatClampNeg)) 10 ((up2 m4 9 (m4 0 12).toNatClampNeg (mem 6 a1.toNatClampNeg)) 0 12).toNatClampNeg (mem 7 a1.toNatClampNeg)) 0 12).toNatClampNeg r8) 0 12).toNatClampNeg 0) 0 12) + 1)) 5 (mem 6 a1.toNatClampNeg).toNatClampNeg) + 1)) 2 (mem 6 a1.toNatClampNeg).toNatClampNeg))))) else (gI (mem 6 a1.toNatClampNeg) 10 (gI (mem 6 a1.toNatClampNeg) 10 (some (mem 6 a1.toNatClampNeg, up2 (up2 (up2 (up2 (up2 (up2 (up2 m4 9 (m4 0 12).toNatClampNeg (mem 6 a1.toNatClampNeg)) 10 ((up2 m4 9 (m4 0 12).toNatClampNeg (mem 6 a1.toNatClampNeg)) 0 12).toNatClampNeg (mem 7 a1.toNatClampNeg)) 11 ((up2 (up2 m4 9 (m4 0 12).toNatClampNeg (mem 6 a1.toNatClampNeg)) 10 ((up2 m4 9 (m4 0 12).toNatClampNeg (mem 6 a1.toNatClampNeg)) 0 12).toNatClampNeg (mem 7 a1.toNatClampNeg)) 0 12).toNatClampNeg r8) 12 ((up2 (up2 (up2 m4 9 (m4 0 12).toNatClampNeg (mem 6 a1.toNatClampNeg)) 10 ((up2 m4 9 (m4 0 12).toNatClampNeg (mem 6 a1.toNatClampNeg)) 0 12).toNatClampNeg (mem 7 a1.toNatClampNeg)) 11 ((up2 (up2 m4 9 (m4 0 12).toNatClampNeg (mem 6 a1.toNatClampNeg)) 10 ((up2 m4 9 (m4 0 12).toNatClampNeg (mem 6 a1.toNatClampNeg)) 0 12).toNatClampNeg (mem 7 a1.toNatClampNeg)) 0 12).toNatClampNeg r8) 0 12).toNatClampNeg 0) 0 12 (((up2 (up2 (up2 (up2 m4 9 (m4 0 12).toNatClampNeg (mem 6 a1.toNatClampNeg)) 10 ((up2 m4 9 (m4 0 12).toNatClampNeg (mem 6 a1.toNatClampNeg)) 0 12).toNatClampNeg (mem 7 a1.toNatClampNeg)) 11 ((up2 (up2 m4 9 (m4 0 12).toNatClampNeg (mem 6 a1.toNatClampNeg)) 10 ((up2 m4 9 (m4 0 12).toNatClampNeg (mem 6 a1.toNatClampNeg)) 0 12).toNatClampNeg (mem 7 a1.toNatClampNeg)) 0 12).toNatClampNeg r8) 12 ((up2 (up2 (up2 m4 9 (m4 0 12).toNatClampNeg (mem 6 a1.toNatClampNeg)) 10 ((up2 m4 9 (m4 0 12).toNatClampNeg (mem 6 a1.toNatClampNeg)) 0 12).toNatClampNeg (mem 7 a1.toNatClampNeg)) 11 ((up2 (up2 m4 9 (m4 0 12).toNatClampNeg (mem 6 a1.toNatClampNeg)) 10 ((up2 m4 9 (m4 0 12).toNatClampNeg (mem 6 a1.toNatClampNeg)) 0 12).toNatClampNeg (mem 7 a1.toNatClampNeg)) 0 12).toNatClampNeg r8) 0 12).toNatClampNeg 0) 0 12) + 1)) 5 (mem 6 a1.toNatClampNeg).toNatClampNeg (((up2 (up2 (up2 (up2 (up2 m4 9 (m4 0 12).toNatClampNeg (mem 6 a1.toNatClampNeg)) 10 ((up2 m4 9 (m4 0 12).toNatClampNeg (mem 6 a1.toNatClampNeg)) 0 12).toNatClampNeg (mem 7 a1.toNatClampNeg)) 11 ((up2 (up2 m4 9 (m4 0 12).toNatClampNeg (mem 6 a1.toNatClampNeg)) 10 ((up2 m4 9 (m4 0 12).toNatClampNeg (mem 6 a1.toNatClampNeg)) 0 12).toNatClampNeg (mem 7 a1.toNatClampNeg)) 0 12).toNatClampNeg r8) 12 ((up2 (up2 (up2 m4 9 (m4 0 12).toNatClampNeg (mem 6 a1.toNatClampNeg)) 10 ((up2 m4 9 (m4 0 12).toNatClampNeg (mem 6 a1.toNatClampNeg)) 0 12).toNatClampNeg (mem 7 a1.toNatClampNeg)) 11 ((up2 (up2 m4 9 (m4 0 12).toNatClampNeg (mem 6 a1.toNatClampNeg)) 10 ((up2 m4 9 (m4 0 12).toNatClampNeg (mem 6 a1.toNatClampNeg)) 0 12).toNatClampNeg (mem 7 a1.toNatClampNeg)) 0 12).toNatClampNeg r8) 0 12).toNatClampNeg 0) 0 12 (((up2 (up2 (up2 (up2 m4 9 (m4 0 12).toNatClampNeg (mem 6 a1.toNatClampNeg)) 10 ((up2 m4 9 (m4 0 12).toNatClampNeg (mem 6 a1.toNatClampNeg)) 0 12).toNatClampNeg (mem 7 a1.toNatClampNeg)) 11 ((up2 (up2 m4 9 (m4 0 12).toNatClampNeg (mem 6 a1.toNatClampNeg)) 10 ((up2 m4 9 (m4 0 12).toNatClampNeg (mem 6 a1.toNatClampNeg)) 0 12).toNatClampNeg (mem 7 a1.toNatClampNeg)) 0 12).toNatClampNeg r8) 12 ((up2 (up2 (up2 m4 9 (m4 0 12).toNatClampNeg (mem 6 a1.toNatClampNeg)) 10 ((up2 m4 9 (m4 0 12).toNatClampNeg (mem 6 a1.toNatClampNeg)) 0 12).toNatClampNeg (mem 7 a1.toNatClampNeg)) 11 ((up2 (up2 m4 9 (m4 0 12).toNatClampNeg (mem 6 a1.toNatClampNeg)) 10 ((up2 m4 9 (m4 0 12).toNatClampNeg (mem 6 a1.toNatClampNeg)) 0 12).toNatClampNeg (mem 7 a1.toNatClampNeg)) 0 12).toNatClampNeg r8) 0 12).toNatClampNeg 0) 0 12) + 1)) 5 (mem 6 a1.toNatClampNeg).toNatClampNeg) + 0)) 0 11 ((up2 (up2 (up2 (up2 (up2 (up2 m4 9 (m4 0 12).toNatClampNeg (mem 6 a1.toNatClampNeg)) 10 ((up2 m4 9 (m4 0 12).toNatClampNeg (mem 6 a1.toNatClampNeg)) 0 12).toNatClampNeg (mem 7 a1.toNatClampNeg)) 11 ((up2 (up2 m4 9 (m4 0 12).toNatClampNeg (mem 6 a1.toNatClampNeg)) 10 ((up2 m4 9 (m4 0 12).toNatClampNeg (mem 6 a1.toNatClampNeg)) 0 12).toNatClampNeg (mem 7 a1.toNatClampNeg)) 0 12).toNatClampNeg r8) 12 ((up2 (up2 (up2 m4 9 (m4 0 12).toNatClampNeg (mem 6 a1.toNatClampNeg)) 10 ((up2 m4 9 (m4 0 12).toNatClampNeg (mem 6 a1.toNatClampNeg)) 0 12).toNatClampNeg (mem 7 a1.toNatClampNeg)) 11 ((up2 (up2 m4 9 (m4 0 12).toNatClampNeg (mem 6 a1.toNatClampNeg)) 10 ((up2 m4 9 (m4 0 12).toNatClampNeg (mem 6 a1.toNatClampNeg)) 0 12).toNatClampNeg (mem 7 a1.toNatClampNeg)) 0 12).toNatClampNeg r8) 0 12).toNatClampNeg 0) 0 12 (((up2 (up2 (up2 (up2 m4 9 (m4 0 12).toNatClampNeg (mem 6 a1.toNatClampNeg)) 10 ((up2 m4 9 (m4 0 12).toNatClampNeg (mem 6 a1.toNatClampNeg)) 0 12).toNatClampNeg (mem 7 a1.toNatClampNeg)) 11 ((up2 (up2 m4 9 (m4 0 12).toNatClampNeg (mem 6 a1.toNatClampNeg)) 10 ((up2 m4 9 (m4 0 12).toNatClampNeg (mem 6 a1.toNatClampNeg)) 0 12).toNatClampNeg (mem 7 a1.toNatClampNeg)) 0 12).toNatClampNeg r8) 12 ((up2 (up2 (up2 m4 9 (m4 0 12).toNatClampNeg (mem 6 a1.toNatClampNeg)) 10 ((up2 m4 9 (m4 0 12).toNatClampNeg (mem 6 a1.toNatClampNeg)) 0 12).toNatClampNeg (mem 7 a1.toNatClampNeg)) 11 ((up2 (up2 m4 9 (m4 0 12).toNatClampNeg (mem 6 a1.toNatClampNeg)) 10 ((up2 m4 9 (m4 0 12).toNatClampNeg (mem 6 a1.toNatClampNeg)) 0 12).toNatClampNeg (mem 7 a1.toNatClampNeg)) 0 12).toNatClampNeg r8) 0 12).toNatClampNeg 0) 0 12) + 1)) 5 (mem 6 a1.toNatClampNeg).toNatClampNeg (((up2 (up2 (up2 (up2 (up2 m4 9 (m4 0 12).toNatClampNeg (mem 6 a1.toNatClampNeg)) 10 ((up2 m4 9 (m4 0 12).toNatClampNeg (mem 6 a1.toNatClampNeg)) 0 12).toNatClampNeg (mem 7 a1.toNatClampNeg)) 11 ((up2 (up2 m4 9 (m4 0 12).toNatClampNeg (mem 6 a1.toNatClampNeg)) 10 ((up2 m4 9 (m4 0 12).toNatClampNeg (mem 6 a1.toNatClampNeg)) 0 12).toNatClampNeg (mem 7 a1.toNatClampNeg)) 0 12).toNatClampNeg r8) 12 ((up2 (up2 (up2 m4 9 (m4 0 12).toNatClampNeg (mem 6 a1.toNatClampNeg)) 10 ((up2 m4 9 (m4 0 12).toNatClampNeg (mem 6 a1.toNatClampNeg)) 0 12).toNatClampNeg (mem 7 a1.toNatClampNeg)) 11 ((up2 (up2 m4 9 (m4 0 12).toNatClampNeg (mem 6 a1.toNatClampNeg)) 10 ((up2 m4 9 (m4 0 12).toNatClampNeg (mem 6 a1.toNatClampNeg)) 0 12).toNatClampNeg (mem 7 a1.toNatClampNeg)) 0 12).toNatClampNeg r8) 0 12).toNatClampNeg 0) 0 12 (((up2 (up2 (up2 (up2 m4 9 (m4 0 12).toNatClampNeg (mem 6 a1.toNatClampNeg)) 10 ((up2 m4 9 (m4 0 12).toNatClampNeg (mem 6 a1.toNatClampNeg)) 0 12).toNatClampNeg (mem 7 a1.toNatClampNeg)) 11 ((up2 (up2 m4 9 (m4 0 12).toNatClampNeg (mem 6 a1.toNatClampNeg)) 10 ((up2 m4 9 (m4 0 12).toNatClampNeg (mem 6 a1.toNatClampNeg)) 0 12).toNatClampNeg (mem 7 a1.toNatClampNeg)) 0 12).toNatClampNeg r8) 12 ((up2 (up2 (up2 m4 9 (m4 0 12).toNatClampNeg (mem 6 a1.toNatClampNeg)) 10 ((up2 m4 9 (m4 0 12).toNatClampNeg (mem 6 a1.toNatClampNeg)) 0 12).toNatClampNeg (mem 7 a1.toNatClampNeg)) 11 ((up2 (up2 m4 9 (m4 0 12).toNatClampNeg (mem 6 a1.toNatClampNeg)) 10 ((up2 m4 9 (m4 0 12).toNatClampNeg (mem 6 a1.toNatClampNeg)) 0 12).toNatClampNeg (mem 7 a1.toNatClampNeg)) 0 12).toNatClampNeg r8) 0 12).toNatClampNeg 0) 0 12) + 1)) 5 (mem 6 a1.toNatClampNeg).toNatClampNeg) + 0)) 2 (mem 6 a1.toNatClampNeg).toNatClampNeg))))))))))))))
set_option maxHeartbeats 4000000 in
set_option maxRecDepth 100000 in
theorem kX9_take (l : Launch) (g : gG) (ad : Nat → Nat) (mem : Mem) (a1 : Int32) (r : Int32) (mem2 : Mem) (hF : fX9_take mem a1 = some (r, mem2)) : Met l yX9_take (Cond.code yX9_take cX9_take 4 (some .int) :: gw) { frames := 2, cells := 0, slots := 0, locals := 46 } (pG (wM g ad mem) (eM g ad) g [.ref (ad 0), .int a1]) (qW (wM g ad mem2) g (AW 29 ad) (some (.int r)) (True)) 0 0 (AW 29 ad) := by
  refine met_of (by decide) (Nat.le_of_ble_eq_true rfl) ?_
  intro p e s m args below meth c ls C0 hP hl
  obtain ⟨hx, hb, hml, hown, hts, hr, hlk, hE⟩ := id C0
  obtain ⟨hK, hA⟩ := id hE
  have hl : lv_has ls 4 [(0, .ref (ad 0)), (1, .int a1)] := hl
  have hS : va_S (AW 29 ad) s.heap s.heap [] := va_S.rf
  unfold fX9_take at hF
  refine lv_aload_n hx hb dX9_take_0 rfl (lv_at hl 0 rfl) ?_
  refine get_W C0 hK hP iwX9 0 wM_0 rfl 7 (by decide) mF_X9_26 rfl rfl dX9_take_1 ?_
  refine lv_iload_n hx hb dX9_take_4 rfl (lv_at hl 1 rfl) ?_
  obtain ⟨g1, hF⟩ := gI_some hF
  refine va_iald hx hb hK hP 6 0 wM_6 rfl g1 dX9_take_5 ?_
  refine lv_istore_n (lv' := [(2, .int (mem 6 a1.toNatClampNeg)), (0, .ref (ad 0)), (1, .int a1)]) hx hb dX9_take_6 rfl hl (by decide) rfl (fun ls hl => ?_)
  refine lv_aload_n hx hb dX9_take_7 rfl (lv_at hl 1 rfl) ?_
  refine get_W C0 hK hP iwX9 0 wM_0 rfl 8 (by decide) mF_X9_29 rfl rfl dX9_take_8 ?_
  refine lv_iload_n hx hb dX9_take_11 rfl (lv_at hl 2 rfl) ?_
  obtain ⟨g2, hF⟩ := gI_some hF
  refine va_iald hx hb hK hP 7 0 wM_7 rfl g2 dX9_take_12 ?_
  refine lv_istore_n (lv' := [(3, .int (mem 7 a1.toNatClampNeg)), (2, .int (mem 6 a1.toNatClampNeg)), (0, .ref (ad 0)), (1, .int a1)]) hx hb dX9_take_13 rfl hl (by decide) rfl (fun ls hl => ?_)
  refine lv_aload_n hx hb dX9_take_14 rfl (lv_at hl 2 rfl) ?_
  refine lv_iload_n hx hb dX9_take_15 rfl (lv_at hl 3 rfl) ?_
  obtain ⟨m4, h3, hF⟩ := ob_some hF
  refine cV_Wv C0 eM_st hP hS hK pkX9_goes (As := [.int a1]) (rest := []) (kX9_goes l g ad mem a1 m4 h3) mL_X9_142 ⟨rfl, rfl, Nat.le_of_ble_eq_true rfl, Nat.le_of_ble_eq_true rfl, Nat.le_of_ble_eq_true rfl, Nat.le_of_ble_eq_true rfl⟩ 0 wM_0 rfl rfl rfl hl.1 rfl (Nat.le_of_ble_eq_true rfl) dX9_take_16 (fun H locs _ hP hS => ?_)
  refine lv_aload_n hx hb dX9_take_19 rfl (lv_at hl 2 rfl) ?_
  refine get_W C0 hK hP iwX9 0 wM_0 rfl 13 (by decide) mF_X9_39 rfl rfl dX9_take_20 ?_
  refine lv_aload_n hx hb dX9_take_23 rfl (lv_at hl 2 rfl) ?_
  refine get_W C0 hK hP iwX9 0 wM_0 rfl 12 (by decide) mF_X9_172 rfl rfl dX9_take_24 ?_
  refine lv_iload_n hx hb dX9_take_27 rfl (lv_at hl 1 rfl) ?_
  obtain ⟨g5, hF⟩ := gI_some hF
  refine iast_W C0 hK hP (wM_D hA) hS 9 wM_9 g5 wM_s9 dX9_take_28 (fun H locs hP hS => ?_)
  refine lv_aload_n hx hb dX9_take_29 rfl (lv_at hl 2 rfl) ?_
  refine get_W C0 hK hP iwX9 0 wM_0 rfl 14 (by decide) mF_X9_42 rfl rfl dX9_take_30 ?_
  refine lv_aload_n hx hb dX9_take_33 rfl (lv_at hl 2 rfl) ?_
  refine get_W C0 hK hP iwX9 0 wM_0 rfl 12 (by decide) mF_X9_172 rfl rfl dX9_take_34 ?_
  refine lv_iload_n hx hb dX9_take_37 rfl (lv_at hl 0 rfl) ?_
  obtain ⟨g6, hF⟩ := gI_some hF
  refine iast_W C0 hK hP (wM_D hA) hS 10 wM_10 g6 wM_s10 dX9_take_38 (fun H locs hP hS => ?_)
  refine lv_aload_n hx hb dX9_take_39 rfl (lv_at hl 2 rfl) ?_
  refine get_W C0 hK hP iwX9 0 wM_0 rfl 15 (by decide) mF_X9_45 rfl rfl dX9_take_40 ?_
  refine lv_aload_n hx hb dX9_take_43 rfl (lv_at hl 2 rfl) ?_
  refine get_W C0 hK hP iwX9 0 wM_0 rfl 12 (by decide) mF_X9_172 rfl rfl dX9_take_44 ?_
  refine lv_aload_n hx hb dX9_take_47 rfl (lv_at hl 2 rfl) ?_
  refine lv_iload_n hx hb dX9_take_48 rfl (lv_at hl 1 rfl) ?_
  refine lv_iload_n hx hb dX9_take_49 rfl (lv_at hl 0 rfl) ?_
  obtain ⟨r8, h7, hF⟩ := ob_some hF
  refine cV_Ri C0 eM_st hP hS hK pkX9_limitOf (As := [.int (mem 6 a1.toNatClampNeg), .int (mem 7 a1.toNatClampNeg)]) (rest := [.int ((up2 (up2 m4 9 (m4 0 12).toNatClampNeg (mem 6 a1.toNatClampNeg)) 10 ((up2 m4 9 (m4 0 12).toNatClampNeg (mem 6 a1.toNatClampNeg)) 0 12).toNatClampNeg (mem 7 a1.toNatClampNeg)) 0 12), .ref (ad 11)]) (kX9_limitOf l g ad (up2 (up2 m4 9 (m4 0 12).toNatClampNeg (mem 6 a1.toNatClampNeg)) 10 ((up2 m4 9 (m4 0 12).toNatClampNeg (mem 6 a1.toNatClampNeg)) 0 12).toNatClampNeg (mem 7 a1.toNatClampNeg)) (mem 6 a1.toNatClampNeg) (mem 7 a1.toNatClampNeg) r8 h7) mL_X9_168 ⟨rfl, rfl, Nat.le_of_ble_eq_true rfl, Nat.le_of_ble_eq_true rfl, Nat.le_of_ble_eq_true rfl, Nat.le_of_ble_eq_true rfl⟩ 0 wM_0 rfl rfl rfl hl.1 rfl (Nat.le_of_ble_eq_true rfl) dX9_take_50 (fun _ => ?_)
  obtain ⟨g9, hF⟩ := gI_some hF
  refine iast_W C0 hK hP (wM_D hA) hS 11 wM_11 g9 wM_s11 dX9_take_53 (fun H locs hP hS => ?_)
  refine lv_aload_n hx hb dX9_take_54 rfl (lv_at hl 2 rfl) ?_
  refine get_W C0 hK hP iwX9 0 wM_0 rfl 16 (by decide) mF_X9_48 rfl rfl dX9_take_55 ?_
  refine lv_aload_n hx hb dX9_take_58 rfl (lv_at hl 2 rfl) ?_
  refine get_W C0 hK hP iwX9 0 wM_0 rfl 12 (by decide) mF_X9_172 rfl rfl dX9_take_59 ?_
  refine lv_iconst (v := 0) hx hb dX9_take_62 (by decide) ?_
  obtain ⟨g10, hF⟩ := gI_some hF
  refine iast_W C0 hK hP (wM_D hA) hS 12 wM_12 g10 wM_s12 dX9_take_63 (fun H locs hP hS => ?_)
  refine lv_aload_n hx hb dX9_take_64 rfl (lv_at hl 2 rfl) ?_
  refine lv_dup hx hb dX9_take_65 rfl ?_
  refine get_W C0 hK hP iwX9 0 wM_0 rfl 12 (by decide) mF_X9_172 rfl rfl dX9_take_66 ?_
  refine lv_iconst (v := 1) hx hb dX9_take_69 (by decide) ?_
  refine lv_iadd hx hb dX9_take_70 ?_
  refine put_W (k := 12) C0 hK hP (wM_D hA) hS iwX9 tyX9_ok nmX9 0 wM_0 rfl (by decide) mF_X9_172 rfl rfl rfl rfl (Nat.le_of_ble_eq_true rfl) wM_s0_12 dX9_take_71 (fun H locs hP hS => ?_)
  refine lv_aload_n hx hb dX9_take_74 rfl (lv_at hl 2 rfl) ?_
  refine get_W C0 hK hP iwX9 0 wM_0 rfl 5 (by decide) mF_X9_23 rfl rfl dX9_take_75 ?_
  refine lv_iload_n hx hb dX9_take_78 rfl (lv_at hl 1 rfl) ?_
  refine lv_dup2_11 hx hb dX9_take_79 rfl rfl ?_
  obtain ⟨g11, hF⟩ := gI_some hF
  refine va_iald hx hb hK hP 5 0 wM_5 rfl g11 dX9_take_80 ?_
  refine lv_iload_n hx hb dX9_take_81 rfl (lv_at hl 0 rfl) ?_
  refine lv_if_ne (tgt := 89) hx hb dX9_take_82 (by decide) (fun c12 => ?_) (fun c12 => ?_)
  · replace hF := (if_neg c12).symm.trans hF
    refine lv_iconst (v := 0) hx hb dX9_take_89 (by decide) ?_
    refine lv_iadd hx hb dX9_take_90 ?_
    obtain ⟨g13, hF⟩ := gI_some hF
    refine iast_W C0 hK hP (wM_D hA) hS 5 wM_5 g13 wM_s5 dX9_take_91 (fun H locs hP hS => ?_)
    refine lv_aload_n hx hb dX9_take_92 rfl (lv_at hl 2 rfl) ?_
    refine lv_aload_n hx hb dX9_take_93 rfl (lv_at hl 2 rfl) ?_
    refine get_W C0 hK hP iwX9 0 wM_0 rfl 2 (by decide) mF_X9_13 rfl rfl dX9_take_94 ?_
    refine lv_iload_n hx hb dX9_take_97 rfl (lv_at hl 1 rfl) ?_
    obtain ⟨g14, hF⟩ := gI_some hF
    refine va_iald hx hb hK hP 2 0 wM_2 rfl g14 dX9_take_98 ?_
    refine put_W (k := 11) C0 hK hP (wM_D hA) hS iwX9 tyX9_ok nmX9 0 wM_0 rfl (by decide) mF_X9_35 rfl rfl rfl rfl (Nat.le_of_ble_eq_true rfl) wM_s0_11 dX9_take_99 (fun H locs hP hS => ?_)
    refine lv_iload_n hx hb dX9_take_102 rfl (lv_at hl 1 rfl) ?_
    cases hF
    exact ret_Wi C0 hP hS trivial dX9_take_103
  · replace hF := (if_pos c12).symm.trans hF
    refine lv_iconst (v := 1) hx hb dX9_take_85 (by decide) ?_
    refine lv_goto (tgt := 90) hx hb dX9_take_86 (by decide) ?_
    refine lv_iadd hx hb dX9_take_90 ?_
    obtain ⟨g15, hF⟩ := gI_some hF
    refine iast_W C0 hK hP (wM_D hA) hS 5 wM_5 g15 wM_s5 dX9_take_91 (fun H locs hP hS => ?_)
    refine lv_aload_n hx hb dX9_take_92 rfl (lv_at hl 2 rfl) ?_
    refine lv_aload_n hx hb dX9_take_93 rfl (lv_at hl 2 rfl) ?_
    refine get_W C0 hK hP iwX9 0 wM_0 rfl 2 (by decide) mF_X9_13 rfl rfl dX9_take_94 ?_
    refine lv_iload_n hx hb dX9_take_97 rfl (lv_at hl 1 rfl) ?_
    obtain ⟨g16, hF⟩ := gI_some hF
    refine va_iald hx hb hK hP 2 0 wM_2 rfl g16 dX9_take_98 ?_
    refine put_W (k := 11) C0 hK hP (wM_D hA) hS iwX9 tyX9_ok nmX9 0 wM_0 rfl (by decide) mF_X9_35 rfl rfl rfl rfl (Nat.le_of_ble_eq_true rfl) wM_s0_11 dX9_take_99 (fun H locs hP hS => ?_)
    refine lv_iload_n hx hb dX9_take_102 rfl (lv_at hl 1 rfl) ?_
    cases hF
    exact ret_Wi C0 hP hS trivial dX9_take_103
theorem pkX9_end : pkV yX9_end cX9_end 2 (none) RX9 0 := ⟨mI_X9_end, mS_X9_end, mN_X9, mC_X9_end, by decide +kernel⟩
def fX9_end_41 : Nat → Mem → Int32 → Option (Mem)
  | 0, _, _ => none
  | n + 1, mem, x1 =>
    if mem 0 20 ≤ x1 then (gI (mem 0 12) 5 (gI (mem 0 20) 100 (gI ((up2 mem 15 (mem 0 20).toNatClampNeg (mem 9 (mem 0 12).toNatClampNeg)) 0 12) 5 (gI ((up2 mem 15 (mem 0 20).toNatClampNeg (mem 9 (mem 0 12).toNatClampNeg)) 0 20) 100 (gI ((up2 (up2 mem 15 (mem 0 20).toNatClampNeg (mem 9 (mem 0 12).toNatClampNeg)) 16 ((up2 mem 15 (mem 0 20).toNatClampNeg (mem 9 (mem 0 12).toNatClampNeg)) 0 20).toNatClampNeg ((up2 mem 15 (mem 0 20).toNatClampNeg (mem 9 (mem 0 12).toNatClampNeg)) 10 ((up2 mem 15 (mem 0 20).toNatClampNeg (mem 9 (mem 0 12).toNatClampNeg)) 0 12).toNatClampNeg)) 0 12) 5 (gI ((up2 (up2 mem 15 (mem 0 20).toNatClampNeg (mem 9 (mem 0 12).toNatClampNeg)) 16 ((up2 mem 15 (mem 0 20).toNatClampNeg (mem 9 (mem 0 12).toNatClampNeg)) 0 20).toNatClampNeg ((up2 mem 15 (mem 0 20).toNatClampNeg (mem 9 (mem 0 12).toNatClampNeg)) 10 ((up2 mem 15 (mem 0 20).toNatClampNeg (mem 9 (mem 0 12).toNatClampNeg)) 0 12).toNatClampNeg)) 0 20) 100 (some (up2 (up2 (up2 (up2 mem 15 (mem 0 20).toNatClampNeg (mem 9 (mem 0 12).toNatClampNeg)) 16 ((up2 mem 15 (mem 0 20).toNatClampNeg (mem 9 (mem 0 12).toNatClampNeg)) 0 20).toNatClampNeg ((up2 mem 15 (mem 0 20).toNatClampNeg (mem 9 (mem 0 12).toNatClampNeg)) 10 ((up2 mem 15 (mem 0 20).toNatClampNeg (mem 9 (mem 0 12).toNatClampNeg)) 0 12).toNatClampNeg)) 17 ((up2 (up2 mem 15 (mem 0 20).toNatClampNeg (mem 9 (mem 0 12).toNatClampNeg)) 16 ((up2 mem 15 (mem 0 20).toNatClampNeg (mem 9 (mem 0 12).toNatClampNeg)) 0 20).toNatClampNeg ((up2 mem 15 (mem 0 20).toNatClampNeg (mem 9 (mem 0 12).toNatClampNeg)) 10 ((up2 mem 15 (mem 0 20).toNatClampNeg (mem 9 (mem 0 12).toNatClampNeg)) 0 12).toNatClampNeg)) 0 20).toNatClampNeg ((up2 (up2 mem 15 (mem 0 20).toNatClampNeg (mem 9 (mem 0 12).toNatClampNeg)) 16 ((up2 mem 15 (mem 0 20).toNatClampNeg (mem 9 (mem 0 12).toNatClampNeg)) 0 20).toNatClampNeg ((up2 mem 15 (mem 0 20).toNatClampNeg (mem 9 (mem 0 12).toNatClampNeg)) 10 ((up2 mem 15 (mem 0 20).toNatClampNeg (mem 9 (mem 0 12).toNatClampNeg)) 0 12).toNatClampNeg)) 12 ((up2 (up2 mem 15 (mem 0 20).toNatClampNeg (mem 9 (mem 0 12).toNatClampNeg)) 16 ((up2 mem 15 (mem 0 20).toNatClampNeg (mem 9 (mem 0 12).toNatClampNeg)) 0 20).toNatClampNeg ((up2 mem 15 (mem 0 20).toNatClampNeg (mem 9 (mem 0 12).toNatClampNeg)) 10 ((up2 mem 15 (mem 0 20).toNatClampNeg (mem 9 (mem 0 12).toNatClampNeg)) 0 12).toNatClampNeg)) 0 12).toNatClampNeg)) 0 20 (((up2 (up2 (up2 mem 15 (mem 0 20).toNatClampNeg (mem 9 (mem 0 12).toNatClampNeg)) 16 ((up2 mem 15 (mem 0 20).toNatClampNeg (mem 9 (mem 0 12).toNatClampNeg)) 0 20).toNatClampNeg ((up2 mem 15 (mem 0 20).toNatClampNeg (mem 9 (mem 0 12).toNatClampNeg)) 10 ((up2 mem 15 (mem 0 20).toNatClampNeg (mem 9 (mem 0 12).toNatClampNeg)) 0 12).toNatClampNeg)) 17 ((up2 (up2 mem 15 (mem 0 20).toNatClampNeg (mem 9 (mem 0 12).toNatClampNeg)) 16 ((up2 mem 15 (mem 0 20).toNatClampNeg (mem 9 (mem 0 12).toNatClampNeg)) 0 20).toNatClampNeg ((up2 mem 15 (mem 0 20).toNatClampNeg (mem 9 (mem 0 12).toNatClampNeg)) 10 ((up2 mem 15 (mem 0 20).toNatClampNeg (mem 9 (mem 0 12).toNatClampNeg)) 0 12).toNatClampNeg)) 0 20).toNatClampNeg ((up2 (up2 mem 15 (mem 0 20).toNatClampNeg (mem 9 (mem 0 12).toNatClampNeg)) 16 ((up2 mem 15 (mem 0 20).toNatClampNeg (mem 9 (mem 0 12).toNatClampNeg)) 0 20).toNatClampNeg ((up2 mem 15 (mem 0 20).toNatClampNeg (mem 9 (mem 0 12).toNatClampNeg)) 10 ((up2 mem 15 (mem 0 20).toNatClampNeg (mem 9 (mem 0 12).toNatClampNeg)) 0 12).toNatClampNeg)) 12 ((up2 (up2 mem 15 (mem 0 20).toNatClampNeg (mem 9 (mem 0 12).toNatClampNeg)) 16 ((up2 mem 15 (mem 0 20).toNatClampNeg (mem 9 (mem 0 12).toNatClampNeg)) 0 20).toNatClampNeg ((up2 mem 15 (mem 0 20).toNatClampNeg (mem 9 (mem 0 12).toNatClampNeg)) 10 ((up2 mem 15 (mem 0 20).toNatClampNeg (mem 9 (mem 0 12).toNatClampNeg)) 0 12).toNatClampNeg)) 0 12).toNatClampNeg)) 0 20) + 1))))))))) else (gI (x1 + 1) 100 (gI x1 100 (gI (x1 + 1) 100 (gI x1 100 (gI (x1 + 1) 100 (gI x1 100 (fX9_end_41 n (up2 (up2 (up2 mem 15 x1.toNatClampNeg (mem 15 (x1 + 1).toNatClampNeg)) 16 x1.toNatClampNeg ((up2 mem 15 x1.toNatClampNeg (mem 15 (x1 + 1).toNatClampNeg)) 16 (x1 + 1).toNatClampNeg)) 17 x1.toNatClampNeg ((up2 (up2 mem 15 x1.toNatClampNeg (mem 15 (x1 + 1).toNatClampNeg)) 16 x1.toNatClampNeg ((up2 mem 15 x1.toNatClampNeg (mem 15 (x1 + 1).toNatClampNeg)) 16 (x1 + 1).toNatClampNeg)) 17 (x1 + 1).toNatClampNeg)) (x1 + 1))))))))
set_option maxHeartbeats 4000000 in
set_option maxRecDepth 100000 in
theorem lpX9_end_41 {p : Program} {l : Launch} {e : Env} {s : State} {m : MethodId} {args : Array Value} {below : List Frame} {meth : Method} {c : Code} (g : gG) (ad : Nat → Nat) (mem2 : Mem) (C0 : cxt (eM g ad) cX9_end 2 RX9 (none) p s m args meth c) :
    ∀ (n : Nat) (mem : Mem) (x1 : Int32) (H : Heap) (locs : List Loc) (ls : Array Slot), fX9_end_41 n mem x1 = some mem2 → va_P g.1 vwCl (wM g ad mem) H → va_S (AW 29 ad) s.heap H locs → lv_has ls 2 [(0, .ref (ad 0)), (1, .int x1)] → W p l e { frames := 1, cells := 0, slots := 0, locals := 24 } s m args below meth c H locs 0 0 (MQ below (qW (wM g ad mem2) g (AW 29 ad) (none) (True)) args s 0 0 (AW 29 ad)) (F0 m 41 ls []) := by
  obtain ⟨hx, hb, hml, hown, hts, hr, hlk, hE⟩ := id C0
  obtain ⟨hK, hA⟩ := id hE
  intro n
  induction n with
  | zero =>
    intro mem x1 H locs ls hF hP hS hl
    cases hF
  | succ n ih =>
    intro mem x1 H locs ls hF hP hS hl
    rw [fX9_end_41] at hF
    refine lv_iload_n hx hb dX9_end_41 rfl (lv_at hl 1 rfl) ?_
    refine lv_aload_n hx hb dX9_end_42 rfl (lv_at hl 0 rfl) ?_
    refine get_W C0 hK hP iwX9 0 wM_0 rfl 20 (by decide) mF_X9_175 rfl rfl dX9_end_43 ?_
    refine lv_icmp_ge (tgt := 97) hx hb dX9_end_46 (by decide) (fun c8 => ?_) (fun c8 => ?_)
    · replace hF := (if_pos c8).symm.trans hF
      refine lv_aload_n hx hb dX9_end_97 rfl (lv_at hl 0 rfl) ?_
      refine get_W C0 hK hP iwX9 0 wM_0 rfl 22 (by decide) mF_X9_57 rfl rfl dX9_end_98 ?_
      refine lv_aload_n hx hb dX9_end_101 rfl (lv_at hl 0 rfl) ?_
      refine get_W C0 hK hP iwX9 0 wM_0 rfl 20 (by decide) mF_X9_175 rfl rfl dX9_end_102 ?_
      refine lv_aload_n hx hb dX9_end_105 rfl (lv_at hl 0 rfl) ?_
      refine get_W C0 hK hP iwX9 0 wM_0 rfl 13 (by decide) mF_X9_39 rfl rfl dX9_end_106 ?_
      refine lv_aload_n hx hb dX9_end_109 rfl (lv_at hl 0 rfl) ?_
      refine get_W C0 hK hP iwX9 0 wM_0 rfl 12 (by decide) mF_X9_172 rfl rfl dX9_end_110 ?_
      obtain ⟨g9, hF⟩ := gI_some hF
      refine va_iald hx hb hK hP 9 0 wM_9 rfl g9 dX9_end_113 ?_
      obtain ⟨g10, hF⟩ := gI_some hF
      refine iast_W C0 hK hP (wM_D hA) hS 15 wM_15 g10 wM_s15 dX9_end_114 (fun H locs hP hS => ?_)
      refine lv_aload_n hx hb dX9_end_115 rfl (lv_at hl 0 rfl) ?_
      refine get_W C0 hK hP iwX9 0 wM_0 rfl 23 (by decide) mF_X9_60 rfl rfl dX9_end_116 ?_
      refine lv_aload_n hx hb dX9_end_119 rfl (lv_at hl 0 rfl) ?_
      refine get_W C0 hK hP iwX9 0 wM_0 rfl 20 (by decide) mF_X9_175 rfl rfl dX9_end_120 ?_
      refine lv_aload_n hx hb dX9_end_123 rfl (lv_at hl 0 rfl) ?_
      refine get_W C0 hK hP iwX9 0 wM_0 rfl 14 (by decide) mF_X9_42 rfl rfl dX9_end_124 ?_
      refine lv_aload_n hx hb dX9_end_127 rfl (lv_at hl 0 rfl) ?_
      refine get_W C0 hK hP iwX9 0 wM_0 rfl 12 (by decide) mF_X9_172 rfl rfl dX9_end_128 ?_
      obtain ⟨g11, hF⟩ := gI_some hF
      refine va_iald hx hb hK hP 10 0 wM_10 rfl g11 dX9_end_131 ?_
      obtain ⟨g12, hF⟩ := gI_some hF
      refine iast_W C0 hK hP (wM_D hA) hS 16 wM_16 g12 wM_s16 dX9_end_132 (fun H locs hP hS => ?_)
      refine lv_aload_n hx hb dX9_end_133 rfl (lv_at hl 0 rfl) ?_
      refine get_W C0 hK hP iwX9 0 wM_0 rfl 24 (by decide) mF_X9_63 rfl rfl dX9_end_134 ?_
      refine lv_aload_n hx hb dX9_end_137 rfl (lv_at hl 0 rfl) ?_
      refine get_W C0 hK hP iwX9 0 wM_0 rfl 20 (by decide) mF_X9_175 rfl rfl dX9_end_138 ?_
      refine lv_aload_n hx hb dX9_end_141 rfl (lv_at hl 0 rfl) ?_
      refine get_W C0 hK hP iwX9 0 wM_0 rfl 16 (by decide) mF_X9_48 rfl rfl dX9_end_142 ?_
      refine lv_aload_n hx hb dX9_end_145 rfl (lv_at hl 0 rfl) ?_
      refine get_W C0 hK hP iwX9 0 wM_0 rfl 12 (by decide) mF_X9_172 rfl rfl dX9_end_146 ?_
      obtain ⟨g13, hF⟩ := gI_some hF
      refine va_iald hx hb hK hP 12 0 wM_12 rfl g13 dX9_end_149 ?_
      obtain ⟨g14, hF⟩ := gI_some hF
      refine iast_W C0 hK hP (wM_D hA) hS 17 wM_17 g14 wM_s17 dX9_end_150 (fun H locs hP hS => ?_)
      refine lv_aload_n hx hb dX9_end_151 rfl (lv_at hl 0 rfl) ?_
      refine lv_dup hx hb dX9_end_152 rfl ?_
      refine get_W C0 hK hP iwX9 0 wM_0 rfl 20 (by decide) mF_X9_175 rfl rfl dX9_end_153 ?_
      refine lv_iconst (v := 1) hx hb dX9_end_156 (by decide) ?_
      refine lv_iadd hx hb dX9_end_157 ?_
      refine put_W (k := 20) C0 hK hP (wM_D hA) hS iwX9 tyX9_ok nmX9 0 wM_0 rfl (by decide) mF_X9_175 rfl rfl rfl rfl (Nat.le_of_ble_eq_true rfl) wM_s0_20 dX9_end_158 (fun H locs hP hS => ?_)
      cases hF
      exact ret_Wv C0 hP hS trivial dX9_end_161
    · replace hF := (if_neg c8).symm.trans hF
      refine lv_aload_n hx hb dX9_end_49 rfl (lv_at hl 0 rfl) ?_
      refine get_W C0 hK hP iwX9 0 wM_0 rfl 22 (by decide) mF_X9_57 rfl rfl dX9_end_50 ?_
      refine lv_iload_n hx hb dX9_end_53 rfl (lv_at hl 1 rfl) ?_
      refine lv_aload_n hx hb dX9_end_54 rfl (lv_at hl 0 rfl) ?_
      refine get_W C0 hK hP iwX9 0 wM_0 rfl 22 (by decide) mF_X9_57 rfl rfl dX9_end_55 ?_
      refine lv_iload_n hx hb dX9_end_58 rfl (lv_at hl 1 rfl) ?_
      refine lv_iconst (v := 1) hx hb dX9_end_59 (by decide) ?_
      refine lv_iadd hx hb dX9_end_60 ?_
      obtain ⟨g15, hF⟩ := gI_some hF
      refine va_iald hx hb hK hP 15 0 wM_15 rfl g15 dX9_end_61 ?_
      obtain ⟨g16, hF⟩ := gI_some hF
      refine iast_W C0 hK hP (wM_D hA) hS 15 wM_15 g16 wM_s15 dX9_end_62 (fun H locs hP hS => ?_)
      refine lv_aload_n hx hb dX9_end_63 rfl (lv_at hl 0 rfl) ?_
      refine get_W C0 hK hP iwX9 0 wM_0 rfl 23 (by decide) mF_X9_60 rfl rfl dX9_end_64 ?_
      refine lv_iload_n hx hb dX9_end_67 rfl (lv_at hl 1 rfl) ?_
      refine lv_aload_n hx hb dX9_end_68 rfl (lv_at hl 0 rfl) ?_
      refine get_W C0 hK hP iwX9 0 wM_0 rfl 23 (by decide) mF_X9_60 rfl rfl dX9_end_69 ?_
      refine lv_iload_n hx hb dX9_end_72 rfl (lv_at hl 1 rfl) ?_
      refine lv_iconst (v := 1) hx hb dX9_end_73 (by decide) ?_
      refine lv_iadd hx hb dX9_end_74 ?_
      obtain ⟨g17, hF⟩ := gI_some hF
      refine va_iald hx hb hK hP 16 0 wM_16 rfl g17 dX9_end_75 ?_
      obtain ⟨g18, hF⟩ := gI_some hF
      refine iast_W C0 hK hP (wM_D hA) hS 16 wM_16 g18 wM_s16 dX9_end_76 (fun H locs hP hS => ?_)
      refine lv_aload_n hx hb dX9_end_77 rfl (lv_at hl 0 rfl) ?_
      refine get_W C0 hK hP iwX9 0 wM_0 rfl 24 (by decide) mF_X9_63 rfl rfl dX9_end_78 ?_
      refine lv_iload_n hx hb dX9_end_81 rfl (lv_at hl 1 rfl) ?_
      refine lv_aload_n hx hb dX9_end_82 rfl (lv_at hl 0 rfl) ?_
      refine get_W C0 hK hP iwX9 0 wM_0 rfl 24 (by decide) mF_X9_63 rfl rfl dX9_end_83 ?_
      refine lv_iload_n hx hb dX9_end_86 rfl (lv_at hl 1 rfl) ?_
      refine lv_iconst (v := 1) hx hb dX9_end_87 (by decide) ?_
      refine lv_iadd hx hb dX9_end_88 ?_
      obtain ⟨g19, hF⟩ := gI_some hF
      refine va_iald hx hb hK hP 17 0 wM_17 rfl g19 dX9_end_89 ?_
      obtain ⟨g20, hF⟩ := gI_some hF
      refine iast_W C0 hK hP (wM_D hA) hS 17 wM_17 g20 wM_s17 dX9_end_90 (fun H locs hP hS => ?_)
      refine lv_iinc (v := x1 + 1) (lv' := [(1, .int (x1 + 1)), (0, .ref (ad 0))]) hx hb dX9_end_91 hl (k := 1) rfl rfl (by decide) rfl (fun ls hl => ?_)
      refine lv_goto (tgt := 41) hx hb dX9_end_94 (by decide) ?_
      exact ih (up2 (up2 (up2 mem 15 x1.toNatClampNeg (mem 15 (x1 + 1).toNatClampNeg)) 16 x1.toNatClampNeg ((up2 mem 15 x1.toNatClampNeg (mem 15 (x1 + 1).toNatClampNeg)) 16 (x1 + 1).toNatClampNeg)) 17 x1.toNatClampNeg ((up2 (up2 mem 15 x1.toNatClampNeg (mem 15 (x1 + 1).toNatClampNeg)) 16 x1.toNatClampNeg ((up2 mem 15 x1.toNatClampNeg (mem 15 (x1 + 1).toNatClampNeg)) 16 (x1 + 1).toNatClampNeg)) 17 (x1 + 1).toNatClampNeg)) (x1 + 1) _ _ ls hF hP hS (lv_sub hl [1, 0] rfl)
def fX9_end (mem : Mem) : Option (Mem) :=
  if (up2 mem 0 12 ((mem 0 12) - 1)) 0 20 = 100 then (fX9_end_41 fu (up2 (up2 (up2 mem 0 12 ((mem 0 12) - 1)) 0 20 (((up2 mem 0 12 ((mem 0 12) - 1)) 0 20) - 1)) 0 21 (((up2 (up2 mem 0 12 ((mem 0 12) - 1)) 0 20 (((up2 mem 0 12 ((mem 0 12) - 1)) 0 20) - 1)) 0 21) + 1)) 0) else (gI ((up2 mem 0 12 ((mem 0 12) - 1)) 0 12) 5 (gI ((up2 mem 0 12 ((mem 0 12) - 1)) 0 20) 100 (gI ((up2 (up2 mem 0 12 ((mem 0 12) - 1)) 15 ((up2 mem 0 12 ((mem 0 12) - 1)) 0 20).toNatClampNeg ((up2 mem 0 12 ((mem 0 12) - 1)) 9 ((up2 mem 0 12 ((mem 0 12) - 1)) 0 12).toNatClampNeg)) 0 12) 5 (gI ((up2 (up2 mem 0 12 ((mem 0 12) - 1)) 15 ((up2 mem 0 12 ((mem 0 12) - 1)) 0 20).toNatClampNeg ((up2 mem 0 12 ((mem 0 12) - 1)) 9 ((up2 mem 0 12 ((mem 0 12) - 1)) 0 12).toNatClampNeg)) 0 20) 100 (gI ((up2 (up2 (up2 mem 0 12 ((mem 0 12) - 1)) 15 ((up2 mem 0 12 ((mem 0 12) - 1)) 0 20).toNatClampNeg ((up2 mem 0 12 ((mem 0 12) - 1)) 9 ((up2 mem 0 12 ((mem 0 12) - 1)) 0 12).toNatClampNeg)) 16 ((up2 (up2 mem 0 12 ((mem 0 12) - 1)) 15 ((up2 mem 0 12 ((mem 0 12) - 1)) 0 20).toNatClampNeg ((up2 mem 0 12 ((mem 0 12) - 1)) 9 ((up2 mem 0 12 ((mem 0 12) - 1)) 0 12).toNatClampNeg)) 0 20).toNatClampNeg ((up2 (up2 mem 0 12 ((mem 0 12) - 1)) 15 ((up2 mem 0 12 ((mem 0 12) - 1)) 0 20).toNatClampNeg ((up2 mem 0 12 ((mem 0 12) - 1)) 9 ((up2 mem 0 12 ((mem 0 12) - 1)) 0 12).toNatClampNeg)) 10 ((up2 (up2 mem 0 12 ((mem 0 12) - 1)) 15 ((up2 mem 0 12 ((mem 0 12) - 1)) 0 20).toNatClampNeg ((up2 mem 0 12 ((mem 0 12) - 1)) 9 ((up2 mem 0 12 ((mem 0 12) - 1)) 0 12).toNatClampNeg)) 0 12).toNatClampNeg)) 0 12) 5 (gI ((up2 (up2 (up2 mem 0 12 ((mem 0 12) - 1)) 15 ((up2 mem 0 12 ((mem 0 12) - 1)) 0 20).toNatClampNeg ((up2 mem 0 12 ((mem 0 12) - 1)) 9 ((up2 mem 0 12 ((mem 0 12) - 1)) 0 12).toNatClampNeg)) 16 ((up2 (up2 mem 0 12 ((mem 0 12) - 1)) 15 ((up2 mem 0 12 ((mem 0 12) - 1)) 0 20).toNatClampNeg ((up2 mem 0 12 ((mem 0 12) - 1)) 9 ((up2 mem 0 12 ((mem 0 12) - 1)) 0 12).toNatClampNeg)) 0 20).toNatClampNeg ((up2 (up2 mem 0 12 ((mem 0 12) - 1)) 15 ((up2 mem 0 12 ((mem 0 12) - 1)) 0 20).toNatClampNeg ((up2 mem 0 12 ((mem 0 12) - 1)) 9 ((up2 mem 0 12 ((mem 0 12) - 1)) 0 12).toNatClampNeg)) 10 ((up2 (up2 mem 0 12 ((mem 0 12) - 1)) 15 ((up2 mem 0 12 ((mem 0 12) - 1)) 0 20).toNatClampNeg ((up2 mem 0 12 ((mem 0 12) - 1)) 9 ((up2 mem 0 12 ((mem 0 12) - 1)) 0 12).toNatClampNeg)) 0 12).toNatClampNeg)) 0 20) 100 (some (up2 (up2 (up2 (up2 (up2 mem 0 12 ((mem 0 12) - 1)) 15 ((up2 mem 0 12 ((mem 0 12) - 1)) 0 20).toNatClampNeg ((up2 mem 0 12 ((mem 0 12) - 1)) 9 ((up2 mem 0 12 ((mem 0 12) - 1)) 0 12).toNatClampNeg)) 16 ((up2 (up2 mem 0 12 ((mem 0 12) - 1)) 15 ((up2 mem 0 12 ((mem 0 12) - 1)) 0 20).toNatClampNeg ((up2 mem 0 12 ((mem 0 12) - 1)) 9 ((up2 mem 0 12 ((mem 0 12) - 1)) 0 12).toNatClampNeg)) 0 20).toNatClampNeg ((up2 (up2 mem 0 12 ((mem 0 12) - 1)) 15 ((up2 mem 0 12 ((mem 0 12) - 1)) 0 20).toNatClampNeg ((up2 mem 0 12 ((mem 0 12) - 1)) 9 ((up2 mem 0 12 ((mem 0 12) - 1)) 0 12).toNatClampNeg)) 10 ((up2 (up2 mem 0 12 ((mem 0 12) - 1)) 15 ((up2 mem 0 12 ((mem 0 12) - 1)) 0 20).toNatClampNeg ((up2 mem 0 12 ((mem 0 12) - 1)) 9 ((up2 mem 0 12 ((mem 0 12) - 1)) 0 12).toNatClampNeg)) 0 12).toNatClampNeg)) 17 ((up2 (up2 (up2 mem 0 12 ((mem 0 12) - 1)) 15 ((up2 mem 0 12 ((mem 0 12) - 1)) 0 20).toNatClampNeg ((up2 mem 0 12 ((mem 0 12) - 1)) 9 ((up2 mem 0 12 ((mem 0 12) - 1)) 0 12).toNatClampNeg)) 16 ((up2 (up2 mem 0 12 ((mem 0 12) - 1)) 15 ((up2 mem 0 12 ((mem 0 12) - 1)) 0 20).toNatClampNeg ((up2 mem 0 12 ((mem 0 12) - 1)) 9 ((up2 mem 0 12 ((mem 0 12) - 1)) 0 12).toNatClampNeg)) 0 20).toNatClampNeg ((up2 (up2 mem 0 12 ((mem 0 12) - 1)) 15 ((up2 mem 0 12 ((mem 0 12) - 1)) 0 20).toNatClampNeg ((up2 mem 0 12 ((mem 0 12) - 1)) 9 ((up2 mem 0 12 ((mem 0 12) - 1)) 0 12).toNatClampNeg)) 10 ((up2 (up2 mem 0 12 ((mem 0 12) - 1)) 15 ((up2 mem 0 12 ((mem 0 12) - 1)) 0 20).toNatClampNeg ((up2 mem 0 12 ((mem 0 12) - 1)) 9 ((up2 mem 0 12 ((mem 0 12) - 1)) 0 12).toNatClampNeg)) 0 12).toNatClampNeg)) 0 20).toNatClampNeg ((up2 (up2 (up2 mem 0 12 ((mem 0 12) - 1)) 15 ((up2 mem 0 12 ((mem 0 12) - 1)) 0 20).toNatClampNeg ((up2 mem 0 12 ((mem 0 12) - 1)) 9 ((up2 mem 0 12 ((mem 0 12) - 1)) 0 12).toNatClampNeg)) 16 ((up2 (up2 mem 0 12 ((mem 0 12) - 1)) 15 ((up2 mem 0 12 ((mem 0 12) - 1)) 0 20).toNatClampNeg ((up2 mem 0 12 ((mem 0 12) - 1)) 9 ((up2 mem 0 12 ((mem 0 12) - 1)) 0 12).toNatClampNeg)) 0 20).toNatClampNeg ((up2 (up2 mem 0 12 ((mem 0 12) - 1)) 15 ((up2 mem 0 12 ((mem 0 12) - 1)) 0 20).toNatClampNeg ((up2 mem 0 12 ((mem 0 12) - 1)) 9 ((up2 mem 0 12 ((mem 0 12) - 1)) 0 12).toNatClampNeg)) 10 ((up2 (up2 mem 0 12 ((mem 0 12) - 1)) 15 ((up2 mem 0 12 ((mem 0 12) - 1)) 0 20).toNatClampNeg ((up2 mem 0 12 ((mem 0 12) - 1)) 9 ((up2 mem 0 12 ((mem 0 12) - 1)) 0 12).toNatClampNeg)) 0 12).toNatClampNeg)) 12 ((up2 (up2 (up2 mem 0 12 ((mem 0 12) - 1)) 15 ((up2 mem 0 12 ((mem 0 12) - 1)) 0 20).toNatClampNeg ((up2 mem 0 12 ((mem 0 12) - 1)) 9 ((up2 mem 0 12 ((mem 0 12) - 1)) 0 12).toNatClampNeg)) 16 ((up2 (up2 mem 0 12 ((mem 0 12) - 1)) 15 ((up2 mem 0 12 ((mem 0 12) - 1)) 0 20).toNatClampNeg ((up2 mem 0 12 ((mem 0 12) - 1)) 9 ((up2 mem 0 12 ((mem 0 12) - 1)) 0 12).toNatClampNeg)) 0 20).toNatClampNeg ((up2 (up2 mem 0 12 ((mem 0 12) - 1)) 15 ((up2 mem 0 12 ((mem 0 12) - 1)) 0 20).toNatClampNeg ((up2 mem 0 12 ((mem 0 12) - 1)) 9 ((up2 mem 0 12 ((mem 0 12) - 1)) 0 12).toNatClampNeg)) 10 ((up2 (up2 mem 0 12 ((mem 0 12) - 1)) 15 ((up2 mem 0 12 ((mem 0 12) - 1)) 0 20).toNatClampNeg ((up2 mem 0 12 ((mem 0 12) - 1)) 9 ((up2 mem 0 12 ((mem 0 12) - 1)) 0 12).toNatClampNeg)) 0 12).toNatClampNeg)) 0 12).toNatClampNeg)) 0 20 (((up2 (up2 (up2 (up2 mem 0 12 ((mem 0 12) - 1)) 15 ((up2 mem 0 12 ((mem 0 12) - 1)) 0 20).toNatClampNeg ((up2 mem 0 12 ((mem 0 12) - 1)) 9 ((up2 mem 0 12 ((mem 0 12) - 1)) 0 12).toNatClampNeg)) 16 ((up2 (up2 mem 0 12 ((mem 0 12) - 1)) 15 ((up2 mem 0 12 ((mem 0 12) - 1)) 0 20).toNatClampNeg ((up2 mem 0 12 ((mem 0 12) - 1)) 9 ((up2 mem 0 12 ((mem 0 12) - 1)) 0 12).toNatClampNeg)) 0 20).toNatClampNeg ((up2 (up2 mem 0 12 ((mem 0 12) - 1)) 15 ((up2 mem 0 12 ((mem 0 12) - 1)) 0 20).toNatClampNeg ((up2 mem 0 12 ((mem 0 12) - 1)) 9 ((up2 mem 0 12 ((mem 0 12) - 1)) 0 12).toNatClampNeg)) 10 ((up2 (up2 mem 0 12 ((mem 0 12) - 1)) 15 ((up2 mem 0 12 ((mem 0 12) - 1)) 0 20).toNatClampNeg ((up2 mem 0 12 ((mem 0 12) - 1)) 9 ((up2 mem 0 12 ((mem 0 12) - 1)) 0 12).toNatClampNeg)) 0 12).toNatClampNeg)) 17 ((up2 (up2 (up2 mem 0 12 ((mem 0 12) - 1)) 15 ((up2 mem 0 12 ((mem 0 12) - 1)) 0 20).toNatClampNeg ((up2 mem 0 12 ((mem 0 12) - 1)) 9 ((up2 mem 0 12 ((mem 0 12) - 1)) 0 12).toNatClampNeg)) 16 ((up2 (up2 mem 0 12 ((mem 0 12) - 1)) 15 ((up2 mem 0 12 ((mem 0 12) - 1)) 0 20).toNatClampNeg ((up2 mem 0 12 ((mem 0 12) - 1)) 9 ((up2 mem 0 12 ((mem 0 12) - 1)) 0 12).toNatClampNeg)) 0 20).toNatClampNeg ((up2 (up2 mem 0 12 ((mem 0 12) - 1)) 15 ((up2 mem 0 12 ((mem 0 12) - 1)) 0 20).toNatClampNeg ((up2 mem 0 12 ((mem 0 12) - 1)) 9 ((up2 mem 0 12 ((mem 0 12) - 1)) 0 12).toNatClampNeg)) 10 ((up2 (up2 mem 0 12 ((mem 0 12) - 1)) 15 ((up2 mem 0 12 ((mem 0 12) - 1)) 0 20).toNatClampNeg ((up2 mem 0 12 ((mem 0 12) - 1)) 9 ((up2 mem 0 12 ((mem 0 12) - 1)) 0 12).toNatClampNeg)) 0 12).toNatClampNeg)) 0 20).toNatClampNeg ((up2 (up2 (up2 mem 0 12 ((mem 0 12) - 1)) 15 ((up2 mem 0 12 ((mem 0 12) - 1)) 0 20).toNatClampNeg ((up2 mem 0 12 ((mem 0 12) - 1)) 9 ((up2 mem 0 12 ((mem 0 12) - 1)) 0 12).toNatClampNeg)) 16 ((up2 (up2 mem 0 12 ((mem 0 12) - 1)) 15 ((up2 mem 0 12 ((mem 0 12) - 1)) 0 20).toNatClampNeg ((up2 mem 0 12 ((mem 0 12) - 1)) 9 ((up2 mem 0 12 ((mem 0 12) - 1)) 0 12).toNatClampNeg)) 0 20).toNatClampNeg ((up2 (up2 mem 0 12 ((mem 0 12) - 1)) 15 ((up2 mem 0 12 ((mem 0 12) - 1)) 0 20).toNatClampNeg ((up2 mem 0 12 ((mem 0 12) - 1)) 9 ((up2 mem 0 12 ((mem 0 12) - 1)) 0 12).toNatClampNeg)) 10 ((up2 (up2 mem 0 12 ((mem 0 12) - 1)) 15 ((up2 mem 0 12 ((mem 0 12) - 1)) 0 20).toNatClampNeg ((up2 mem 0 12 ((mem 0 12) - 1)) 9 ((up2 mem 0 12 ((mem 0 12) - 1)) 0 12).toNatClampNeg)) 0 12).toNatClampNeg)) 12 ((up2 (up2 (up2 mem 0 12 ((mem 0 12) - 1)) 15 ((up2 mem 0 12 ((mem 0 12) - 1)) 0 20).toNatClampNeg ((up2 mem 0 12 ((mem 0 12) - 1)) 9 ((up2 mem 0 12 ((mem 0 12) - 1)) 0 12).toNatClampNeg)) 16 ((up2 (up2 mem 0 12 ((mem 0 12) - 1)) 15 ((up2 mem 0 12 ((mem 0 12) - 1)) 0 20).toNatClampNeg ((up2 mem 0 12 ((mem 0 12) - 1)) 9 ((up2 mem 0 12 ((mem 0 12) - 1)) 0 12).toNatClampNeg)) 0 20).toNatClampNeg ((up2 (up2 mem 0 12 ((mem 0 12) - 1)) 15 ((up2 mem 0 12 ((mem 0 12) - 1)) 0 20).toNatClampNeg ((up2 mem 0 12 ((mem 0 12) - 1)) 9 ((up2 mem 0 12 ((mem 0 12) - 1)) 0 12).toNatClampNeg)) 10 ((up2 (up2 mem 0 12 ((mem 0 12) - 1)) 15 ((up2 mem 0 12 ((mem 0 12) - 1)) 0 20).toNatClampNeg ((up2 mem 0 12 ((mem 0 12) - 1)) 9 ((up2 mem 0 12 ((mem 0 12) - 1)) 0 12).toNatClampNeg)) 0 12).toNatClampNeg)) 0 12).toNatClampNeg)) 0 20) + 1)))))))))
set_option maxHeartbeats 4000000 in
set_option maxRecDepth 100000 in
theorem kX9_end (l : Launch) (g : gG) (ad : Nat → Nat) (mem : Mem) (mem2 : Mem) (hF : fX9_end mem = some mem2) : Met l yX9_end (Cond.code yX9_end cX9_end 2 (none) :: gw) { frames := 1, cells := 0, slots := 0, locals := 24 } (pG (wM g ad mem) (eM g ad) g [.ref (ad 0)]) (qW (wM g ad mem2) g (AW 29 ad) (none) (True)) 0 0 (AW 29 ad) := by
  refine met_of (by decide) (Nat.le_of_ble_eq_true rfl) ?_
  intro p e s m args below meth c ls C0 hP hl
  obtain ⟨hx, hb, hml, hown, hts, hr, hlk, hE⟩ := id C0
  obtain ⟨hK, hA⟩ := id hE
  have hl : lv_has ls 2 [(0, .ref (ad 0))] := hl
  have hS : va_S (AW 29 ad) s.heap s.heap [] := va_S.rf
  unfold fX9_end at hF
  refine lv_aload_n hx hb dX9_end_0 rfl (lv_at hl 0 rfl) ?_
  refine lv_dup hx hb dX9_end_1 rfl ?_
  refine get_W C0 hK hP iwX9 0 wM_0 rfl 12 (by decide) mF_X9_172 rfl rfl dX9_end_2 ?_
  refine lv_iconst (v := 1) hx hb dX9_end_5 (by decide) ?_
  refine lv_isub hx hb dX9_end_6 ?_
  refine put_W (k := 12) C0 hK hP (wM_D hA) hS iwX9 tyX9_ok nmX9 0 wM_0 rfl (by decide) mF_X9_172 rfl rfl rfl rfl (Nat.le_of_ble_eq_true rfl) wM_s0_12 dX9_end_7 (fun H locs hP hS => ?_)
  refine lv_aload_n hx hb dX9_end_10 rfl (lv_at hl 0 rfl) ?_
  refine get_W C0 hK hP iwX9 0 wM_0 rfl 20 (by decide) mF_X9_175 rfl rfl dX9_end_11 ?_
  refine lv_bipush (v := 100) hx hb dX9_end_14 (by decide) ?_
  refine lv_icmp_ne (tgt := 97) hx hb dX9_end_16 (by decide) (fun c1 => ?_) (fun c1 => ?_)
  · replace hF := (if_neg c1).symm.trans hF
    refine lv_aload_n hx hb dX9_end_97 rfl (lv_at hl 0 rfl) ?_
    refine get_W C0 hK hP iwX9 0 wM_0 rfl 22 (by decide) mF_X9_57 rfl rfl dX9_end_98 ?_
    refine lv_aload_n hx hb dX9_end_101 rfl (lv_at hl 0 rfl) ?_
    refine get_W C0 hK hP iwX9 0 wM_0 rfl 20 (by decide) mF_X9_175 rfl rfl dX9_end_102 ?_
    refine lv_aload_n hx hb dX9_end_105 rfl (lv_at hl 0 rfl) ?_
    refine get_W C0 hK hP iwX9 0 wM_0 rfl 13 (by decide) mF_X9_39 rfl rfl dX9_end_106 ?_
    refine lv_aload_n hx hb dX9_end_109 rfl (lv_at hl 0 rfl) ?_
    refine get_W C0 hK hP iwX9 0 wM_0 rfl 12 (by decide) mF_X9_172 rfl rfl dX9_end_110 ?_
    obtain ⟨g2, hF⟩ := gI_some hF
    refine va_iald hx hb hK hP 9 0 wM_9 rfl g2 dX9_end_113 ?_
    obtain ⟨g3, hF⟩ := gI_some hF
    refine iast_W C0 hK hP (wM_D hA) hS 15 wM_15 g3 wM_s15 dX9_end_114 (fun H locs hP hS => ?_)
    refine lv_aload_n hx hb dX9_end_115 rfl (lv_at hl 0 rfl) ?_
    refine get_W C0 hK hP iwX9 0 wM_0 rfl 23 (by decide) mF_X9_60 rfl rfl dX9_end_116 ?_
    refine lv_aload_n hx hb dX9_end_119 rfl (lv_at hl 0 rfl) ?_
    refine get_W C0 hK hP iwX9 0 wM_0 rfl 20 (by decide) mF_X9_175 rfl rfl dX9_end_120 ?_
    refine lv_aload_n hx hb dX9_end_123 rfl (lv_at hl 0 rfl) ?_
    refine get_W C0 hK hP iwX9 0 wM_0 rfl 14 (by decide) mF_X9_42 rfl rfl dX9_end_124 ?_
    refine lv_aload_n hx hb dX9_end_127 rfl (lv_at hl 0 rfl) ?_
    refine get_W C0 hK hP iwX9 0 wM_0 rfl 12 (by decide) mF_X9_172 rfl rfl dX9_end_128 ?_
    obtain ⟨g4, hF⟩ := gI_some hF
    refine va_iald hx hb hK hP 10 0 wM_10 rfl g4 dX9_end_131 ?_
    obtain ⟨g5, hF⟩ := gI_some hF
    refine iast_W C0 hK hP (wM_D hA) hS 16 wM_16 g5 wM_s16 dX9_end_132 (fun H locs hP hS => ?_)
    refine lv_aload_n hx hb dX9_end_133 rfl (lv_at hl 0 rfl) ?_
    refine get_W C0 hK hP iwX9 0 wM_0 rfl 24 (by decide) mF_X9_63 rfl rfl dX9_end_134 ?_
    refine lv_aload_n hx hb dX9_end_137 rfl (lv_at hl 0 rfl) ?_
    refine get_W C0 hK hP iwX9 0 wM_0 rfl 20 (by decide) mF_X9_175 rfl rfl dX9_end_138 ?_
    refine lv_aload_n hx hb dX9_end_141 rfl (lv_at hl 0 rfl) ?_
    refine get_W C0 hK hP iwX9 0 wM_0 rfl 16 (by decide) mF_X9_48 rfl rfl dX9_end_142 ?_
    refine lv_aload_n hx hb dX9_end_145 rfl (lv_at hl 0 rfl) ?_
    refine get_W C0 hK hP iwX9 0 wM_0 rfl 12 (by decide) mF_X9_172 rfl rfl dX9_end_146 ?_
    obtain ⟨g6, hF⟩ := gI_some hF
    refine va_iald hx hb hK hP 12 0 wM_12 rfl g6 dX9_end_149 ?_
    obtain ⟨g7, hF⟩ := gI_some hF
    refine iast_W C0 hK hP (wM_D hA) hS 17 wM_17 g7 wM_s17 dX9_end_150 (fun H locs hP hS => ?_)
    refine lv_aload_n hx hb dX9_end_151 rfl (lv_at hl 0 rfl) ?_
    refine lv_dup hx hb dX9_end_152 rfl ?_
    refine get_W C0 hK hP iwX9 0 wM_0 rfl 20 (by decide) mF_X9_175 rfl rfl dX9_end_153 ?_
    refine lv_iconst (v := 1) hx hb dX9_end_156 (by decide) ?_
    refine lv_iadd hx hb dX9_end_157 ?_
    refine put_W (k := 20) C0 hK hP (wM_D hA) hS iwX9 tyX9_ok nmX9 0 wM_0 rfl (by decide) mF_X9_175 rfl rfl rfl rfl (Nat.le_of_ble_eq_true rfl) wM_s0_20 dX9_end_158 (fun H locs hP hS => ?_)
    cases hF
    exact ret_Wv C0 hP hS trivial dX9_end_161
  · replace hF := (if_pos c1).symm.trans hF
    refine lv_aload_n hx hb dX9_end_19 rfl (lv_at hl 0 rfl) ?_
    refine lv_dup hx hb dX9_end_20 rfl ?_
    refine get_W C0 hK hP iwX9 0 wM_0 rfl 20 (by decide) mF_X9_175 rfl rfl dX9_end_21 ?_
    refine lv_iconst (v := 1) hx hb dX9_end_24 (by decide) ?_
    refine lv_isub hx hb dX9_end_25 ?_
    refine put_W (k := 20) C0 hK hP (wM_D hA) hS iwX9 tyX9_ok nmX9 0 wM_0 rfl (by decide) mF_X9_175 rfl rfl rfl rfl (Nat.le_of_ble_eq_true rfl) wM_s0_20 dX9_end_26 (fun H locs hP hS => ?_)
    refine lv_aload_n hx hb dX9_end_29 rfl (lv_at hl 0 rfl) ?_
    refine lv_dup hx hb dX9_end_30 rfl ?_
    refine get_W C0 hK hP iwX9 0 wM_0 rfl 21 (by decide) mF_X9_178 rfl rfl dX9_end_31 ?_
    refine lv_iconst (v := 1) hx hb dX9_end_34 (by decide) ?_
    refine lv_iadd hx hb dX9_end_35 ?_
    refine put_W (k := 21) C0 hK hP (wM_D hA) hS iwX9 tyX9_ok nmX9 0 wM_0 rfl (by decide) mF_X9_178 rfl rfl rfl rfl (Nat.le_of_ble_eq_true rfl) wM_s0_21 dX9_end_36 (fun H locs hP hS => ?_)
    refine lv_iconst (v := 0) hx hb dX9_end_39 (by decide) ?_
    refine lv_istore_n (lv' := [(1, .int 0), (0, .ref (ad 0))]) hx hb dX9_end_40 rfl hl (by decide) rfl (fun ls hl => ?_)
    exact lpX9_end_41 g ad mem2 C0 fu (up2 (up2 (up2 mem 0 12 ((mem 0 12) - 1)) 0 20 (((up2 mem 0 12 ((mem 0 12) - 1)) 0 20) - 1)) 0 21 (((up2 (up2 mem 0 12 ((mem 0 12) - 1)) 0 20 (((up2 mem 0 12 ((mem 0 12) - 1)) 0 20) - 1)) 0 21) + 1)) 0 _ _ ls hF hP hS (lv_sub hl [1, 0] rfl)
