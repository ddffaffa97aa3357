theorem pkX5_size : pkV yX5_size cX5_size 1 (some .int) RX5 0 := ⟨mI_X5_size, mS_X5_size, mN_X5, mC_X5_size, by decide +kernel⟩
def fX5_size (mem : Mem) : Option (Int32) :=
  some (mem 17 2)
set_option maxHeartbeats 4000000 in
set_option maxRecDepth 100000 in
theorem kX5_size (l : Launch) (g : gG) (ad : Nat → Nat) (tk : Nat) (mem : Mem) (r : Int32) (hF : fX5_size mem = some r) : Met l yX5_size (Cond.code yX5_size cX5_size 1 (some .int) :: gw) { frames := 1, cells := 0, slots := 0, locals := 24 } (pG (wX g ad mem) (eX g ad tk) g [.ref (ad 17)]) (qR (some (.int r)) (True)) 0 0 noA := by
  refine met_of (by decide) (Nat.le_of_ble_eq_true rfl) ?_
  intro p e s m args below meth c ls C0 hP hl
  obtain ⟨hx, hb, hml, hown, hts, hr, hlk, hE⟩ := id C0
  obtain ⟨hK, hN, hA, hZ, hT, hTA⟩ := id hE
  have hl : lv_has ls 1 [(0, .ref (ad 17))] := hl
  have hS : va_S (AW 44 ad) s.heap s.heap [] := va_S.rf
  unfold fX5_size at hF
  refine lv_aload_n hx hb dX5_size_0 rfl (lv_at hl 0 rfl) ?_
  refine get_W C0 hK hP iwX5 17 wX_17 rfl 2 (by decide) mF_X5_15 rfl rfl dX5_size_1 ?_
  cases hF
  exact ret_Ri C0 trivial dX5_size_4
theorem pkX5_has : pkV yX5_has cX5_has 3 (some .boolean) RX5 1 := ⟨mI_X5_has, mS_X5_has, mN_X5, mC_X5_has, by decide +kernel⟩
def fX5_has_2 (mem : Mem) (z1 : Int32) : Nat → Int32 → Option (Int32)
  | 0, _ => none
  | n + 1, x2 =>
    if mem 17 2 ≤ x2 then (some 0) else (if atF (mem 18) 6 x2 = z1 then (some 1) else (fX5_has_2 mem z1 n (x2 + 1)))
set_option maxHeartbeats 4000000 in
set_option maxRecDepth 100000 in
theorem lpX5_has_2 {p : Program} {l : Launch} {e : Env} {s : State} {m : MethodId} {args : Array Value} {below : List Frame} {meth : Method} {c : Code} (g : gG) (ad : Nat → Nat) (tk : Nat) (mem : Mem) (z1 : Int32) (r : Int32) (C0 : cxt (eX g ad tk) cX5_has 3 RX5 (some .boolean) p s m args meth c) (hP : va_P g.1 vwCl (wX g ad mem) s.heap) :
    ∀ (n : Nat) (x2 : Int32) (ls : Array Slot), fX5_has_2 mem z1 n x2 = some r → lv_has ls 3 [(0, .ref (ad 17)), (1, .int z1), (2, .int x2)] → W p l e { frames := 2, cells := 0, slots := 0, locals := 37 } s m args below meth c s.heap [] 0 0 (MQ below (qR (some (.int r)) (isB r)) args s 0 0 noA) (F0 m 2 ls []) := by
  obtain ⟨hx, hb, hml, hown, hts, hr, hlk, hE⟩ := id C0
  obtain ⟨hK, hN, hA, hZ, hT, hTA⟩ := id hE
  intro n
  induction n with
  | zero =>
    intro x2 ls hF hl
    cases hF
  | succ n ih =>
    intro x2 ls hF hl
    rw [fX5_has_2] at hF
    have hS : va_S (AW 44 ad) s.heap s.heap [] := va_S.rf
    refine lv_iload_n hx hb dX5_has_2 rfl (lv_at hl 2 rfl) ?_
    refine lv_aload_n hx hb dX5_has_3 rfl (lv_at hl 0 rfl) ?_
    refine get_W C0 hK hP iwX5 17 wX_17 rfl 2 (by decide) mF_X5_15 rfl rfl dX5_has_4 ?_
    refine lv_icmp_ge (tgt := 30) hx hb dX5_has_7 (by decide) (fun c1 => ?_) (fun c1 => ?_)
    · replace hF := (if_pos c1).symm.trans hF
      refine lv_iconst (v := 0) hx hb dX5_has_30 (by decide) ?_
      cases hF
      exact ret_Rz C0 (Or.inl rfl) (Or.inl rfl) dX5_has_31
    · replace hF := (if_neg c1).symm.trans hF
      refine lv_aload_n hx hb dX5_has_10 rfl (lv_at hl 0 rfl) ?_
      refine get_W C0 hK hP iwX5 17 wX_17 rfl 1 (by decide) mF_X5_9 rfl rfl dX5_has_11 ?_
      refine lv_iload_n hx hb dX5_has_14 rfl (lv_at hl 2 rfl) ?_
      refine at_W C0 hN hK hP 18 wX_18 (by decide) nN_X5_23 ⟨Nat.le_of_ble_eq_true rfl, Nat.le_of_ble_eq_true rfl, Nat.le_of_ble_eq_true rfl, Nat.le_of_ble_eq_true rfl⟩ hl.1 (Nat.le_of_ble_eq_true rfl) dX5_has_15 ?_
      refine lv_iload_n hx hb dX5_has_18 rfl (lv_at hl 1 rfl) ?_
      refine lv_icmp_ne (tgt := 24) hx hb dX5_has_19 (by decide) (fun c2 => ?_) (fun c2 => ?_)
      · replace hF := (if_neg c2).symm.trans hF
        refine lv_iinc (v := x2 + 1) (lv' := [(2, .int (x2 + 1)), (0, .ref (ad 17)), (1, .int z1)]) hx hb dX5_has_24 hl (k := 2) rfl rfl (by decide) rfl (fun ls hl => ?_)
        refine lv_goto (tgt := 2) hx hb dX5_has_27 (by decide) ?_
        exact ih (x2 + 1) ls hF (lv_sub hl [1, 2, 0] rfl)
      · replace hF := (if_pos c2).symm.trans hF
        refine lv_iconst (v := 1) hx hb dX5_has_22 (by decide) ?_
        cases hF
        exact ret_Rz C0 (Or.inr rfl) (Or.inr rfl) dX5_has_23
def fX5_has (mem : Mem) (a1 : Int32) : Option (Int32) :=
  fX5_has_2 mem a1 fu 0
set_option maxHeartbeats 4000000 in
set_option maxRecDepth 100000 in
theorem kX5_has (l : Launch) (g : gG) (ad : Nat → Nat) (tk : Nat) (mem : Mem) (a1 : Int32) (r : Int32) (hF : fX5_has mem a1 = some r) : Met l yX5_has (Cond.code yX5_has cX5_has 3 (some .boolean) :: gw) { frames := 2, cells := 0, slots := 0, locals := 37 } (pG (wX g ad mem) (eX g ad tk) g [.ref (ad 17), .int a1]) (qR (some (.int r)) (isB r)) 0 0 noA := by
  refine met_of (by decide) (Nat.le_of_ble_eq_true rfl) ?_
  intro p e s m args below meth c ls C0 hP hl
  obtain ⟨hx, hb, hml, hown, hts, hr, hlk, hE⟩ := id C0
  obtain ⟨hK, hN, hA, hZ, hT, hTA⟩ := id hE
  have hl : lv_has ls 3 [(0, .ref (ad 17)), (1, .int a1)] := hl
  have hS : va_S (AW 44 ad) s.heap s.heap [] := va_S.rf
  unfold fX5_has at hF
  refine lv_iconst (v := 0) hx hb dX5_has_0 (by decide) ?_
  refine lv_istore_n (lv' := [(2, .int 0), (0, .ref (ad 17)), (1, .int a1)]) hx hb dX5_has_1 rfl hl (by decide) rfl (fun ls hl => ?_)
  exact lpX5_has_2 g ad tk mem a1 r C0 hP fu 0 ls hF (lv_sub hl [1, 2, 0] rfl)
theorem pkX5_append : pkV yX5_append cX5_append 2 (none) RX5 1 := ⟨mI_X5_append, mS_X5_append, mN_X5, mC_X5_append, by decide +kernel⟩
def fX5_append (mem : Mem) (a1 : Int32) : Option (Mem) :=
  if 6 ≤ mem 17 2 then (some mem) else (some (up2 (upc mem 18 (setF (mem 18) 6 (mem 17 2) a1)) 17 2 (((upc mem 18 (setF (mem 18) 6 (mem 17 2) a1)) 17 2) + 1)))
set_option maxHeartbeats 4000000 in
set_option maxRecDepth 100000 in
theorem kX5_append (l : Launch) (g : gG) (ad : Nat → Nat) (tk : Nat) (mem : Mem) (a1 : Int32) (mem2 : Mem) (hF : fX5_append mem a1 = some mem2) : Met l yX5_append (Cond.code yX5_append cX5_append 2 (none) :: gw) { frames := 2, cells := 0, slots := 0, locals := 38 } (pG (wX g ad mem) (eX g ad tk) g [.ref (ad 17), .int a1]) (qW (wX g ad mem2) g (AW 44 ad) (none) (True)) 0 0 (AW 44 ad) := by
  refine met_of (by decide) (Nat.le_of_ble_eq_true rfl) ?_
  intro p e s m args below meth c ls C0 hP hl
  obtain ⟨hx, hb, hml, hown, hts, hr, hlk, hE⟩ := id C0
  obtain ⟨hK, hN, hA, hZ, hT, hTA⟩ := id hE
  have hl : lv_has ls 2 [(0, .ref (ad 17)), (1, .int a1)] := hl
  have hS : va_S (AW 44 ad) s.heap s.heap [] := va_S.rf
  unfold fX5_append at hF
  refine lv_aload_n hx hb dX5_append_0 rfl (lv_at hl 0 rfl) ?_
  refine get_W C0 hK hP iwX5 17 wX_17 rfl 2 (by decide) mF_X5_15 rfl rfl dX5_append_1 ?_
  refine lv_bipush (v := 6) hx hb dX5_append_4 (by decide) ?_
  refine lv_icmp_ge (tgt := 31) hx hb dX5_append_6 (by decide) (fun c1 => ?_) (fun c1 => ?_)
  · replace hF := (if_pos c1).symm.trans hF
    cases hF
    exact ret_Wv C0 hP hS trivial dX5_append_31
  · replace hF := (if_neg c1).symm.trans hF
    refine lv_aload_n hx hb dX5_append_9 rfl (lv_at hl 0 rfl) ?_
    refine get_W C0 hK hP iwX5 17 wX_17 rfl 1 (by decide) mF_X5_9 rfl rfl dX5_append_10 ?_
    refine lv_aload_n hx hb dX5_append_13 rfl (lv_at hl 0 rfl) ?_
    refine get_W C0 hK hP iwX5 17 wX_17 rfl 2 (by decide) mF_X5_15 rfl rfl dX5_append_14 ?_
    refine lv_iload_n hx hb dX5_append_17 rfl (lv_at hl 1 rfl) ?_
    refine set_W C0 hN hK hP (wX_D hA) hS 18 wX_18 (by decide) wX_s18 nN_X5_27 ⟨Nat.le_of_ble_eq_true rfl, Nat.le_of_ble_eq_true rfl, Nat.le_of_ble_eq_true rfl, Nat.le_of_ble_eq_true rfl⟩ hl.1 (Nat.le_of_ble_eq_true rfl) dX5_append_18 (fun H locs hP hS => ?_)
    refine lv_aload_n hx hb dX5_append_21 rfl (lv_at hl 0 rfl) ?_
    refine lv_dup hx hb dX5_append_22 rfl ?_
    refine get_W C0 hK hP iwX5 17 wX_17 rfl 2 (by decide) mF_X5_15 rfl rfl dX5_append_23 ?_
    refine lv_iconst (v := 1) hx hb dX5_append_26 (by decide) ?_
    refine lv_iadd hx hb dX5_append_27 ?_
    refine put_W (k := 2) C0 hK hP (wX_D hA) hS iwX5 tyX5_ok nmX5 17 wX_17 rfl (by decide) mF_X5_15 rfl rfl rfl rfl (Nat.le_of_ble_eq_true rfl) wX_s17_2 dX5_append_28 (fun H locs hP hS => ?_)
    cases hF
    exact ret_Wv C0 hP hS trivial dX5_append_31
theorem pkX5_clear : pkV yX5_clear cX5_clear 1 (none) RX5 0 := ⟨mI_X5_clear, mS_X5_clear, mN_X5, mC_X5_clear, by decide +kernel⟩
def fX5_clear (mem : Mem) : Option (Mem) :=
  some (up2 mem 17 2 0)
set_option maxHeartbeats 4000000 in
set_option maxRecDepth 100000 in
theorem kX5_clear (l : Launch) (g : gG) (ad : Nat → Nat) (tk : Nat) (mem : Mem) (mem2 : Mem) (hF : fX5_clear mem = some mem2) : Met l yX5_clear (Cond.code yX5_clear cX5_clear 1 (none) :: gw) { frames := 1, cells := 0, slots := 0, locals := 24 } (pG (wX g ad mem) (eX g ad tk) g [.ref (ad 17)]) (qW (wX g ad mem2) g (AW 44 ad) (none) (True)) 0 0 (AW 44 ad) := by
  refine met_of (by decide) (Nat.le_of_ble_eq_true rfl) ?_
  intro p e s m args below meth c ls C0 hP hl
  obtain ⟨hx, hb, hml, hown, hts, hr, hlk, hE⟩ := id C0
  obtain ⟨hK, hN, hA, hZ, hT, hTA⟩ := id hE
  have hl : lv_has ls 1 [(0, .ref (ad 17))] := hl
  have hS : va_S (AW 44 ad) s.heap s.heap [] := va_S.rf
  unfold fX5_clear at hF
  refine lv_aload_n hx hb dX5_clear_0 rfl (lv_at hl 0 rfl) ?_
  refine lv_iconst (v := 0) hx hb dX5_clear_1 (by decide) ?_
  refine put_W (k := 2) C0 hK hP (wX_D hA) hS iwX5 tyX5_ok nmX5 17 wX_17 rfl (by decide) mF_X5_15 rfl rfl rfl rfl (Nat.le_of_ble_eq_true rfl) wX_s17_2 dX5_clear_2 (fun H locs hP hS => ?_)
  cases hF
  exact ret_Wv C0 hP hS trivial dX5_clear_5
theorem pkX5_rankBy : pkV yX5_rankBy cX5_rankBy 5 (some .int) RX5 3 := ⟨mI_X5_rankBy, mS_X5_rankBy, mN_X5, mC_X5_rankBy, by decide +kernel⟩
def fX5_rankBy (k : Nat) (mem : Mem) (a1 : Int32) (a3 : Int32) : Option (Int32) :=
  ob1 (fX7_memberAt k mem a3) (fun r2 => if a1 = 1 then (ob1 (fX7_sortAt k mem a3) (fun r5 => if r5 = 2 then (some 0) else (some 1))) else (if a1 = 2 then (ob1 (fX7_sortAt k mem a3) (fun r9 => if r9 = 1 then (some 0) else (some 1))) else (if a1 = 3 then (ob1 (fX7_speechesOf k mem r2) (fun r13 => if r13 = 0 then (some 0) else (some 1))) else (if a1 = 4 then (ob1 (fX7_speechesOf k mem r2) (fun r17 => some r17)) else (if a1 = 5 then (ob1 (fX7_timeOf k mem r2) (fun r20 => some r20)) else (if a1 = 6 then (ob1 (fX4_delegationOf mem r2) (fun r23 => ob1 (fX7_delegationTime k mem r23) (fun r25 => some r25))) else (if a1 = 7 then (ob1 (fX7_latestDelegation k mem) (fun r28 => ob1 (fX4_delegationOf mem r2) (fun r30 => if r28 = r30 then (some 1) else (some 0)))) else (if a1 = 8 then (ob1 (fX4_isOfKind mem r2 1) (fun r34 => if r34 = 0 then (some 0) else (some 1))) else (if a1 = 9 then (ob1 (fX4_isOfKind mem r2 2) (fun r39 => if r39 = 0 then (some 1) else (some 0))) else (some 0))))))))))
set_option maxHeartbeats 4000000 in
set_option maxRecDepth 100000 in
theorem kX5_rankBy (l : Launch) (g : gG) (ad : Nat → Nat) (tk : Nat) (mem : Mem) (k : Nat) (hk : isSt k) (a1 : Int32) (a3 : Int32) (r : Int32) (hF : fX5_rankBy k mem a1 a3 = some r) : Met l yX5_rankBy (Cond.code yX5_rankBy cX5_rankBy 5 (some .int) :: gw) { frames := 3, cells := 0, slots := 0, locals := 61 } (pG (wX g ad mem) (eX g ad tk) g [.ref (ad 17), .int a1, .ref (ad k), .int a3]) (qR (some (.int r)) (True)) 0 0 noA := by
  refine met_of (by decide) (Nat.le_of_ble_eq_true rfl) ?_
  intro p e s m args below meth c ls C0 hP hl
  obtain ⟨hx, hb, hml, hown, hts, hr, hlk, hE⟩ := id C0
  obtain ⟨hK, hN, hA, hZ, hT, hTA⟩ := id hE
  have hl : lv_has ls 5 [(0, .ref (ad 17)), (1, .int a1), (2, .ref (ad k)), (3, .int a3)] := hl
  have hS : va_S (AW 44 ad) s.heap s.heap [] := va_S.rf
  unfold fX5_rankBy at hF
  refine lv_aload_n hx hb dX5_rankBy_0 rfl (lv_at hl 2 rfl) ?_
  refine lv_iload_n hx hb dX5_rankBy_1 rfl (lv_at hl 3 rfl) ?_
  obtain ⟨r2, h1, hF⟩ := ob_some hF
  refine cV_Ri C0 eX_st hP hS hK pkX7_memberAt (As := [.int a3]) (rest := []) (kX7_memberAt l g ad tk mem k hk a3 r2 h1) mL_X5_40 ⟨rfl, rfl, Nat.le_of_ble_eq_true rfl, Nat.le_of_ble_eq_true rfl, Nat.le_of_ble_eq_true rfl, Nat.le_of_ble_eq_true rfl⟩ k (wX_St hk) rfl rfl rfl hl.1 rfl (Nat.le_of_ble_eq_true rfl) dX5_rankBy_2 (fun _ => ?_)
  refine lv_istore (lv' := [(4, .int r2), (0, .ref (ad 17)), (1, .int a1), (2, .ref (ad k)), (3, .int a3)]) hx hb dX5_rankBy_5 hl (by decide) rfl (fun ls hl => ?_)
  refine lv_iload_n hx hb dX5_rankBy_7 rfl (lv_at hl 2 rfl) ?_
  by_cases c3 : a1 = 1
  · replace hF := (if_pos c3).symm.trans hF
    refine lv_tableIn (off := 52) (tgt := 60) hx hb dX5_rankBy_8 (by rw [c3]; decide) (by rw [c3]; decide) (by rw [c3]; rfl) (by decide) ?_
    refine lv_aload_n hx hb dX5_rankBy_60 rfl (lv_at hl 3 rfl) ?_
    refine lv_iload_n hx hb dX5_rankBy_61 rfl (lv_at hl 4 rfl) ?_
    obtain ⟨r5, h4, hF⟩ := ob_some hF
    refine cV_Ri C0 eX_st hP hS hK pkX7_sortAt (As := [.int a3]) (rest := []) (kX7_sortAt l g ad tk mem k hk a3 r5 h4) mL_X5_36 ⟨rfl, rfl, Nat.le_of_ble_eq_true rfl, Nat.le_of_ble_eq_true rfl, Nat.le_of_ble_eq_true rfl, Nat.le_of_ble_eq_true rfl⟩ k (wX_St hk) rfl rfl rfl hl.1 rfl (Nat.le_of_ble_eq_true rfl) dX5_rankBy_62 (fun _ => ?_)
    refine lv_iconst (v := 2) hx hb dX5_rankBy_65 (by decide) ?_
    refine lv_icmp_ne (tgt := 73) hx hb dX5_rankBy_66 (by decide) (fun c6 => ?_) (fun c6 => ?_)
    · replace hF := (if_neg c6).symm.trans hF
      refine lv_iconst (v := 1) hx hb dX5_rankBy_73 (by decide) ?_
      cases hF
      exact ret_Ri C0 trivial dX5_rankBy_74
    · replace hF := (if_pos c6).symm.trans hF
      refine lv_iconst (v := 0) hx hb dX5_rankBy_69 (by decide) ?_
      refine lv_goto (tgt := 74) hx hb dX5_rankBy_70 (by decide) ?_
      cases hF
      exact ret_Ri C0 trivial dX5_rankBy_74
  replace hF := (if_neg c3).symm.trans hF
  by_cases c7 : a1 = 2
  · replace hF := (if_pos c7).symm.trans hF
    refine lv_tableIn (off := 67) (tgt := 75) hx hb dX5_rankBy_8 (by rw [c7]; decide) (by rw [c7]; decide) (by rw [c7]; rfl) (by decide) ?_
    refine lv_aload_n hx hb dX5_rankBy_75 rfl (lv_at hl 3 rfl) ?_
    refine lv_iload_n hx hb dX5_rankBy_76 rfl (lv_at hl 4 rfl) ?_
    obtain ⟨r9, h8, hF⟩ := ob_some hF
    refine cV_Ri C0 eX_st hP hS hK pkX7_sortAt (As := [.int a3]) (rest := []) (kX7_sortAt l g ad tk mem k hk a3 r9 h8) mL_X5_36 ⟨rfl, rfl, Nat.le_of_ble_eq_true rfl, Nat.le_of_ble_eq_true rfl, Nat.le_of_ble_eq_true rfl, Nat.le_of_ble_eq_true rfl⟩ k (wX_St hk) rfl rfl rfl hl.1 rfl (Nat.le_of_ble_eq_true rfl) dX5_rankBy_77 (fun _ => ?_)
    refine lv_iconst (v := 1) hx hb dX5_rankBy_80 (by decide) ?_
    refine lv_icmp_ne (tgt := 88) hx hb dX5_rankBy_81 (by decide) (fun c10 => ?_) (fun c10 => ?_)
    · replace hF := (if_neg c10).symm.trans hF
      refine lv_iconst (v := 1) hx hb dX5_rankBy_88 (by decide) ?_
      cases hF
      exact ret_Ri C0 trivial dX5_rankBy_89
    · replace hF := (if_pos c10).symm.trans hF
      refine lv_iconst (v := 0) hx hb dX5_rankBy_84 (by decide) ?_
      refine lv_goto (tgt := 89) hx hb dX5_rankBy_85 (by decide) ?_
      cases hF
      exact ret_Ri C0 trivial dX5_rankBy_89
  replace hF := (if_neg c7).symm.trans hF
  by_cases c11 : a1 = 3
  · replace hF := (if_pos c11).symm.trans hF
    refine lv_tableIn (off := 82) (tgt := 90) hx hb dX5_rankBy_8 (by rw [c11]; decide) (by rw [c11]; decide) (by rw [c11]; rfl) (by decide) ?_
    refine lv_aload_n hx hb dX5_rankBy_90 rfl (lv_at hl 3 rfl) ?_
    refine lv_iload hx hb dX5_rankBy_91 (lv_at hl 0 rfl) ?_
    obtain ⟨r13, h12, hF⟩ := ob_some hF
    refine cV_Ri C0 eX_st hP hS hK pkX7_speechesOf (As := [.int r2]) (rest := []) (kX7_speechesOf l g ad tk mem k hk r2 r13 h12) mL_X5_57 ⟨rfl, rfl, Nat.le_of_ble_eq_true rfl, Nat.le_of_ble_eq_true rfl, Nat.le_of_ble_eq_true rfl, Nat.le_of_ble_eq_true rfl⟩ k (wX_St hk) rfl rfl rfl hl.1 rfl (Nat.le_of_ble_eq_true rfl) dX5_rankBy_93 (fun _ => ?_)
    refine lv_if_ne (tgt := 103) hx hb dX5_rankBy_96 (by decide) (fun c14 => ?_) (fun c14 => ?_)
    · replace hF := (if_neg c14).symm.trans hF
      refine lv_iconst (v := 1) hx hb dX5_rankBy_103 (by decide) ?_
      cases hF
      exact ret_Ri C0 trivial dX5_rankBy_104
    · replace hF := (if_pos c14).symm.trans hF
      refine lv_iconst (v := 0) hx hb dX5_rankBy_99 (by decide) ?_
      refine lv_goto (tgt := 104) hx hb dX5_rankBy_100 (by decide) ?_
      cases hF
      exact ret_Ri C0 trivial dX5_rankBy_104
  replace hF := (if_neg c11).symm.trans hF
  by_cases c15 : a1 = 4
  · replace hF := (if_pos c15).symm.trans hF
    refine lv_tableIn (off := 97) (tgt := 105) hx hb dX5_rankBy_8 (by rw [c15]; decide) (by rw [c15]; decide) (by rw [c15]; rfl) (by decide) ?_
    refine lv_aload_n hx hb dX5_rankBy_105 rfl (lv_at hl 3 rfl) ?_
    refine lv_iload hx hb dX5_rankBy_106 (lv_at hl 0 rfl) ?_
    obtain ⟨r17, h16, hF⟩ := ob_some hF
    refine cV_Ri C0 eX_st hP hS hK pkX7_speechesOf (As := [.int r2]) (rest := []) (kX7_speechesOf l g ad tk mem k hk r2 r17 h16) mL_X5_57 ⟨rfl, rfl, Nat.le_of_ble_eq_true rfl, Nat.le_of_ble_eq_true rfl, Nat.le_of_ble_eq_true rfl, Nat.le_of_ble_eq_true rfl⟩ k (wX_St hk) rfl rfl rfl hl.1 rfl (Nat.le_of_ble_eq_true rfl) dX5_rankBy_108 (fun _ => ?_)
    cases hF
    exact ret_Ri C0 trivial dX5_rankBy_111
  replace hF := (if_neg c15).symm.trans hF
  by_cases c18 : a1 = 5
  · replace hF := (if_pos c18).symm.trans hF
    refine lv_tableIn (off := 104) (tgt := 112) hx hb dX5_rankBy_8 (by rw [c18]; decide) (by rw [c18]; decide) (by rw [c18]; rfl) (by decide) ?_
    refine lv_aload_n hx hb dX5_rankBy_112 rfl (lv_at hl 3 rfl) ?_
    refine lv_iload hx hb dX5_rankBy_113 (lv_at hl 0 rfl) ?_
    obtain ⟨r20, h19, hF⟩ := ob_some hF
    refine cV_Ri C0 eX_st hP hS hK pkX7_timeOf (As := [.int r2]) (rest := []) (kX7_timeOf l g ad tk mem k hk r2 r20 h19) mL_X5_60 ⟨rfl, rfl, Nat.le_of_ble_eq_true rfl, Nat.le_of_ble_eq_true rfl, Nat.le_of_ble_eq_true rfl, Nat.le_of_ble_eq_true rfl⟩ k (wX_St hk) rfl rfl rfl hl.1 rfl (Nat.le_of_ble_eq_true rfl) dX5_rankBy_115 (fun _ => ?_)
    cases hF
    exact ret_Ri C0 trivial dX5_rankBy_118
  replace hF := (if_neg c18).symm.trans hF
  by_cases c21 : a1 = 6
  · replace hF := (if_pos c21).symm.trans hF
    refine lv_tableIn (off := 111) (tgt := 119) hx hb dX5_rankBy_8 (by rw [c21]; decide) (by rw [c21]; decide) (by rw [c21]; rfl) (by decide) ?_
    refine lv_aload_n hx hb dX5_rankBy_119 rfl (lv_at hl 3 rfl) ?_
    refine lv_aload_n hx hb dX5_rankBy_120 rfl (lv_at hl 1 rfl) ?_
    refine get_W C0 hK hP iwX5 17 wX_17 rfl 0 (by decide) mF_X5_19 rfl rfl dX5_rankBy_121 ?_
    refine lv_iload hx hb dX5_rankBy_124 (lv_at hl 0 rfl) ?_
    obtain ⟨r23, h22, hF⟩ := ob_some hF
    refine cV_Ri C0 eX_st hP hS hK pkX4_delegationOf (As := [.int r2]) (rest := [.ref (ad k)]) (kX4_delegationOf l g ad tk mem r2 r23 h22) mL_X5_63 ⟨rfl, rfl, Nat.le_of_ble_eq_true rfl, Nat.le_of_ble_eq_true rfl, Nat.le_of_ble_eq_true rfl, Nat.le_of_ble_eq_true rfl⟩ 1 wX_1 rfl rfl rfl hl.1 rfl (Nat.le_of_ble_eq_true rfl) dX5_rankBy_126 (fun _ => ?_)
    obtain ⟨r25, h24, hF⟩ := ob_some hF
    refine cV_Ri C0 eX_st hP hS hK pkX7_delegationTime (As := [.int r23]) (rest := []) (kX7_delegationTime l g ad tk mem k hk r23 r25 h24) mL_X5_66 ⟨rfl, rfl, Nat.le_of_ble_eq_true rfl, Nat.le_of_ble_eq_true rfl, Nat.le_of_ble_eq_true rfl, Nat.le_of_ble_eq_true rfl⟩ k (wX_St hk) rfl rfl rfl hl.1 rfl (Nat.le_of_ble_eq_true rfl) dX5_rankBy_129 (fun _ => ?_)
    cases hF
    exact ret_Ri C0 trivial dX5_rankBy_132
  replace hF := (if_neg c21).symm.trans hF
  by_cases c26 : a1 = 7
  · replace hF := (if_pos c26).symm.trans hF
    refine lv_tableIn (off := 125) (tgt := 133) hx hb dX5_rankBy_8 (by rw [c26]; decide) (by rw [c26]; decide) (by rw [c26]; rfl) (by decide) ?_
    refine lv_aload_n hx hb dX5_rankBy_133 rfl (lv_at hl 3 rfl) ?_
    obtain ⟨r28, h27, hF⟩ := ob_some hF
    refine cV_Ri C0 eX_st hP hS hK pkX7_latestDelegation (As := []) (rest := []) (kX7_latestDelegation l g ad tk mem k hk r28 h27) mL_X5_69 ⟨rfl, rfl, Nat.le_of_ble_eq_true rfl, Nat.le_of_ble_eq_true rfl, Nat.le_of_ble_eq_true rfl, Nat.le_of_ble_eq_true rfl⟩ k (wX_St hk) rfl rfl rfl hl.1 rfl (Nat.le_of_ble_eq_true rfl) dX5_rankBy_134 (fun _ => ?_)
    refine lv_aload_n hx hb dX5_rankBy_137 rfl (lv_at hl 1 rfl) ?_
    refine get_W C0 hK hP iwX5 17 wX_17 rfl 0 (by decide) mF_X5_19 rfl rfl dX5_rankBy_138 ?_
    refine lv_iload hx hb dX5_rankBy_141 (lv_at hl 0 rfl) ?_
    obtain ⟨r30, h29, hF⟩ := ob_some hF
    refine cV_Ri C0 eX_st hP hS hK pkX4_delegationOf (As := [.int r2]) (rest := [.int r28]) (kX4_delegationOf l g ad tk mem r2 r30 h29) mL_X5_63 ⟨rfl, rfl, Nat.le_of_ble_eq_true rfl, Nat.le_of_ble_eq_true rfl, Nat.le_of_ble_eq_true rfl, Nat.le_of_ble_eq_true rfl⟩ 1 wX_1 rfl rfl rfl hl.1 rfl (Nat.le_of_ble_eq_true rfl) dX5_rankBy_143 (fun _ => ?_)
    refine lv_icmp_ne (tgt := 153) hx hb dX5_rankBy_146 (by decide) (fun c31 => ?_) (fun c31 => ?_)
    · replace hF := (if_neg c31).symm.trans hF
      refine lv_iconst (v := 0) hx hb dX5_rankBy_153 (by decide) ?_
      cases hF
      exact ret_Ri C0 trivial dX5_rankBy_154
    · replace hF := (if_pos c31).symm.trans hF
      refine lv_iconst (v := 1) hx hb dX5_rankBy_149 (by decide) ?_
      refine lv_goto (tgt := 154) hx hb dX5_rankBy_150 (by decide) ?_
      cases hF
      exact ret_Ri C0 trivial dX5_rankBy_154
  replace hF := (if_neg c26).symm.trans hF
  by_cases c32 : a1 = 8
  · replace hF := (if_pos c32).symm.trans hF
    refine lv_tableIn (off := 147) (tgt := 155) hx hb dX5_rankBy_8 (by rw [c32]; decide) (by rw [c32]; decide) (by rw [c32]; rfl) (by decide) ?_
    refine lv_aload_n hx hb dX5_rankBy_155 rfl (lv_at hl 1 rfl) ?_
    refine get_W C0 hK hP iwX5 17 wX_17 rfl 0 (by decide) mF_X5_19 rfl rfl dX5_rankBy_156 ?_
    refine lv_iload hx hb dX5_rankBy_159 (lv_at hl 0 rfl) ?_
    refine lv_iconst (v := 1) hx hb dX5_rankBy_161 (by decide) ?_
    obtain ⟨r34, h33, hF⟩ := ob_some hF
    refine cV_Ri C0 eX_st hP hS hK pkX4_isOfKind (As := [.int r2, .int 1]) (rest := []) (kX4_isOfKind l g ad tk mem r2 1 r34 h33) mL_X5_72 ⟨rfl, rfl, Nat.le_of_ble_eq_true rfl, Nat.le_of_ble_eq_true rfl, Nat.le_of_ble_eq_true rfl, Nat.le_of_ble_eq_true rfl⟩ 1 wX_1 rfl rfl rfl hl.1 rfl (Nat.le_of_ble_eq_true rfl) dX5_rankBy_162 (fun b35 => ?_)
    refine lv_if_eq (tgt := 172) hx hb dX5_rankBy_165 (by decide) (fun c36 => ?_) (fun c36 => ?_)
    · replace hF := (if_pos c36).symm.trans hF
      refine lv_iconst (v := 0) hx hb dX5_rankBy_172 (by decide) ?_
      cases hF
      exact ret_Ri C0 trivial dX5_rankBy_173
    · replace hF := (if_neg c36).symm.trans hF
      refine lv_iconst (v := 1) hx hb dX5_rankBy_168 (by decide) ?_
      refine lv_goto (tgt := 173) hx hb dX5_rankBy_169 (by decide) ?_
      cases hF
      exact ret_Ri C0 trivial dX5_rankBy_173
  replace hF := (if_neg c32).symm.trans hF
  by_cases c37 : a1 = 9
  · replace hF := (if_pos c37).symm.trans hF
    refine lv_tableIn (off := 166) (tgt := 174) hx hb dX5_rankBy_8 (by rw [c37]; decide) (by rw [c37]; decide) (by rw [c37]; rfl) (by decide) ?_
    refine lv_aload_n hx hb dX5_rankBy_174 rfl (lv_at hl 1 rfl) ?_
    refine get_W C0 hK hP iwX5 17 wX_17 rfl 0 (by decide) mF_X5_19 rfl rfl dX5_rankBy_175 ?_
    refine lv_iload hx hb dX5_rankBy_178 (lv_at hl 0 rfl) ?_
    refine lv_iconst (v := 2) hx hb dX5_rankBy_180 (by decide) ?_
    obtain ⟨r39, h38, hF⟩ := ob_some hF
    refine cV_Ri C0 eX_st hP hS hK pkX4_isOfKind (As := [.int r2, .int 2]) (rest := []) (kX4_isOfKind l g ad tk mem r2 2 r39 h38) mL_X5_72 ⟨rfl, rfl, Nat.le_of_ble_eq_true rfl, Nat.le_of_ble_eq_true rfl, Nat.le_of_ble_eq_true rfl, Nat.le_of_ble_eq_true rfl⟩ 1 wX_1 rfl rfl rfl hl.1 rfl (Nat.le_of_ble_eq_true rfl) dX5_rankBy_181 (fun b40 => ?_)
    refine lv_if_eq (tgt := 191) hx hb dX5_rankBy_184 (by decide) (fun c41 => ?_) (fun c41 => ?_)
    · replace hF := (if_pos c41).symm.trans hF
      refine lv_iconst (v := 1) hx hb dX5_rankBy_191 (by decide) ?_
      cases hF
      exact ret_Ri C0 trivial dX5_rankBy_192
    · replace hF := (if_neg c41).symm.trans hF
      refine lv_iconst (v := 0) hx hb dX5_rankBy_187 (by decide) ?_
      refine lv_goto (tgt := 192) hx hb dX5_rankBy_188 (by decide) ?_
      cases hF
      exact ret_Ri C0 trivial dX5_rankBy_192
  replace hF := (if_neg c37).symm.trans hF
  have tc3 := ne_toInt c3 (k := 1) rfl
  have tc7 := ne_toInt c7 (k := 2) rfl
  have tc11 := ne_toInt c11 (k := 3) rfl
  have tc15 := ne_toInt c15 (k := 4) rfl
  have tc18 := ne_toInt c18 (k := 5) rfl
  have tc21 := ne_toInt c21 (k := 6) rfl
  have tc26 := ne_toInt c26 (k := 7) rfl
  have tc32 := ne_toInt c32 (k := 8) rfl
  have tc37 := ne_toInt c37 (k := 9) rfl
  refine lv_tableOut (tgt := 193) hx hb dX5_rankBy_8 (by omega) (by decide) ?_
  refine lv_iconst (v := 0) hx hb dX5_rankBy_193 (by decide) ?_
  cases hF
  exact ret_Ri C0 trivial dX5_rankBy_194
theorem pkX5_isAhead : pkV yX5_isAhead cX5_isAhead 8 (some .boolean) RX5 3 := ⟨mI_X5_isAhead, mS_X5_isAhead, mN_X5, mC_X5_isAhead, by decide +kernel⟩
def fX5_isAhead_3 (k : Nat) (mem : Mem) (z2 : Int32) (z3 : Int32) : Nat → Int32 → Option (Int32)
  | 0, _ => none
  | n + 1, x4 =>
    if mem 17 2 ≤ x4 then (if z3 ≤ z2 then (some 0) else (some 1)) else (ob1 (fX5_rankBy k mem (atF (mem 18) 6 x4) z2) (fun r4 => ob1 (fX5_rankBy k mem (atF (mem 18) 6 x4) z3) (fun r6 => if r4 = r6 then (fX5_isAhead_3 k mem z2 z3 n (x4 + 1)) else (if r6 ≤ r4 then (some 0) else (some 1)))))
set_option maxHeartbeats 4000000 in
set_option maxRecDepth 100000 in
theorem lpX5_isAhead_3 {p : Program} {l : Launch} {e : Env} {s : State} {m : MethodId} {args : Array Value} {below : List Frame} {meth : Method} {c : Code} (g : gG) (ad : Nat → Nat) (tk : Nat) (k : Nat) (hk : isSt k) (mem : Mem) (z2 : Int32) (z3 : Int32) (r : Int32) (C0 : cxt (eX g ad tk) cX5_isAhead 8 RX5 (some .boolean) p s m args meth c) (hP : va_P g.1 vwCl (wX g ad mem) s.heap) :
    ∀ (n : Nat) (x4 : Int32) (ls : Array Slot), fX5_isAhead_3 k mem z2 z3 n x4 = some r → lv_has ls 8 [(0, .ref (ad 17)), (1, .ref (ad k)), (2, .int z2), (3, .int z3), (4, .int x4)] → W p l e { frames := 4, cells := 0, slots := 0, locals := 85 } s m args below meth c s.heap [] 0 0 (MQ below (qR (some (.int r)) (isB r)) args s 0 0 noA) (F0 m 3 ls []) := by
  obtain ⟨hx, hb, hml, hown, hts, hr, hlk, hE⟩ := id C0
  obtain ⟨hK, hN, hA, hZ, hT, hTA⟩ := id hE
  intro n
  induction n with
  | zero =>
    intro x4 ls hF hl
    cases hF
  | succ n ih =>
    intro x4 ls hF hl
    rw [fX5_isAhead_3] at hF
    have hS : va_S (AW 44 ad) s.heap s.heap [] := va_S.rf
    refine lv_iload hx hb dX5_isAhead_3 (lv_at hl 4 rfl) ?_
    refine lv_aload_n hx hb dX5_isAhead_5 rfl (lv_at hl 0 rfl) ?_
    refine get_W C0 hK hP iwX5 17 wX_17 rfl 2 (by decide) mF_X5_15 rfl rfl dX5_isAhead_6 ?_
    refine lv_icmp_ge (tgt := 69) hx hb dX5_isAhead_9 (by decide) (fun c1 => ?_) (fun c1 => ?_)
    · replace hF := (if_pos c1).symm.trans hF
      refine lv_iload_n hx hb dX5_isAhead_69 rfl (lv_at hl 2 rfl) ?_
      refine lv_iload_n hx hb dX5_isAhead_70 rfl (lv_at hl 3 rfl) ?_
      refine lv_icmp_ge (tgt := 78) hx hb dX5_isAhead_71 (by decide) (fun c2 => ?_) (fun c2 => ?_)
      · replace hF := (if_pos c2).symm.trans hF
        refine lv_iconst (v := 0) hx hb dX5_isAhead_78 (by decide) ?_
        cases hF
        exact ret_Rz C0 (Or.inl rfl) (Or.inl rfl) dX5_isAhead_79
      · replace hF := (if_neg c2).symm.trans hF
        refine lv_iconst (v := 1) hx hb dX5_isAhead_74 (by decide) ?_
        refine lv_goto (tgt := 79) hx hb dX5_isAhead_75 (by decide) ?_
        cases hF
        exact ret_Rz C0 (Or.inr rfl) (Or.inr rfl) dX5_isAhead_79
    · replace hF := (if_neg c1).symm.trans hF
      refine lv_aload_n hx hb dX5_isAhead_12 rfl (lv_at hl 0 rfl) ?_
      refine get_W C0 hK hP iwX5 17 wX_17 rfl 1 (by decide) mF_X5_9 rfl rfl dX5_isAhead_13 ?_
      refine lv_iload hx hb dX5_isAhead_16 (lv_at hl 4 rfl) ?_
      refine at_W C0 hN hK hP 18 wX_18 (by decide) nN_X5_23 ⟨Nat.le_of_ble_eq_true rfl, Nat.le_of_ble_eq_true rfl, Nat.le_of_ble_eq_true rfl, Nat.le_of_ble_eq_true rfl⟩ hl.1 (Nat.le_of_ble_eq_true rfl) dX5_isAhead_18 ?_
      refine lv_istore (lv' := [(5, .int (atF (mem 18) 6 x4)), (0, .ref (ad 17)), (1, .ref (ad k)), (2, .int z2), (3, .int z3), (4, .int x4)]) hx hb dX5_isAhead_21 hl (by decide) rfl (fun ls hl => ?_)
      refine lv_aload_n hx hb dX5_isAhead_23 rfl (lv_at hl 1 rfl) ?_
      refine lv_iload hx hb dX5_isAhead_24 (lv_at hl 0 rfl) ?_
      refine lv_aload_n hx hb dX5_isAhead_26 rfl (lv_at hl 2 rfl) ?_
      refine lv_iload_n hx hb dX5_isAhead_27 rfl (lv_at hl 3 rfl) ?_
      obtain ⟨r4, h3, hF⟩ := ob_some hF
      refine cV_Ri C0 eX_st hP hS hK pkX5_rankBy (As := [.int (atF (mem 18) 6 x4), .ref (ad k), .int z2]) (rest := []) (kX5_rankBy l g ad tk mem k hk (atF (mem 18) 6 x4) z2 r4 h3) mL_X5_53 ⟨rfl, rfl, Nat.le_of_ble_eq_true rfl, Nat.le_of_ble_eq_true rfl, Nat.le_of_ble_eq_true rfl, Nat.le_of_ble_eq_true rfl⟩ 17 wX_17 rfl rfl rfl hl.1 rfl (Nat.le_of_ble_eq_true rfl) dX5_isAhead_28 (fun _ => ?_)
      refine lv_istore (lv' := [(6, .int r4), (5, .int (atF (mem 18) 6 x4)), (0, .ref (ad 17)), (1, .ref (ad k)), (2, .int z2), (3, .int z3), (4, .int x4)]) hx hb dX5_isAhead_31 hl (by decide) rfl (fun ls hl => ?_)
      refine lv_aload_n hx hb dX5_isAhead_33 rfl (lv_at hl 2 rfl) ?_
      refine lv_iload hx hb dX5_isAhead_34 (lv_at hl 1 rfl) ?_
      refine lv_aload_n hx hb dX5_isAhead_36 rfl (lv_at hl 3 rfl) ?_
      refine lv_iload_n hx hb dX5_isAhead_37 rfl (lv_at hl 5 rfl) ?_
      obtain ⟨r6, h5, hF⟩ := ob_some hF
      refine cV_Ri C0 eX_st hP hS hK pkX5_rankBy (As := [.int (atF (mem 18) 6 x4), .ref (ad k), .int z3]) (rest := []) (kX5_rankBy l g ad tk mem k hk (atF (mem 18) 6 x4) z3 r6 h5) mL_X5_53 ⟨rfl, rfl, Nat.le_of_ble_eq_true rfl, Nat.le_of_ble_eq_true rfl, Nat.le_of_ble_eq_true rfl, Nat.le_of_ble_eq_true rfl⟩ 17 wX_17 rfl rfl rfl hl.1 rfl (Nat.le_of_ble_eq_true rfl) dX5_isAhead_38 (fun _ => ?_)
      refine lv_istore (lv' := [(7, .int r6), (6, .int r4), (5, .int (atF (mem 18) 6 x4)), (0, .ref (ad 17)), (1, .ref (ad k)), (2, .int z2), (3, .int z3), (4, .int x4)]) hx hb dX5_isAhead_41 hl (by decide) rfl (fun ls hl => ?_)
      refine lv_iload hx hb dX5_isAhead_43 (lv_at hl 1 rfl) ?_
      refine lv_iload hx hb dX5_isAhead_45 (lv_at hl 0 rfl) ?_
      refine lv_icmp_eq (tgt := 63) hx hb dX5_isAhead_47 (by decide) (fun c7 => ?_) (fun c7 => ?_)
      · replace hF := (if_pos c7).symm.trans hF
        refine lv_iinc (v := x4 + 1) (lv' := [(4, .int (x4 + 1)), (7, .int r6), (6, .int r4), (5, .int (atF (mem 18) 6 x4)), (0, .ref (ad 17)), (1, .ref (ad k)), (2, .int z2), (3, .int z3)]) hx hb dX5_isAhead_63 hl (k := 7) rfl rfl (by decide) rfl (fun ls hl => ?_)
        refine lv_goto (tgt := 3) hx hb dX5_isAhead_66 (by decide) ?_
        exact ih (x4 + 1) ls hF (lv_sub hl [4, 5, 6, 7, 0] rfl)
      · replace hF := (if_neg c7).symm.trans hF
        refine lv_iload hx hb dX5_isAhead_50 (lv_at hl 1 rfl) ?_
        refine lv_iload hx hb dX5_isAhead_52 (lv_at hl 0 rfl) ?_
        refine lv_icmp_ge (tgt := 61) hx hb dX5_isAhead_54 (by decide) (fun c8 => ?_) (fun c8 => ?_)
        · replace hF := (if_pos c8).symm.trans hF
          refine lv_iconst (v := 0) hx hb dX5_isAhead_61 (by decide) ?_
          cases hF
          exact ret_Rz C0 (Or.inl rfl) (Or.inl rfl) dX5_isAhead_62
        · replace hF := (if_neg c8).symm.trans hF
          refine lv_iconst (v := 1) hx hb dX5_isAhead_57 (by decide) ?_
          refine lv_goto (tgt := 62) hx hb dX5_isAhead_58 (by decide) ?_
          cases hF
          exact ret_Rz C0 (Or.inr rfl) (Or.inr rfl) dX5_isAhead_62
def fX5_isAhead (k : Nat) (mem : Mem) (a2 : Int32) (a3 : Int32) : Option (Int32) :=
  fX5_isAhead_3 k mem a2 a3 fu 0
set_option maxHeartbeats 4000000 in
set_option maxRecDepth 100000 in
theorem kX5_isAhead (l : Launch) (g : gG) (ad : Nat → Nat) (tk : Nat) (mem : Mem) (k : Nat) (hk : isSt k) (a2 : Int32) (a3 : Int32) (r : Int32) (hF : fX5_isAhead k mem a2 a3 = some r) : Met l yX5_isAhead (Cond.code yX5_isAhead cX5_isAhead 8 (some .boolean) :: gw) { frames := 4, cells := 0, slots := 0, locals := 85 } (pG (wX g ad mem) (eX g ad tk) g [.ref (ad 17), .ref (ad k), .int a2, .int a3]) (qR (some (.int r)) (isB r)) 0 0 noA := by
  refine met_of (by decide) (Nat.le_of_ble_eq_true rfl) ?_
  intro p e s m args below meth c ls C0 hP hl
  obtain ⟨hx, hb, hml, hown, hts, hr, hlk, hE⟩ := id C0
  obtain ⟨hK, hN, hA, hZ, hT, hTA⟩ := id hE
  have hl : lv_has ls 8 [(0, .ref (ad 17)), (1, .ref (ad k)), (2, .int a2), (3, .int a3)] := hl
  have hS : va_S (AW 44 ad) s.heap s.heap [] := va_S.rf
  unfold fX5_isAhead at hF
  refine lv_iconst (v := 0) hx hb dX5_isAhead_0 (by decide) ?_
  refine lv_istore (lv' := [(4, .int 0), (0, .ref (ad 17)), (1, .ref (ad k)), (2, .int a2), (3, .int a3)]) hx hb dX5_isAhead_1 hl (by decide) rfl (fun ls hl => ?_)
  exact lpX5_isAhead_3 g ad tk k hk mem a2 a3 r C0 hP fu 0 ls hF (lv_sub hl [1, 2, 3, 4, 0] rfl)
theorem pkX5_firstOf : pkV yX5_firstOf cX5_firstOf 6 (some .int) RX5 2 := ⟨mI_X5_firstOf, mS_X5_firstOf, mN_X5, mC_X5_firstOf, by decide +kernel⟩
def fX5_firstOf_5 (k : Nat) (mem : Mem) (z2 : Int32) : Nat → Int32 → Int32 → Option (Int32)
  | 0, _, _ => none
  | n + 1, x3, x4 =>
    ob1 (fX7_size k mem) (fun r2 => if r2 ≤ x4 then (some x3) else (if z2 = (-1) then (ob1 (fX7_memberAt k mem x4) (fun r6 => ob1 (fX4_isHere mem r6) (fun r8 => if r8 = 0 then (fX5_firstOf_5 k mem z2 n x3 (x4 + 1)) else (if x3 = (-1) then (fX5_firstOf_5 k mem z2 n x4 (x4 + 1)) else (ob1 (fX5_isAhead k mem x4 x3) (fun r13 => if r13 = 0 then (fX5_firstOf_5 k mem z2 n x3 (x4 + 1)) else (fX5_firstOf_5 k mem z2 n x4 (x4 + 1)))))))) else (ob1 (fX7_sortAt k mem x4) (fun r17 => if r17 = z2 then (ob1 (fX7_memberAt k mem x4) (fun r20 => ob1 (fX4_isHere mem r20) (fun r22 => if r22 = 0 then (fX5_firstOf_5 k mem z2 n x3 (x4 + 1)) else (if x3 = (-1) then (fX5_firstOf_5 k mem z2 n x4 (x4 + 1)) else (ob1 (fX5_isAhead k mem x4 x3) (fun r27 => if r27 = 0 then (fX5_firstOf_5 k mem z2 n x3 (x4 + 1)) else (fX5_firstOf_5 k mem z2 n x4 (x4 + 1)))))))) else (fX5_firstOf_5 k mem z2 n x3 (x4 + 1))))))
set_option maxHeartbeats 4000000 in
set_option maxRecDepth 100000 in
theorem lpX5_firstOf_5 {p : Program} {l : Launch} {e : Env} {s : State} {m : MethodId} {args : Array Value} {below : List Frame} {meth : Method} {c : Code} (g : gG) (ad : Nat → Nat) (tk : Nat) (k : Nat) (hk : isSt k) (mem : Mem) (z2 : Int32) (r : Int32) (C0 : cxt (eX g ad tk) cX5_firstOf 6 RX5 (some .int) p s m args meth c) (hP : va_P g.1 vwCl (wX g ad mem) s.heap) :
    ∀ (n : Nat) (x3 : Int32) (x4 : Int32) (ls : Array Slot), fX5_firstOf_5 k mem z2 n x3 x4 = some r → lv_has ls 6 [(0, .ref (ad 17)), (1, .ref (ad k)), (2, .int z2), (3, .int x3), (4, .int x4)] → W p l e { frames := 5, cells := 0, slots := 0, locals := 112 } s m args below meth c s.heap [] 0 0 (MQ below (qR (some (.int r)) (True)) args s 0 0 noA) (F0 m 5 ls []) := by
  obtain ⟨hx, hb, hml, hown, hts, hr, hlk, hE⟩ := id C0
  obtain ⟨hK, hN, hA, hZ, hT, hTA⟩ := id hE
  intro n
  induction n with
  | zero =>
    intro x3 x4 ls hF hl
    cases hF
  | succ n ih =>
    intro x3 x4 ls hF hl
    rw [fX5_firstOf_5] at hF
    have hS : va_S (AW 44 ad) s.heap s.heap [] := va_S.rf
    refine lv_iload hx hb dX5_firstOf_5 (lv_at hl 4 rfl) ?_
    refine lv_aload_n hx hb dX5_firstOf_7 rfl (lv_at hl 1 rfl) ?_
    obtain ⟨r2, h1, hF⟩ := ob_some hF
    refine cV_Ri C0 eX_st hP hS hK pkX7_size (As := []) (rest := [.int x4]) (kX7_size l g ad tk mem k hk r2 h1) mL_X5_31 ⟨rfl, rfl, Nat.le_of_ble_eq_true rfl, Nat.le_of_ble_eq_true rfl, Nat.le_of_ble_eq_true rfl, Nat.le_of_ble_eq_true rfl⟩ k (wX_St hk) rfl rfl rfl hl.1 rfl (Nat.le_of_ble_eq_true rfl) dX5_firstOf_8 (fun _ => ?_)
    refine lv_icmp_ge (tgt := 82) hx hb dX5_firstOf_11 (by decide) (fun c3 => ?_) (fun c3 => ?_)
    · replace hF := (if_pos c3).symm.trans hF
      refine lv_iload_n hx hb dX5_firstOf_82 rfl (lv_at hl 3 rfl) ?_
      cases hF
      exact ret_Ri C0 trivial dX5_firstOf_83
    · replace hF := (if_neg c3).symm.trans hF
      refine lv_iload_n hx hb dX5_firstOf_14 rfl (lv_at hl 2 rfl) ?_
      refine lv_iconst (v := (-1)) hx hb dX5_firstOf_15 (by decide) ?_
      refine lv_icmp_eq (tgt := 29) hx hb dX5_firstOf_16 (by decide) (fun c4 => ?_) (fun c4 => ?_)
      · replace hF := (if_pos c4).symm.trans hF
        refine lv_aload_n hx hb dX5_firstOf_29 rfl (lv_at hl 0 rfl) ?_
        refine get_W C0 hK hP iwX5 17 wX_17 rfl 0 (by decide) mF_X5_19 rfl rfl dX5_firstOf_30 ?_
        refine lv_aload_n hx hb dX5_firstOf_33 rfl (lv_at hl 1 rfl) ?_
        refine lv_iload hx hb dX5_firstOf_34 (lv_at hl 4 rfl) ?_
        obtain ⟨r6, h5, hF⟩ := ob_some hF
        refine cV_Ri C0 eX_st hP hS hK pkX7_memberAt (As := [.int x4]) (rest := [.ref (ad 1)]) (kX7_memberAt l g ad tk mem k hk x4 r6 h5) mL_X5_40 ⟨rfl, rfl, Nat.le_of_ble_eq_true rfl, Nat.le_of_ble_eq_true rfl, Nat.le_of_ble_eq_true rfl, Nat.le_of_ble_eq_true rfl⟩ k (wX_St hk) rfl rfl rfl hl.1 rfl (Nat.le_of_ble_eq_true rfl) dX5_firstOf_36 (fun _ => ?_)
        obtain ⟨r8, h7, hF⟩ := ob_some hF
        refine cV_Ri C0 eX_st hP hS hK pkX4_isHere (As := [.int r6]) (rest := []) (kX4_isHere l g ad tk mem r6 r8 h7) mL_X5_43 ⟨rfl, rfl, Nat.le_of_ble_eq_true rfl, Nat.le_of_ble_eq_true rfl, Nat.le_of_ble_eq_true rfl, Nat.le_of_ble_eq_true rfl⟩ 1 wX_1 rfl rfl rfl hl.1 rfl (Nat.le_of_ble_eq_true rfl) dX5_firstOf_39 (fun b9 => ?_)
        refine lv_if_eq (tgt := 49) hx hb dX5_firstOf_42 (by decide) (fun c10 => ?_) (fun c10 => ?_)
        · replace hF := (if_pos c10).symm.trans hF
          refine lv_iconst (v := 0) hx hb dX5_firstOf_49 (by decide) ?_
          refine lv_istore (lv' := [(5, .int 0), (0, .ref (ad 17)), (1, .ref (ad k)), (2, .int z2), (3, .int x3), (4, .int x4)]) hx hb dX5_firstOf_50 hl (by decide) rfl (fun ls hl => ?_)
          refine lv_iload hx hb dX5_firstOf_52 (lv_at hl 0 rfl) ?_
          refine lv_if_eq (tgt := 76) hx hb dX5_firstOf_54 (by decide) (fun _ => ?_) (fun cc => absurd cc (by decide))
          refine lv_iinc (v := x4 + 1) (lv' := [(4, .int (x4 + 1)), (5, .int 0), (0, .ref (ad 17)), (1, .ref (ad k)), (2, .int z2), (3, .int x3)]) hx hb dX5_firstOf_76 hl (k := 5) rfl rfl (by decide) rfl (fun ls hl => ?_)
          refine lv_goto (tgt := 5) hx hb dX5_firstOf_79 (by decide) ?_
          exact ih x3 (x4 + 1) ls hF (lv_sub hl [2, 3, 4, 5, 0] rfl)
        · replace hF := (if_neg c10).symm.trans hF
          refine lv_iconst (v := 1) hx hb dX5_firstOf_45 (by decide) ?_
          refine lv_goto (tgt := 50) hx hb dX5_firstOf_46 (by decide) ?_
          refine lv_istore (lv' := [(5, .int 1), (0, .ref (ad 17)), (1, .ref (ad k)), (2, .int z2), (3, .int x3), (4, .int x4)]) hx hb dX5_firstOf_50 hl (by decide) rfl (fun ls hl => ?_)
          refine lv_iload hx hb dX5_firstOf_52 (lv_at hl 0 rfl) ?_
          refine lv_if_eq (tgt := 76) hx hb dX5_firstOf_54 (by decide) (fun cc => absurd cc (by decide)) (fun _ => ?_)
          refine lv_iload_n hx hb dX5_firstOf_57 rfl (lv_at hl 4 rfl) ?_
          refine lv_iconst (v := (-1)) hx hb dX5_firstOf_58 (by decide) ?_
          refine lv_icmp_eq (tgt := 73) hx hb dX5_firstOf_59 (by decide) (fun c11 => ?_) (fun c11 => ?_)
          · replace hF := (if_pos c11).symm.trans hF
            refine lv_iload hx hb dX5_firstOf_73 (lv_at hl 5 rfl) ?_
            refine lv_istore_n (lv' := [(3, .int x4), (5, .int 1), (0, .ref (ad 17)), (1, .ref (ad k)), (2, .int z2), (4, .int x4)]) hx hb dX5_firstOf_75 rfl hl (by decide) rfl (fun ls hl => ?_)
            refine lv_iinc (v := x4 + 1) (lv' := [(4, .int (x4 + 1)), (3, .int x4), (5, .int 1), (0, .ref (ad 17)), (1, .ref (ad k)), (2, .int z2)]) hx hb dX5_firstOf_76 hl (k := 5) rfl rfl (by decide) rfl (fun ls hl => ?_)
            refine lv_goto (tgt := 5) hx hb dX5_firstOf_79 (by decide) ?_
            exact ih x4 (x4 + 1) ls hF (lv_sub hl [3, 4, 5, 1, 0] rfl)
          · replace hF := (if_neg c11).symm.trans hF
            refine lv_aload_n hx hb dX5_firstOf_62 rfl (lv_at hl 1 rfl) ?_
            refine lv_aload_n hx hb dX5_firstOf_63 rfl (lv_at hl 2 rfl) ?_
            refine lv_iload hx hb dX5_firstOf_64 (lv_at hl 5 rfl) ?_
            refine lv_iload_n hx hb dX5_firstOf_66 rfl (lv_at hl 4 rfl) ?_
            obtain ⟨r13, h12, hF⟩ := ob_some hF
            refine cV_Ri C0 eX_st hP hS hK pkX5_isAhead (As := [.ref (ad k), .int x4, .int x3]) (rest := []) (kX5_isAhead l g ad tk mem k hk x4 x3 r13 h12) mL_X5_49 ⟨rfl, rfl, Nat.le_of_ble_eq_true rfl, Nat.le_of_ble_eq_true rfl, Nat.le_of_ble_eq_true rfl, Nat.le_of_ble_eq_true rfl⟩ 17 wX_17 rfl rfl rfl hl.1 rfl (Nat.le_of_ble_eq_true rfl) dX5_firstOf_67 (fun b14 => ?_)
            refine lv_if_eq (tgt := 76) hx hb dX5_firstOf_70 (by decide) (fun c15 => ?_) (fun c15 => ?_)
            · replace hF := (if_pos c15).symm.trans hF
              refine lv_iinc (v := x4 + 1) (lv' := [(4, .int (x4 + 1)), (5, .int 1), (0, .ref (ad 17)), (1, .ref (ad k)), (2, .int z2), (3, .int x3)]) hx hb dX5_firstOf_76 hl (k := 5) rfl rfl (by decide) rfl (fun ls hl => ?_)
              refine lv_goto (tgt := 5) hx hb dX5_firstOf_79 (by decide) ?_
              exact ih x3 (x4 + 1) ls hF (lv_sub hl [2, 3, 4, 5, 0] rfl)
            · replace hF := (if_neg c15).symm.trans hF
              refine lv_iload hx hb dX5_firstOf_73 (lv_at hl 5 rfl) ?_
              refine lv_istore_n (lv' := [(3, .int x4), (5, .int 1), (0, .ref (ad 17)), (1, .ref (ad k)), (2, .int z2), (4, .int x4)]) hx hb dX5_firstOf_75 rfl hl (by decide) rfl (fun ls hl => ?_)
              refine lv_iinc (v := x4 + 1) (lv' := [(4, .int (x4 + 1)), (3, .int x4), (5, .int 1), (0, .ref (ad 17)), (1, .ref (ad k)), (2, .int z2)]) hx hb dX5_firstOf_76 hl (k := 5) rfl rfl (by decide) rfl (fun ls hl => ?_)
              refine lv_goto (tgt := 5) hx hb dX5_firstOf_79 (by decide) ?_
              exact ih x4 (x4 + 1) ls hF (lv_sub hl [3, 4, 5, 1, 0] rfl)
      · replace hF := (if_neg c4).symm.trans hF
        refine lv_aload_n hx hb dX5_firstOf_19 rfl (lv_at hl 1 rfl) ?_
        refine lv_iload hx hb dX5_firstOf_20 (lv_at hl 4 rfl) ?_
        obtain ⟨r17, h16, hF⟩ := ob_some hF
        refine cV_Ri C0 eX_st hP hS hK pkX7_sortAt (As := [.int x4]) (rest := []) (kX7_sortAt l g ad tk mem k hk x4 r17 h16) mL_X5_36 ⟨rfl, rfl, Nat.le_of_ble_eq_true rfl, Nat.le_of_ble_eq_true rfl, Nat.le_of_ble_eq_true rfl, Nat.le_of_ble_eq_true rfl⟩ k (wX_St hk) rfl rfl rfl hl.1 rfl (Nat.le_of_ble_eq_true rfl) dX5_firstOf_22 (fun _ => ?_)
        refine lv_iload_n hx hb dX5_firstOf_25 rfl (lv_at hl 2 rfl) ?_
        refine lv_icmp_ne (tgt := 49) hx hb dX5_firstOf_26 (by decide) (fun c18 => ?_) (fun c18 => ?_)
        · replace hF := (if_neg c18).symm.trans hF
          refine lv_iconst (v := 0) hx hb dX5_firstOf_49 (by decide) ?_
          refine lv_istore (lv' := [(5, .int 0), (0, .ref (ad 17)), (1, .ref (ad k)), (2, .int z2), (3, .int x3), (4, .int x4)]) hx hb dX5_firstOf_50 hl (by decide) rfl (fun ls hl => ?_)
          refine lv_iload hx hb dX5_firstOf_52 (lv_at hl 0 rfl) ?_
          refine lv_if_eq (tgt := 76) hx hb dX5_firstOf_54 (by decide) (fun _ => ?_) (fun cc => absurd cc (by decide))
          refine lv_iinc (v := x4 + 1) (lv' := [(4, .int (x4 + 1)), (5, .int 0), (0, .ref (ad 17)), (1, .ref (ad k)), (2, .int z2), (3, .int x3)]) hx hb dX5_firstOf_76 hl (k := 5) rfl rfl (by decide) rfl (fun ls hl => ?_)
          refine lv_goto (tgt := 5) hx hb dX5_firstOf_79 (by decide) ?_
          exact ih x3 (x4 + 1) ls hF (lv_sub hl [2, 3, 4, 5, 0] rfl)
        · replace hF := (if_pos c18).symm.trans hF
          refine lv_aload_n hx hb dX5_firstOf_29 rfl (lv_at hl 0 rfl) ?_
          refine get_W C0 hK hP iwX5 17 wX_17 rfl 0 (by decide) mF_X5_19 rfl rfl dX5_firstOf_30 ?_
          refine lv_aload_n hx hb dX5_firstOf_33 rfl (lv_at hl 1 rfl) ?_
          refine lv_iload hx hb dX5_firstOf_34 (lv_at hl 4 rfl) ?_
          obtain ⟨r20, h19, hF⟩ := ob_some hF
          refine cV_Ri C0 eX_st hP hS hK pkX7_memberAt (As := [.int x4]) (rest := [.ref (ad 1)]) (kX7_memberAt l g ad tk mem k hk x4 r20 h19) mL_X5_40 ⟨rfl, rfl, Nat.le_of_ble_eq_true rfl, Nat.le_of_ble_eq_true rfl, Nat.le_of_ble_eq_true rfl, Nat.le_of_ble_eq_true rfl⟩ k (wX_St hk) rfl rfl rfl hl.1 rfl (Nat.le_of_ble_eq_true rfl) dX5_firstOf_36 (fun _ => ?_)
          obtain ⟨r22, h21, hF⟩ := ob_some hF
          refine cV_Ri C0 eX_st hP hS hK pkX4_isHere (As := [.int r20]) (rest := []) (kX4_isHere l g ad tk mem r20 r22 h21) mL_X5_43 ⟨rfl, rfl, Nat.le_of_ble_eq_true rfl, Nat.le_of_ble_eq_true rfl, Nat.le_of_ble_eq_true rfl, Nat.le_of_ble_eq_true rfl⟩ 1 wX_1 rfl rfl rfl hl.1 rfl (Nat.le_of_ble_eq_true rfl) dX5_firstOf_39 (fun b23 => ?_)
          refine lv_if_eq (tgt := 49) hx hb dX5_firstOf_42 (by decide) (fun c24 => ?_) (fun c24 => ?_)
          · replace hF := (if_pos c24).symm.trans hF
            refine lv_iconst (v := 0) hx hb dX5_firstOf_49 (by decide) ?_
            refine lv_istore (lv' := [(5, .int 0), (0, .ref (ad 17)), (1, .ref (ad k)), (2, .int z2), (3, .int x3), (4, .int x4)]) hx hb dX5_firstOf_50 hl (by decide) rfl (fun ls hl => ?_)
            refine lv_iload hx hb dX5_firstOf_52 (lv_at hl 0 rfl) ?_
            refine lv_if_eq (tgt := 76) hx hb dX5_firstOf_54 (by decide) (fun _ => ?_) (fun cc => absurd cc (by decide))
            refine lv_iinc (v := x4 + 1) (lv' := [(4, .int (x4 + 1)), (5, .int 0), (0, .ref (ad 17)), (1, .ref (ad k)), (2, .int z2), (3, .int x3)]) hx hb dX5_firstOf_76 hl (k := 5) rfl rfl (by decide) rfl (fun ls hl => ?_)
            refine lv_goto (tgt := 5) hx hb dX5_firstOf_79 (by decide) ?_
            exact ih x3 (x4 + 1) ls hF (lv_sub hl [2, 3, 4, 5, 0] rfl)
          · replace hF := (if_neg c24).symm.trans hF
            refine lv_iconst (v := 1) hx hb dX5_firstOf_45 (by decide) ?_
            refine lv_goto (tgt := 50) hx hb dX5_firstOf_46 (by decide) ?_
            refine lv_istore (lv' := [(5, .int 1), (0, .ref (ad 17)), (1, .ref (ad k)), (2, .int z2), (3, .int x3), (4, .int x4)]) hx hb dX5_firstOf_50 hl (by decide) rfl (fun ls hl => ?_)
            refine lv_iload hx hb dX5_firstOf_52 (lv_at hl 0 rfl) ?_
            refine lv_if_eq (tgt := 76) hx hb dX5_firstOf_54 (by decide) (fun cc => absurd cc (by decide)) (fun _ => ?_)
            refine lv_iload_n hx hb dX5_firstOf_57 rfl (lv_at hl 4 rfl) ?_
            refine lv_iconst (v := (-1)) hx hb dX5_firstOf_58 (by decide) ?_
            refine lv_icmp_eq (tgt := 73) hx hb dX5_firstOf_59 (by decide) (fun c25 => ?_) (fun c25 => ?_)
            · replace hF := (if_pos c25).symm.trans hF
              refine lv_iload hx hb dX5_firstOf_73 (lv_at hl 5 rfl) ?_
              refine lv_istore_n (lv' := [(3, .int x4), (5, .int 1), (0, .ref (ad 17)), (1, .ref (ad k)), (2, .int z2), (4, .int x4)]) hx hb dX5_firstOf_75 rfl hl (by decide) rfl (fun ls hl => ?_)
              refine lv_iinc (v := x4 + 1) (lv' := [(4, .int (x4 + 1)), (3, .int x4), (5, .int 1), (0, .ref (ad 17)), (1, .ref (ad k)), (2, .int z2)]) hx hb dX5_firstOf_76 hl (k := 5) rfl rfl (by decide) rfl (fun ls hl => ?_)
              refine lv_goto (tgt := 5) hx hb dX5_firstOf_79 (by decide) ?_
              exact ih x4 (x4 + 1) ls hF (lv_sub hl [3, 4, 5, 1, 0] rfl)
            · replace hF := (if_neg c25).symm.trans hF
              refine lv_aload_n hx hb dX5_firstOf_62 rfl (lv_at hl 1 rfl) ?_
              refine lv_aload_n hx hb dX5_firstOf_63 rfl (lv_at hl 2 rfl) ?_
              refine lv_iload hx hb dX5_firstOf_64 (lv_at hl 5 rfl) ?_
              refine lv_iload_n hx hb dX5_firstOf_66 rfl (lv_at hl 4 rfl) ?_
              obtain ⟨r27, h26, hF⟩ := ob_some hF
              refine cV_Ri C0 eX_st hP hS hK pkX5_isAhead (As := [.ref (ad k), .int x4, .int x3]) (rest := []) (kX5_isAhead l g ad tk mem k hk x4 x3 r27 h26) mL_X5_49 ⟨rfl, rfl, Nat.le_of_ble_eq_true rfl, Nat.le_of_ble_eq_true rfl, Nat.le_of_ble_eq_true rfl, Nat.le_of_ble_eq_true rfl⟩ 17 wX_17 rfl rfl rfl hl.1 rfl (Nat.le_of_ble_eq_true rfl) dX5_firstOf_67 (fun b28 => ?_)
              refine lv_if_eq (tgt := 76) hx hb dX5_firstOf_70 (by decide) (fun c29 => ?_) (fun c29 => ?_)
              · replace hF := (if_pos c29).symm.trans hF
                refine lv_iinc (v := x4 + 1) (lv' := [(4, .int (x4 + 1)), (5, .int 1), (0, .ref (ad 17)), (1, .ref (ad k)), (2, .int z2), (3, .int x3)]) hx hb dX5_firstOf_76 hl (k := 5) rfl rfl (by decide) rfl (fun ls hl => ?_)
                refine lv_goto (tgt := 5) hx hb dX5_firstOf_79 (by decide) ?_
                exact ih x3 (x4 + 1) ls hF (lv_sub hl [2, 3, 4, 5, 0] rfl)
              · replace hF := (if_neg c29).symm.trans hF
                refine lv_iload hx hb dX5_firstOf_73 (lv_at hl 5 rfl) ?_
                refine lv_istore_n (lv' := [(3, .int x4), (5, .int 1), (0, .ref (ad 17)), (1, .ref (ad k)), (2, .int z2), (4, .int x4)]) hx hb dX5_firstOf_75 rfl hl (by decide) rfl (fun ls hl => ?_)
                refine lv_iinc (v := x4 + 1) (lv' := [(4, .int (x4 + 1)), (3, .int x4), (5, .int 1), (0, .ref (ad 17)), (1, .ref (ad k)), (2, .int z2)]) hx hb dX5_firstOf_76 hl (k := 5) rfl rfl (by decide) rfl (fun ls hl => ?_)
                refine lv_goto (tgt := 5) hx hb dX5_firstOf_79 (by decide) ?_
                exact ih x4 (x4 + 1) ls hF (lv_sub hl [3, 4, 5, 1, 0] rfl)
def fX5_firstOf (k : Nat) (mem : Mem) (a2 : Int32) : Option (Int32) :=
  fX5_firstOf_5 k mem a2 fu (-1) 0
set_option maxHeartbeats 4000000 in
set_option maxRecDepth 100000 in
theorem kX5_firstOf (l : Launch) (g : gG) (ad : Nat → Nat) (tk : Nat) (mem : Mem) (k : Nat) (hk : isSt k) (a2 : Int32) (r : Int32) (hF : fX5_firstOf k mem a2 = some r) : Met l yX5_firstOf (Cond.code yX5_firstOf cX5_firstOf 6 (some .int) :: gw) { frames := 5, cells := 0, slots := 0, locals := 112 } (pG (wX g ad mem) (eX g ad tk) g [.ref (ad 17), .ref (ad k), .int a2]) (qR (some (.int r)) (True)) 0 0 noA := by
  refine met_of (by decide) (Nat.le_of_ble_eq_true rfl) ?_
  intro p e s m args below meth c ls C0 hP hl
  obtain ⟨hx, hb, hml, hown, hts, hr, hlk, hE⟩ := id C0
  obtain ⟨hK, hN, hA, hZ, hT, hTA⟩ := id hE
  have hl : lv_has ls 6 [(0, .ref (ad 17)), (1, .ref (ad k)), (2, .int a2)] := hl
  have hS : va_S (AW 44 ad) s.heap s.heap [] := va_S.rf
  unfold fX5_firstOf at hF
  refine lv_iconst (v := (-1)) hx hb dX5_firstOf_0 (by decide) ?_
  refine lv_istore_n (lv' := [(3, .int (-1)), (0, .ref (ad 17)), (1, .ref (ad k)), (2, .int a2)]) hx hb dX5_firstOf_1 rfl hl (by decide) rfl (fun ls hl => ?_)
  refine lv_iconst (v := 0) hx hb dX5_firstOf_2 (by decide) ?_
  refine lv_istore (lv' := [(4, .int 0), (3, .int (-1)), (0, .ref (ad 17)), (1, .ref (ad k)), (2, .int a2)]) hx hb dX5_firstOf_3 hl (by decide) rfl (fun ls hl => ?_)
  exact lpX5_firstOf_5 g ad tk k hk mem a2 r C0 hP fu (-1) 0 ls hF (lv_sub hl [2, 3, 4, 1, 0] rfl)
