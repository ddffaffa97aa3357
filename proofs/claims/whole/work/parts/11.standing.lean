theorem pkX7_size : pkV yX7_size cX7_size 1 (some .int) RX7 0 := ⟨mI_X7_size, mS_X7_size, mN_X7, mC_X7_size, by decide +kernel⟩
def fX7_size (k : Nat) (mem : Mem) : Option (Int32) :=
  some (mem k 6)
set_option maxHeartbeats 4000000 in
set_option maxRecDepth 100000 in
theorem kX7_size (l : Launch) (g : gG) (ad : Nat → Nat) (tk : Nat) (mem : Mem) (k : Nat) (hk : isSt k) (r : Int32) (hF : fX7_size k mem = some r) : Met l yX7_size (Cond.code yX7_size cX7_size 1 (some .int) :: gw) { frames := 1, cells := 0, slots := 0, locals := 24 } (pG (wX g ad mem) (eX g ad tk) g [.ref (ad k)]) (qR (some (.int r)) (True)) 0 0 noA := by
  refine met_of (by decide) (Nat.le_of_ble_eq_true rfl) ?_
  intro p e s m args below meth c ls C0 hP hl
  obtain ⟨hx, hb, hml, hown, hts, hr, hlk, hE⟩ := id C0
  obtain ⟨hK, hN, hA, hZ, hT, hTA⟩ := id hE
  have hl : lv_has ls 1 [(0, .ref (ad k))] := hl
  have hS : va_S (AW 44 ad) s.heap s.heap [] := va_S.rf
  unfold fX7_size at hF
  refine lv_aload_n hx hb dX7_size_0 rfl (lv_at hl 0 rfl) ?_
  refine get_W C0 hK hP iwX7 k (wX_St hk) rfl 6 (by decide) mF_X7_27 rfl rfl dX7_size_1 ?_
  cases hF
  exact ret_Ri C0 trivial dX7_size_4
theorem pkX7_memberAt : pkV yX7_memberAt cX7_memberAt 2 (some .int) RX7 1 := ⟨mI_X7_memberAt, mS_X7_memberAt, mN_X7, mC_X7_memberAt, by decide +kernel⟩
def fX7_memberAt (k : Nat) (mem : Mem) (a1 : Int32) : Option (Int32) :=
  some (atF (mem (k + 1)) 20 a1)
set_option maxHeartbeats 4000000 in
set_option maxRecDepth 100000 in
theorem kX7_memberAt (l : Launch) (g : gG) (ad : Nat → Nat) (tk : Nat) (mem : Mem) (k : Nat) (hk : isSt k) (a1 : Int32) (r : Int32) (hF : fX7_memberAt k mem a1 = some r) : Met l yX7_memberAt (Cond.code yX7_memberAt cX7_memberAt 2 (some .int) :: gw) { frames := 2, cells := 0, slots := 0, locals := 37 } (pG (wX g ad mem) (eX g ad tk) g [.ref (ad k), .int a1]) (qR (some (.int r)) (True)) 0 0 noA := by
  refine met_of (by decide) (Nat.le_of_ble_eq_true rfl) ?_
  intro p e s m args below meth c ls C0 hP hl
  obtain ⟨hx, hb, hml, hown, hts, hr, hlk, hE⟩ := id C0
  obtain ⟨hK, hN, hA, hZ, hT, hTA⟩ := id hE
  have hl : lv_has ls 2 [(0, .ref (ad k)), (1, .int a1)] := hl
  have hS : va_S (AW 44 ad) s.heap s.heap [] := va_S.rf
  unfold fX7_memberAt at hF
  refine lv_aload_n hx hb dX7_memberAt_0 rfl (lv_at hl 0 rfl) ?_
  refine get_W C0 hK hP iwX7 k (wX_St hk) rfl 1 (by decide) mF_X7_9 rfl rfl dX7_memberAt_1 ?_
  refine lv_iload_n hx hb dX7_memberAt_4 rfl (lv_at hl 1 rfl) ?_
  refine at_W C0 hN hK hP (k + 1) (wX_St_1 hk) (by decide) nN_X7_42 ⟨Nat.le_of_ble_eq_true rfl, Nat.le_of_ble_eq_true rfl, Nat.le_of_ble_eq_true rfl, Nat.le_of_ble_eq_true rfl⟩ hl.1 (Nat.le_of_ble_eq_true rfl) dX7_memberAt_5 ?_
  cases hF
  exact ret_Ri C0 trivial dX7_memberAt_8
theorem pkX7_sortAt : pkV yX7_sortAt cX7_sortAt 2 (some .int) RX7 1 := ⟨mI_X7_sortAt, mS_X7_sortAt, mN_X7, mC_X7_sortAt, by decide +kernel⟩
def fX7_sortAt (k : Nat) (mem : Mem) (a1 : Int32) : Option (Int32) :=
  some (atF (mem (k + 2)) 20 a1)
set_option maxHeartbeats 4000000 in
set_option maxRecDepth 100000 in
theorem kX7_sortAt (l : Launch) (g : gG) (ad : Nat → Nat) (tk : Nat) (mem : Mem) (k : Nat) (hk : isSt k) (a1 : Int32) (r : Int32) (hF : fX7_sortAt k mem a1 = some r) : Met l yX7_sortAt (Cond.code yX7_sortAt cX7_sortAt 2 (some .int) :: gw) { frames := 2, cells := 0, slots := 0, locals := 37 } (pG (wX g ad mem) (eX g ad tk) g [.ref (ad k), .int a1]) (qR (some (.int r)) (True)) 0 0 noA := by
  refine met_of (by decide) (Nat.le_of_ble_eq_true rfl) ?_
  intro p e s m args below meth c ls C0 hP hl
  obtain ⟨hx, hb, hml, hown, hts, hr, hlk, hE⟩ := id C0
  obtain ⟨hK, hN, hA, hZ, hT, hTA⟩ := id hE
  have hl : lv_has ls 2 [(0, .ref (ad k)), (1, .int a1)] := hl
  have hS : va_S (AW 44 ad) s.heap s.heap [] := va_S.rf
  unfold fX7_sortAt at hF
  refine lv_aload_n hx hb dX7_sortAt_0 rfl (lv_at hl 0 rfl) ?_
  refine get_W C0 hK hP iwX7 k (wX_St hk) rfl 2 (by decide) mF_X7_15 rfl rfl dX7_sortAt_1 ?_
  refine lv_iload_n hx hb dX7_sortAt_4 rfl (lv_at hl 1 rfl) ?_
  refine at_W C0 hN hK hP (k + 2) (wX_St_2 hk) (by decide) nN_X7_42 ⟨Nat.le_of_ble_eq_true rfl, Nat.le_of_ble_eq_true rfl, Nat.le_of_ble_eq_true rfl, Nat.le_of_ble_eq_true rfl⟩ hl.1 (Nat.le_of_ble_eq_true rfl) dX7_sortAt_5 ?_
  cases hF
  exact ret_Ri C0 trivial dX7_sortAt_8
theorem pkX7_timeOf : pkV yX7_timeOf cX7_timeOf 2 (some .int) RX7 1 := ⟨mI_X7_timeOf, mS_X7_timeOf, mN_X7, mC_X7_timeOf, by decide +kernel⟩
def fX7_timeOf (k : Nat) (mem : Mem) (a1 : Int32) : Option (Int32) :=
  some (atF (mem (k + 3)) 10 a1)
set_option maxHeartbeats 4000000 in
set_option maxRecDepth 100000 in
theorem kX7_timeOf (l : Launch) (g : gG) (ad : Nat → Nat) (tk : Nat) (mem : Mem) (k : Nat) (hk : isSt k) (a1 : Int32) (r : Int32) (hF : fX7_timeOf k mem a1 = some r) : Met l yX7_timeOf (Cond.code yX7_timeOf cX7_timeOf 2 (some .int) :: gw) { frames := 2, cells := 0, slots := 0, locals := 37 } (pG (wX g ad mem) (eX g ad tk) g [.ref (ad k), .int a1]) (qR (some (.int r)) (True)) 0 0 noA := by
  refine met_of (by decide) (Nat.le_of_ble_eq_true rfl) ?_
  intro p e s m args below meth c ls C0 hP hl
  obtain ⟨hx, hb, hml, hown, hts, hr, hlk, hE⟩ := id C0
  obtain ⟨hK, hN, hA, hZ, hT, hTA⟩ := id hE
  have hl : lv_has ls 2 [(0, .ref (ad k)), (1, .int a1)] := hl
  have hS : va_S (AW 44 ad) s.heap s.heap [] := va_S.rf
  unfold fX7_timeOf at hF
  refine lv_aload_n hx hb dX7_timeOf_0 rfl (lv_at hl 0 rfl) ?_
  refine get_W C0 hK hP iwX7 k (wX_St hk) rfl 3 (by decide) mF_X7_18 rfl rfl dX7_timeOf_1 ?_
  refine lv_iload_n hx hb dX7_timeOf_4 rfl (lv_at hl 1 rfl) ?_
  refine at_W C0 hN hK hP (k + 3) (wX_St_3 hk) (by decide) nN_X7_42 ⟨Nat.le_of_ble_eq_true rfl, Nat.le_of_ble_eq_true rfl, Nat.le_of_ble_eq_true rfl, Nat.le_of_ble_eq_true rfl⟩ hl.1 (Nat.le_of_ble_eq_true rfl) dX7_timeOf_5 ?_
  cases hF
  exact ret_Ri C0 trivial dX7_timeOf_8
theorem pkX7_speechesOf : pkV yX7_speechesOf cX7_speechesOf 2 (some .int) RX7 1 := ⟨mI_X7_speechesOf, mS_X7_speechesOf, mN_X7, mC_X7_speechesOf, by decide +kernel⟩
def fX7_speechesOf (k : Nat) (mem : Mem) (a1 : Int32) : Option (Int32) :=
  some (atF (mem (k + 4)) 10 a1)
set_option maxHeartbeats 4000000 in
set_option maxRecDepth 100000 in
theorem kX7_speechesOf (l : Launch) (g : gG) (ad : Nat → Nat) (tk : Nat) (mem : Mem) (k : Nat) (hk : isSt k) (a1 : Int32) (r : Int32) (hF : fX7_speechesOf k mem a1 = some r) : Met l yX7_speechesOf (Cond.code yX7_speechesOf cX7_speechesOf 2 (some .int) :: gw) { frames := 2, cells := 0, slots := 0, locals := 37 } (pG (wX g ad mem) (eX g ad tk) g [.ref (ad k), .int a1]) (qR (some (.int r)) (True)) 0 0 noA := by
  refine met_of (by decide) (Nat.le_of_ble_eq_true rfl) ?_
  intro p e s m args below meth c ls C0 hP hl
  obtain ⟨hx, hb, hml, hown, hts, hr, hlk, hE⟩ := id C0
  obtain ⟨hK, hN, hA, hZ, hT, hTA⟩ := id hE
  have hl : lv_has ls 2 [(0, .ref (ad k)), (1, .int a1)] := hl
  have hS : va_S (AW 44 ad) s.heap s.heap [] := va_S.rf
  unfold fX7_speechesOf at hF
  refine lv_aload_n hx hb dX7_speechesOf_0 rfl (lv_at hl 0 rfl) ?_
  refine get_W C0 hK hP iwX7 k (wX_St hk) rfl 4 (by decide) mF_X7_21 rfl rfl dX7_speechesOf_1 ?_
  refine lv_iload_n hx hb dX7_speechesOf_4 rfl (lv_at hl 1 rfl) ?_
  refine at_W C0 hN hK hP (k + 4) (wX_St_4 hk) (by decide) nN_X7_42 ⟨Nat.le_of_ble_eq_true rfl, Nat.le_of_ble_eq_true rfl, Nat.le_of_ble_eq_true rfl, Nat.le_of_ble_eq_true rfl⟩ hl.1 (Nat.le_of_ble_eq_true rfl) dX7_speechesOf_5 ?_
  cases hF
  exact ret_Ri C0 trivial dX7_speechesOf_8
theorem pkX7_delegationTime : pkV yX7_delegationTime cX7_delegationTime 2 (some .int) RX7 1 := ⟨mI_X7_delegationTime, mS_X7_delegationTime, mN_X7, mC_X7_delegationTime, by decide +kernel⟩
def fX7_delegationTime (k : Nat) (mem : Mem) (a1 : Int32) : Option (Int32) :=
  some (atF (mem (k + 5)) 5 a1)
set_option maxHeartbeats 4000000 in
set_option maxRecDepth 100000 in
theorem kX7_delegationTime (l : Launch) (g : gG) (ad : Nat → Nat) (tk : Nat) (mem : Mem) (k : Nat) (hk : isSt k) (a1 : Int32) (r : Int32) (hF : fX7_delegationTime k mem a1 = some r) : Met l yX7_delegationTime (Cond.code yX7_delegationTime cX7_delegationTime 2 (some .int) :: gw) { frames := 2, cells := 0, slots := 0, locals := 37 } (pG (wX g ad mem) (eX g ad tk) g [.ref (ad k), .int a1]) (qR (some (.int r)) (True)) 0 0 noA := by
  refine met_of (by decide) (Nat.le_of_ble_eq_true rfl) ?_
  intro p e s m args below meth c ls C0 hP hl
  obtain ⟨hx, hb, hml, hown, hts, hr, hlk, hE⟩ := id C0
  obtain ⟨hK, hN, hA, hZ, hT, hTA⟩ := id hE
  have hl : lv_has ls 2 [(0, .ref (ad k)), (1, .int a1)] := hl
  have hS : va_S (AW 44 ad) s.heap s.heap [] := va_S.rf
  unfold fX7_delegationTime at hF
  refine lv_aload_n hx hb dX7_delegationTime_0 rfl (lv_at hl 0 rfl) ?_
  refine get_W C0 hK hP iwX7 k (wX_St hk) rfl 5 (by decide) mF_X7_24 rfl rfl dX7_delegationTime_1 ?_
  refine lv_iload_n hx hb dX7_delegationTime_4 rfl (lv_at hl 1 rfl) ?_
  refine at_W C0 hN hK hP (k + 5) (wX_St_5 hk) (by decide) nN_X7_42 ⟨Nat.le_of_ble_eq_true rfl, Nat.le_of_ble_eq_true rfl, Nat.le_of_ble_eq_true rfl, Nat.le_of_ble_eq_true rfl⟩ hl.1 (Nat.le_of_ble_eq_true rfl) dX7_delegationTime_5 ?_
  cases hF
  exact ret_Ri C0 trivial dX7_delegationTime_8
theorem pkX7_latestDelegation : pkV yX7_latestDelegation cX7_latestDelegation 1 (some .int) RX7 0 := ⟨mI_X7_latestDelegation, mS_X7_latestDelegation, mN_X7, mC_X7_latestDelegation, by decide +kernel⟩
def fX7_latestDelegation (k : Nat) (mem : Mem) : Option (Int32) :=
  some (mem k 7)
set_option maxHeartbeats 4000000 in
set_option maxRecDepth 100000 in
theorem kX7_latestDelegation (l : Launch) (g : gG) (ad : Nat → Nat) (tk : Nat) (mem : Mem) (k : Nat) (hk : isSt k) (r : Int32) (hF : fX7_latestDelegation k mem = some r) : Met l yX7_latestDelegation (Cond.code yX7_latestDelegation cX7_latestDelegation 1 (some .int) :: gw) { frames := 1, cells := 0, slots := 0, locals := 24 } (pG (wX g ad mem) (eX g ad tk) g [.ref (ad k)]) (qR (some (.int r)) (True)) 0 0 noA := by
  refine met_of (by decide) (Nat.le_of_ble_eq_true rfl) ?_
  intro p e s m args below meth c ls C0 hP hl
  obtain ⟨hx, hb, hml, hown, hts, hr, hlk, hE⟩ := id C0
  obtain ⟨hK, hN, hA, hZ, hT, hTA⟩ := id hE
  have hl : lv_has ls 1 [(0, .ref (ad k))] := hl
  have hS : va_S (AW 44 ad) s.heap s.heap [] := va_S.rf
  unfold fX7_latestDelegation at hF
  refine lv_aload_n hx hb dX7_latestDelegation_0 rfl (lv_at hl 0 rfl) ?_
  refine get_W C0 hK hP iwX7 k (wX_St hk) rfl 7 (by decide) mF_X7_31 rfl rfl dX7_latestDelegation_1 ?_
  cases hF
  exact ret_Ri C0 trivial dX7_latestDelegation_4
theorem pkX7_find : pkV yX7_find cX7_find 4 (some .int) RX7 2 := ⟨mI_X7_find, mS_X7_find, mN_X7, mC_X7_find, by decide +kernel⟩
def fX7_find_2 (k : Nat) (mem : Mem) (z1 : Int32) (z2 : Int32) : Nat → Int32 → Option (Int32)
  | 0, _ => none
  | n + 1, x3 =>
    if mem k 6 ≤ x3 then (some (-1)) else (ob1 (fX7_memberAt k mem x3) (fun r3 => if r3 = z1 then (ob1 (fX7_sortAt k mem x3) (fun r6 => if r6 = z2 then (some x3) else (fX7_find_2 k mem z1 z2 n (x3 + 1)))) else (fX7_find_2 k mem z1 z2 n (x3 + 1))))
set_option maxHeartbeats 4000000 in
set_option maxRecDepth 100000 in
theorem lpX7_find_2 {p : Program} {l : Launch} {e : Env} {s : State} {m : MethodId} {args : Array Value} {below : List Frame} {meth : Method} {c : Code} (g : gG) (ad : Nat → Nat) (tk : Nat) (k : Nat) (hk : isSt k) (mem : Mem) (z1 : Int32) (z2 : Int32) (r : Int32) (C0 : cxt (eX g ad tk) cX7_find 4 RX7 (some .int) p s m args meth c) (hP : va_P g.1 vwCl (wX g ad mem) s.heap) :
    ∀ (n : Nat) (x3 : Int32) (ls : Array Slot), fX7_find_2 k mem z1 z2 n x3 = some r → lv_has ls 4 [(0, .ref (ad k)), (1, .int z1), (2, .int z2), (3, .int x3)] → W p l e { frames := 3, cells := 0, slots := 0, locals := 58 } s m args below meth c s.heap [] 0 0 (MQ below (qR (some (.int r)) (True)) args s 0 0 noA) (F0 m 2 ls []) := by
  obtain ⟨hx, hb, hml, hown, hts, hr, hlk, hE⟩ := id C0
  obtain ⟨hK, hN, hA, hZ, hT, hTA⟩ := id hE
  intro n
  induction n with
  | zero =>
    intro x3 ls hF hl
    cases hF
  | succ n ih =>
    intro x3 ls hF hl
    rw [fX7_find_2] at hF
    have hS : va_S (AW 44 ad) s.heap s.heap [] := va_S.rf
    refine lv_iload_n hx hb dX7_find_2 rfl (lv_at hl 3 rfl) ?_
    refine lv_aload_n hx hb dX7_find_3 rfl (lv_at hl 0 rfl) ?_
    refine get_W C0 hK hP iwX7 k (wX_St hk) rfl 6 (by decide) mF_X7_27 rfl rfl dX7_find_4 ?_
    refine lv_icmp_ge (tgt := 36) hx hb dX7_find_7 (by decide) (fun c1 => ?_) (fun c1 => ?_)
    · replace hF := (if_pos c1).symm.trans hF
      refine lv_iconst (v := (-1)) hx hb dX7_find_36 (by decide) ?_
      cases hF
      exact ret_Ri C0 trivial dX7_find_37
    · replace hF := (if_neg c1).symm.trans hF
      refine lv_aload_n hx hb dX7_find_10 rfl (lv_at hl 0 rfl) ?_
      refine lv_iload_n hx hb dX7_find_11 rfl (lv_at hl 3 rfl) ?_
      obtain ⟨r3, h2, hF⟩ := ob_some hF
      refine cV_Ri C0 eX_st hP hS hK pkX7_memberAt (As := [.int x3]) (rest := []) (kX7_memberAt l g ad tk mem k hk x3 r3 h2) mL_X7_46 ⟨rfl, rfl, Nat.le_of_ble_eq_true rfl, Nat.le_of_ble_eq_true rfl, Nat.le_of_ble_eq_true rfl, Nat.le_of_ble_eq_true rfl⟩ k (wX_St hk) rfl rfl rfl hl.1 rfl (Nat.le_of_ble_eq_true rfl) dX7_find_12 (fun _ => ?_)
      refine lv_iload_n hx hb dX7_find_15 rfl (lv_at hl 1 rfl) ?_
      refine lv_icmp_ne (tgt := 30) hx hb dX7_find_16 (by decide) (fun c4 => ?_) (fun c4 => ?_)
      · replace hF := (if_neg c4).symm.trans hF
        refine lv_iinc (v := x3 + 1) (lv' := [(3, .int (x3 + 1)), (0, .ref (ad k)), (1, .int z1), (2, .int z2)]) hx hb dX7_find_30 hl (k := 3) rfl rfl (by decide) rfl (fun ls hl => ?_)
        refine lv_goto (tgt := 2) hx hb dX7_find_33 (by decide) ?_
        exact ih (x3 + 1) ls hF (lv_sub hl [1, 2, 3, 0] rfl)
      · replace hF := (if_pos c4).symm.trans hF
        refine lv_aload_n hx hb dX7_find_19 rfl (lv_at hl 0 rfl) ?_
        refine lv_iload_n hx hb dX7_find_20 rfl (lv_at hl 3 rfl) ?_
        obtain ⟨r6, h5, hF⟩ := ob_some hF
        refine cV_Ri C0 eX_st hP hS hK pkX7_sortAt (As := [.int x3]) (rest := []) (kX7_sortAt l g ad tk mem k hk x3 r6 h5) mL_X7_50 ⟨rfl, rfl, Nat.le_of_ble_eq_true rfl, Nat.le_of_ble_eq_true rfl, Nat.le_of_ble_eq_true rfl, Nat.le_of_ble_eq_true rfl⟩ k (wX_St hk) rfl rfl rfl hl.1 rfl (Nat.le_of_ble_eq_true rfl) dX7_find_21 (fun _ => ?_)
        refine lv_iload_n hx hb dX7_find_24 rfl (lv_at hl 2 rfl) ?_
        refine lv_icmp_ne (tgt := 30) hx hb dX7_find_25 (by decide) (fun c7 => ?_) (fun c7 => ?_)
        · replace hF := (if_neg c7).symm.trans hF
          refine lv_iinc (v := x3 + 1) (lv' := [(3, .int (x3 + 1)), (0, .ref (ad k)), (1, .int z1), (2, .int z2)]) hx hb dX7_find_30 hl (k := 3) rfl rfl (by decide) rfl (fun ls hl => ?_)
          refine lv_goto (tgt := 2) hx hb dX7_find_33 (by decide) ?_
          exact ih (x3 + 1) ls hF (lv_sub hl [1, 2, 3, 0] rfl)
        · replace hF := (if_pos c7).symm.trans hF
          refine lv_iload_n hx hb dX7_find_28 rfl (lv_at hl 3 rfl) ?_
          cases hF
          exact ret_Ri C0 trivial dX7_find_29
def fX7_find (k : Nat) (mem : Mem) (a1 : Int32) (a2 : Int32) : Option (Int32) :=
  fX7_find_2 k mem a1 a2 fu 0
set_option maxHeartbeats 4000000 in
set_option maxRecDepth 100000 in
theorem kX7_find (l : Launch) (g : gG) (ad : Nat → Nat) (tk : Nat) (mem : Mem) (k : Nat) (hk : isSt k) (a1 : Int32) (a2 : Int32) (r : Int32) (hF : fX7_find k mem a1 a2 = some r) : Met l yX7_find (Cond.code yX7_find cX7_find 4 (some .int) :: gw) { frames := 3, cells := 0, slots := 0, locals := 58 } (pG (wX g ad mem) (eX g ad tk) g [.ref (ad k), .int a1, .int a2]) (qR (some (.int r)) (True)) 0 0 noA := by
  refine met_of (by decide) (Nat.le_of_ble_eq_true rfl) ?_
  intro p e s m args below meth c ls C0 hP hl
  obtain ⟨hx, hb, hml, hown, hts, hr, hlk, hE⟩ := id C0
  obtain ⟨hK, hN, hA, hZ, hT, hTA⟩ := id hE
  have hl : lv_has ls 4 [(0, .ref (ad k)), (1, .int a1), (2, .int a2)] := hl
  have hS : va_S (AW 44 ad) s.heap s.heap [] := va_S.rf
  unfold fX7_find at hF
  refine lv_iconst (v := 0) hx hb dX7_find_0 (by decide) ?_
  refine lv_istore_n (lv' := [(3, .int 0), (0, .ref (ad k)), (1, .int a1), (2, .int a2)]) hx hb dX7_find_1 rfl hl (by decide) rfl (fun ls hl => ?_)
  exact lpX7_find_2 g ad tk k hk mem a1 a2 r C0 hP fu 0 ls hF (lv_sub hl [1, 2, 3, 0] rfl)
theorem pkX7_append : pkV yX7_append cX7_append 3 (none) RX7 2 := ⟨mI_X7_append, mS_X7_append, mN_X7, mC_X7_append, by decide +kernel⟩
def fX7_append (k : Nat) (mem : Mem) (a1 : Int32) (a2 : Int32) : Option (Mem) :=
  if 20 ≤ mem k 6 then (some mem) else (some (up2 (upc (upc mem (k + 1) (setF (mem (k + 1)) 20 (mem k 6) a1)) (k + 2) (setF ((upc mem (k + 1) (setF (mem (k + 1)) 20 (mem k 6) a1)) (k + 2)) 20 ((upc mem (k + 1) (setF (mem (k + 1)) 20 (mem k 6) a1)) k 6) a2)) k 6 (((upc (upc mem (k + 1) (setF (mem (k + 1)) 20 (mem k 6) a1)) (k + 2) (setF ((upc mem (k + 1) (setF (mem (k + 1)) 20 (mem k 6) a1)) (k + 2)) 20 ((upc mem (k + 1) (setF (mem (k + 1)) 20 (mem k 6) a1)) k 6) a2)) k 6) + 1)))
set_option maxHeartbeats 4000000 in
set_option maxRecDepth 100000 in
theorem kX7_append (l : Launch) (g : gG) (ad : Nat → Nat) (tk : Nat) (mem : Mem) (k : Nat) (hk : isSt k) (a1 : Int32) (a2 : Int32) (mem2 : Mem) (hF : fX7_append k mem a1 a2 = some mem2) : Met l yX7_append (Cond.code yX7_append cX7_append 3 (none) :: gw) { frames := 2, cells := 0, slots := 0, locals := 38 } (pG (wX g ad mem) (eX g ad tk) g [.ref (ad k), .int a1, .int a2]) (qW (wX g ad mem2) g (AW 44 ad) (none) (True)) 0 0 (AW 44 ad) := by
  refine met_of (by decide) (Nat.le_of_ble_eq_true rfl) ?_
  intro p e s m args below meth c ls C0 hP hl
  obtain ⟨hx, hb, hml, hown, hts, hr, hlk, hE⟩ := id C0
  obtain ⟨hK, hN, hA, hZ, hT, hTA⟩ := id hE
  have hl : lv_has ls 3 [(0, .ref (ad k)), (1, .int a1), (2, .int a2)] := hl
  have hS : va_S (AW 44 ad) s.heap s.heap [] := va_S.rf
  unfold fX7_append at hF
  refine lv_aload_n hx hb dX7_append_0 rfl (lv_at hl 0 rfl) ?_
  refine get_W C0 hK hP iwX7 k (wX_St hk) rfl 6 (by decide) mF_X7_27 rfl rfl dX7_append_1 ?_
  refine lv_bipush (v := 20) hx hb dX7_append_4 (by decide) ?_
  refine lv_icmp_ge (tgt := 43) hx hb dX7_append_6 (by decide) (fun c1 => ?_) (fun c1 => ?_)
  · replace hF := (if_pos c1).symm.trans hF
    cases hF
    exact ret_Wv C0 hP hS trivial dX7_append_43
  · replace hF := (if_neg c1).symm.trans hF
    refine lv_aload_n hx hb dX7_append_9 rfl (lv_at hl 0 rfl) ?_
    refine get_W C0 hK hP iwX7 k (wX_St hk) rfl 1 (by decide) mF_X7_9 rfl rfl dX7_append_10 ?_
    refine lv_aload_n hx hb dX7_append_13 rfl (lv_at hl 0 rfl) ?_
    refine get_W C0 hK hP iwX7 k (wX_St hk) rfl 6 (by decide) mF_X7_27 rfl rfl dX7_append_14 ?_
    refine lv_iload_n hx hb dX7_append_17 rfl (lv_at hl 1 rfl) ?_
    refine set_W C0 hN hK hP (wX_D hA) hS (k + 1) (wX_St_1 hk) (by decide) (wX_St_s1 hk) nN_X7_53 ⟨Nat.le_of_ble_eq_true rfl, Nat.le_of_ble_eq_true rfl, Nat.le_of_ble_eq_true rfl, Nat.le_of_ble_eq_true rfl⟩ hl.1 (Nat.le_of_ble_eq_true rfl) dX7_append_18 (fun H locs hP hS => ?_)
    refine lv_aload_n hx hb dX7_append_21 rfl (lv_at hl 0 rfl) ?_
    refine get_W C0 hK hP iwX7 k (wX_St hk) rfl 2 (by decide) mF_X7_15 rfl rfl dX7_append_22 ?_
    refine lv_aload_n hx hb dX7_append_25 rfl (lv_at hl 0 rfl) ?_
    refine get_W C0 hK hP iwX7 k (wX_St hk) rfl 6 (by decide) mF_X7_27 rfl rfl dX7_append_26 ?_
    refine lv_iload_n hx hb dX7_append_29 rfl (lv_at hl 2 rfl) ?_
    refine set_W C0 hN hK hP (wX_D hA) hS (k + 2) (wX_St_2 hk) (by decide) (wX_St_s2 hk) nN_X7_53 ⟨Nat.le_of_ble_eq_true rfl, Nat.le_of_ble_eq_true rfl, Nat.le_of_ble_eq_true rfl, Nat.le_of_ble_eq_true rfl⟩ hl.1 (Nat.le_of_ble_eq_true rfl) dX7_append_30 (fun H locs hP hS => ?_)
    refine lv_aload_n hx hb dX7_append_33 rfl (lv_at hl 0 rfl) ?_
    refine lv_dup hx hb dX7_append_34 rfl ?_
    refine get_W C0 hK hP iwX7 k (wX_St hk) rfl 6 (by decide) mF_X7_27 rfl rfl dX7_append_35 ?_
    refine lv_iconst (v := 1) hx hb dX7_append_38 (by decide) ?_
    refine lv_iadd hx hb dX7_append_39 ?_
    refine put_W (k := 6) C0 hK hP (wX_D hA) hS iwX7 tyX7_ok nmX7 k (wX_St hk) rfl (by decide) mF_X7_27 rfl rfl rfl rfl (Nat.le_of_ble_eq_true rfl) (wX_St_s_6 hk) dX7_append_40 (fun H locs hP hS => ?_)
    cases hF
    exact ret_Wv C0 hP hS trivial dX7_append_43
theorem pkX7_drop : pkV yX7_drop cX7_drop 3 (none) RX7 1 := ⟨mI_X7_drop, mS_X7_drop, mN_X7, mC_X7_drop, by decide +kernel⟩
def fX7_drop_15 (k : Nat) (z1 : Int32) : Nat → Mem → Int32 → Option (Mem)
  | 0, _, _ => none
  | n + 1, mem, x2 =>
    if mem k 6 ≤ x2 + 1 then (some (up2 mem k 6 ((mem k 6) - 1))) else (ob1 (fX7_memberAt k mem (x2 + 1)) (fun r5 => ob1 (fX7_sortAt k (upc mem (k + 1) (setF (mem (k + 1)) 20 x2 r5)) (x2 + 1)) (fun r7 => fX7_drop_15 k z1 n (upc (upc mem (k + 1) (setF (mem (k + 1)) 20 x2 r5)) (k + 2) (setF ((upc mem (k + 1) (setF (mem (k + 1)) 20 x2 r5)) (k + 2)) 20 x2 r7)) (x2 + 1))))
set_option maxHeartbeats 4000000 in
set_option maxRecDepth 100000 in
theorem lpX7_drop_15 {p : Program} {l : Launch} {e : Env} {s : State} {m : MethodId} {args : Array Value} {below : List Frame} {meth : Method} {c : Code} (g : gG) (ad : Nat → Nat) (tk : Nat) (k : Nat) (hk : isSt k) (z1 : Int32) (mem2 : Mem) (C0 : cxt (eX g ad tk) cX7_drop 3 RX7 (none) p s m args meth c) :
    ∀ (n : Nat) (mem : Mem) (x2 : Int32) (H : Heap) (locs : List Loc) (ls : Array Slot), fX7_drop_15 k z1 n mem x2 = some mem2 → va_P g.1 vwCl (wX g ad mem) H → va_S (AW 44 ad) s.heap H locs → lv_has ls 3 [(0, .ref (ad k)), (1, .int z1), (2, .int x2)] → W p l e { frames := 3, cells := 0, slots := 0, locals := 58 } s m args below meth c H locs 0 0 (MQ below (qW (wX g ad mem2) g (AW 44 ad) (none) (True)) args s 0 0 (AW 44 ad)) (F0 m 15 ls []) := by
  obtain ⟨hx, hb, hml, hown, hts, hr, hlk, hE⟩ := id C0
  obtain ⟨hK, hN, hA, hZ, hT, hTA⟩ := id hE
  intro n
  induction n with
  | zero =>
    intro mem x2 H locs ls hF hP hS hl
    cases hF
  | succ n ih =>
    intro mem x2 H locs ls hF hP hS hl
    rw [fX7_drop_15] at hF
    refine lv_iload_n hx hb dX7_drop_15 rfl (lv_at hl 2 rfl) ?_
    refine lv_iconst (v := 1) hx hb dX7_drop_16 (by decide) ?_
    refine lv_iadd hx hb dX7_drop_17 ?_
    refine lv_aload_n hx hb dX7_drop_18 rfl (lv_at hl 0 rfl) ?_
    refine get_W C0 hK hP iwX7 k (wX_St hk) rfl 6 (by decide) mF_X7_27 rfl rfl dX7_drop_19 ?_
    refine lv_icmp_ge (tgt := 61) hx hb dX7_drop_22 (by decide) (fun c3 => ?_) (fun c3 => ?_)
    · replace hF := (if_pos c3).symm.trans hF
      refine lv_aload_n hx hb dX7_drop_61 rfl (lv_at hl 0 rfl) ?_
      refine lv_dup hx hb dX7_drop_62 rfl ?_
      refine get_W C0 hK hP iwX7 k (wX_St hk) rfl 6 (by decide) mF_X7_27 rfl rfl dX7_drop_63 ?_
      refine lv_iconst (v := 1) hx hb dX7_drop_66 (by decide) ?_
      refine lv_isub hx hb dX7_drop_67 ?_
      refine put_W (k := 6) C0 hK hP (wX_D hA) hS iwX7 tyX7_ok nmX7 k (wX_St hk) rfl (by decide) mF_X7_27 rfl rfl rfl rfl (Nat.le_of_ble_eq_true rfl) (wX_St_s_6 hk) dX7_drop_68 (fun H locs hP hS => ?_)
      cases hF
      exact ret_Wv C0 hP hS trivial dX7_drop_71
    · replace hF := (if_neg c3).symm.trans hF
      refine lv_aload_n hx hb dX7_drop_25 rfl (lv_at hl 0 rfl) ?_
      refine get_W C0 hK hP iwX7 k (wX_St hk) rfl 1 (by decide) mF_X7_9 rfl rfl dX7_drop_26 ?_
      refine lv_iload_n hx hb dX7_drop_29 rfl (lv_at hl 2 rfl) ?_
      refine lv_aload_n hx hb dX7_drop_30 rfl (lv_at hl 0 rfl) ?_
      refine lv_iload_n hx hb dX7_drop_31 rfl (lv_at hl 2 rfl) ?_
      refine lv_iconst (v := 1) hx hb dX7_drop_32 (by decide) ?_
      refine lv_iadd hx hb dX7_drop_33 ?_
      obtain ⟨r5, h4, hF⟩ := ob_some hF
      refine cV_Ri C0 eX_st hP hS hK pkX7_memberAt (As := [.int (x2 + 1)]) (rest := [.int x2, .ref (ad (k + 1))]) (kX7_memberAt l g ad tk mem k hk (x2 + 1) r5 h4) mL_X7_46 ⟨rfl, rfl, Nat.le_of_ble_eq_true rfl, Nat.le_of_ble_eq_true rfl, Nat.le_of_ble_eq_true rfl, Nat.le_of_ble_eq_true rfl⟩ k (wX_St hk) rfl rfl rfl hl.1 rfl (Nat.le_of_ble_eq_true rfl) dX7_drop_34 (fun _ => ?_)
      refine set_W C0 hN hK hP (wX_D hA) hS (k + 1) (wX_St_1 hk) (by decide) (wX_St_s1 hk) nN_X7_53 ⟨Nat.le_of_ble_eq_true rfl, Nat.le_of_ble_eq_true rfl, Nat.le_of_ble_eq_true rfl, Nat.le_of_ble_eq_true rfl⟩ hl.1 (Nat.le_of_ble_eq_true rfl) dX7_drop_37 (fun H locs hP hS => ?_)
      refine lv_aload_n hx hb dX7_drop_40 rfl (lv_at hl 0 rfl) ?_
      refine get_W C0 hK hP iwX7 k (wX_St hk) rfl 2 (by decide) mF_X7_15 rfl rfl dX7_drop_41 ?_
      refine lv_iload_n hx hb dX7_drop_44 rfl (lv_at hl 2 rfl) ?_
      refine lv_aload_n hx hb dX7_drop_45 rfl (lv_at hl 0 rfl) ?_
      refine lv_iload_n hx hb dX7_drop_46 rfl (lv_at hl 2 rfl) ?_
      refine lv_iconst (v := 1) hx hb dX7_drop_47 (by decide) ?_
      refine lv_iadd hx hb dX7_drop_48 ?_
      obtain ⟨r7, h6, hF⟩ := ob_some hF
      refine cV_Ri C0 eX_st hP hS hK pkX7_sortAt (As := [.int (x2 + 1)]) (rest := [.int x2, .ref (ad (k + 2))]) (kX7_sortAt l g ad tk (upc mem (k + 1) (setF (mem (k + 1)) 20 x2 r5)) k hk (x2 + 1) r7 h6) mL_X7_50 ⟨rfl, rfl, Nat.le_of_ble_eq_true rfl, Nat.le_of_ble_eq_true rfl, Nat.le_of_ble_eq_true rfl, Nat.le_of_ble_eq_true rfl⟩ k (wX_St hk) rfl rfl rfl hl.1 rfl (Nat.le_of_ble_eq_true rfl) dX7_drop_49 (fun _ => ?_)
      refine set_W C0 hN hK hP (wX_D hA) hS (k + 2) (wX_St_2 hk) (by decide) (wX_St_s2 hk) nN_X7_53 ⟨Nat.le_of_ble_eq_true rfl, Nat.le_of_ble_eq_true rfl, Nat.le_of_ble_eq_true rfl, Nat.le_of_ble_eq_true rfl⟩ hl.1 (Nat.le_of_ble_eq_true rfl) dX7_drop_52 (fun H locs hP hS => ?_)
      refine lv_iinc (v := x2 + 1) (lv' := [(2, .int (x2 + 1)), (0, .ref (ad k)), (1, .int z1)]) hx hb dX7_drop_55 hl (k := 2) rfl rfl (by decide) rfl (fun ls hl => ?_)
      refine lv_goto (tgt := 15) hx hb dX7_drop_58 (by decide) ?_
      exact ih (upc (upc mem (k + 1) (setF (mem (k + 1)) 20 x2 r5)) (k + 2) (setF ((upc mem (k + 1) (setF (mem (k + 1)) 20 x2 r5)) (k + 2)) 20 x2 r7)) (x2 + 1) _ _ ls hF hP hS (lv_sub hl [1, 2, 0] rfl)
def fX7_drop (k : Nat) (mem : Mem) (a1 : Int32) : Option (Mem) :=
  if a1 < 0 then (some mem) else (if a1 < mem k 6 then (fX7_drop_15 k a1 fu mem a1) else (some mem))
set_option maxHeartbeats 4000000 in
set_option maxRecDepth 100000 in
theorem kX7_drop (l : Launch) (g : gG) (ad : Nat → Nat) (tk : Nat) (mem : Mem) (k : Nat) (hk : isSt k) (a1 : Int32) (mem2 : Mem) (hF : fX7_drop k mem a1 = some mem2) : Met l yX7_drop (Cond.code yX7_drop cX7_drop 3 (none) :: gw) { frames := 3, cells := 0, slots := 0, locals := 58 } (pG (wX g ad mem) (eX g ad tk) g [.ref (ad k), .int a1]) (qW (wX g ad mem2) g (AW 44 ad) (none) (True)) 0 0 (AW 44 ad) := by
  refine met_of (by decide) (Nat.le_of_ble_eq_true rfl) ?_
  intro p e s m args below meth c ls C0 hP hl
  obtain ⟨hx, hb, hml, hown, hts, hr, hlk, hE⟩ := id C0
  obtain ⟨hK, hN, hA, hZ, hT, hTA⟩ := id hE
  have hl : lv_has ls 3 [(0, .ref (ad k)), (1, .int a1)] := hl
  have hS : va_S (AW 44 ad) s.heap s.heap [] := va_S.rf
  unfold fX7_drop at hF
  refine lv_iload_n hx hb dX7_drop_0 rfl (lv_at hl 1 rfl) ?_
  refine lv_if_lt (tgt := 12) hx hb dX7_drop_1 (by decide) (fun c1 => ?_) (fun c1 => ?_)
  · replace hF := (if_pos c1).symm.trans hF
    cases hF
    exact ret_Wv C0 hP hS trivial dX7_drop_12
  · replace hF := (if_neg c1).symm.trans hF
    refine lv_iload_n hx hb dX7_drop_4 rfl (lv_at hl 1 rfl) ?_
    refine lv_aload_n hx hb dX7_drop_5 rfl (lv_at hl 0 rfl) ?_
    refine get_W C0 hK hP iwX7 k (wX_St hk) rfl 6 (by decide) mF_X7_27 rfl rfl dX7_drop_6 ?_
    refine lv_icmp_lt (tgt := 13) hx hb dX7_drop_9 (by decide) (fun c2 => ?_) (fun c2 => ?_)
    · replace hF := (if_pos c2).symm.trans hF
      refine lv_iload_n hx hb dX7_drop_13 rfl (lv_at hl 1 rfl) ?_
      refine lv_istore_n (lv' := [(2, .int a1), (0, .ref (ad k)), (1, .int a1)]) hx hb dX7_drop_14 rfl hl (by decide) rfl (fun ls hl => ?_)
      exact lpX7_drop_15 g ad tk k hk a1 mem2 C0 fu mem a1 _ _ ls hF hP hS (lv_sub hl [1, 2, 0] rfl)
    · replace hF := (if_neg c2).symm.trans hF
      cases hF
      exact ret_Wv C0 hP hS trivial dX7_drop_12
theorem pkX7_take : pkV yX7_take cX7_take 3 (none) RX7 1 := ⟨mI_X7_take, mS_X7_take, mN_X7, mC_X7_take, by decide +kernel⟩
def fX7_take (k : Nat) (mem : Mem) (a1 : Int32) : Option (Mem) :=
  ob1 (fX7_memberAt k mem a1) (fun r2 => ob1 (fX7_sortAt k mem a1) (fun r4 => if r4 = 0 then (ob1 (fX7_speechesOf k mem r2) (fun r11 => ob1 (fX4_delegationOf (upc mem (k + 4) (setF (mem (k + 4)) 10 r2 (r11 + 1))) r2) (fun r13 => ob1 (fX7_drop k (up2 (upc mem (k + 4) (setF (mem (k + 4)) 10 r2 (r11 + 1))) k 7 r13) a1) (fun m15 => some m15)))) else (ob1 (fX4_delegationOf mem r2) (fun r7 => ob1 (fX7_drop k (up2 mem k 7 r7) a1) (fun m9 => some m9)))))
set_option maxHeartbeats 4000000 in
set_option maxRecDepth 100000 in
theorem kX7_take (l : Launch) (g : gG) (ad : Nat → Nat) (tk : Nat) (mem : Mem) (k : Nat) (hk : isSt k) (a1 : Int32) (mem2 : Mem) (hF : fX7_take k mem a1 = some mem2) : Met l yX7_take (Cond.code yX7_take cX7_take 3 (none) :: gw) { frames := 4, cells := 0, slots := 0, locals := 80 } (pG (wX g ad mem) (eX g ad tk) g [.ref (ad k), .int a1]) (qW (wX g ad mem2) g (AW 44 ad) (none) (True)) 0 0 (AW 44 ad) := by
  refine met_of (by decide) (Nat.le_of_ble_eq_true rfl) ?_
  intro p e s m args below meth c ls C0 hP hl
  obtain ⟨hx, hb, hml, hown, hts, hr, hlk, hE⟩ := id C0
  obtain ⟨hK, hN, hA, hZ, hT, hTA⟩ := id hE
  have hl : lv_has ls 3 [(0, .ref (ad k)), (1, .int a1)] := hl
  have hS : va_S (AW 44 ad) s.heap s.heap [] := va_S.rf
  unfold fX7_take at hF
  refine lv_aload_n hx hb dX7_take_0 rfl (lv_at hl 0 rfl) ?_
  refine lv_iload_n hx hb dX7_take_1 rfl (lv_at hl 1 rfl) ?_
  obtain ⟨r2, h1, hF⟩ := ob_some hF
  refine cV_Ri C0 eX_st hP hS hK pkX7_memberAt (As := [.int a1]) (rest := []) (kX7_memberAt l g ad tk mem k hk a1 r2 h1) mL_X7_46 ⟨rfl, rfl, Nat.le_of_ble_eq_true rfl, Nat.le_of_ble_eq_true rfl, Nat.le_of_ble_eq_true rfl, Nat.le_of_ble_eq_true rfl⟩ k (wX_St hk) rfl rfl rfl hl.1 rfl (Nat.le_of_ble_eq_true rfl) dX7_take_2 (fun _ => ?_)
  refine lv_istore_n (lv' := [(2, .int r2), (0, .ref (ad k)), (1, .int a1)]) hx hb dX7_take_5 rfl hl (by decide) rfl (fun ls hl => ?_)
  refine lv_aload_n hx hb dX7_take_6 rfl (lv_at hl 1 rfl) ?_
  refine lv_iload_n hx hb dX7_take_7 rfl (lv_at hl 2 rfl) ?_
  obtain ⟨r4, h3, hF⟩ := ob_some hF
  refine cV_Ri C0 eX_st hP hS hK pkX7_sortAt (As := [.int a1]) (rest := []) (kX7_sortAt l g ad tk mem k hk a1 r4 h3) mL_X7_50 ⟨rfl, rfl, Nat.le_of_ble_eq_true rfl, Nat.le_of_ble_eq_true rfl, Nat.le_of_ble_eq_true rfl, Nat.le_of_ble_eq_true rfl⟩ k (wX_St hk) rfl rfl rfl hl.1 rfl (Nat.le_of_ble_eq_true rfl) dX7_take_8 (fun _ => ?_)
  refine lv_if_ne (tgt := 29) hx hb dX7_take_11 (by decide) (fun c5 => ?_) (fun c5 => ?_)
  · replace hF := (if_neg c5).symm.trans hF
    refine lv_aload_n hx hb dX7_take_29 rfl (lv_at hl 1 rfl) ?_
    refine lv_aload_n hx hb dX7_take_30 rfl (lv_at hl 1 rfl) ?_
    refine get_W C0 hK hP iwX7 k (wX_St hk) rfl 0 (by decide) mF_X7_34 rfl rfl dX7_take_31 ?_
    refine lv_iload_n hx hb dX7_take_34 rfl (lv_at hl 0 rfl) ?_
    obtain ⟨r7, h6, hF⟩ := ob_some hF
    refine cV_Ri C0 eX_st hP hS hK pkX4_delegationOf (As := [.int r2]) (rest := [.ref (ad k)]) (kX4_delegationOf l g ad tk mem r2 r7 h6) mL_X7_60 ⟨rfl, rfl, Nat.le_of_ble_eq_true rfl, Nat.le_of_ble_eq_true rfl, Nat.le_of_ble_eq_true rfl, Nat.le_of_ble_eq_true rfl⟩ 1 wX_1 rfl rfl rfl hl.1 rfl (Nat.le_of_ble_eq_true rfl) dX7_take_35 (fun _ => ?_)
    refine put_W (k := 7) C0 hK hP (wX_D hA) hS iwX7 tyX7_ok nmX7 k (wX_St hk) rfl (by decide) mF_X7_31 rfl rfl rfl rfl (Nat.le_of_ble_eq_true rfl) (wX_St_s_7 hk) dX7_take_38 (fun H locs hP hS => ?_)
    refine lv_aload_n hx hb dX7_take_41 rfl (lv_at hl 1 rfl) ?_
    refine lv_iload_n hx hb dX7_take_42 rfl (lv_at hl 2 rfl) ?_
    obtain ⟨m9, h8, hF⟩ := ob_some hF
    refine cV_Wv C0 eX_st hP hS hK pkX7_drop (As := [.int a1]) (rest := []) (kX7_drop l g ad tk (up2 mem k 7 r7) k hk a1 m9 h8) mL_X7_65 ⟨rfl, rfl, Nat.le_of_ble_eq_true rfl, Nat.le_of_ble_eq_true rfl, Nat.le_of_ble_eq_true rfl, Nat.le_of_ble_eq_true rfl⟩ k (wX_St hk) rfl rfl rfl hl.1 rfl (Nat.le_of_ble_eq_true rfl) dX7_take_43 (fun H locs _ hP hS => ?_)
    cases hF
    exact ret_Wv C0 hP hS trivial dX7_take_46
  · replace hF := (if_pos c5).symm.trans hF
    refine lv_aload_n hx hb dX7_take_14 rfl (lv_at hl 1 rfl) ?_
    refine get_W C0 hK hP iwX7 k (wX_St hk) rfl 4 (by decide) mF_X7_21 rfl rfl dX7_take_15 ?_
    refine lv_iload_n hx hb dX7_take_18 rfl (lv_at hl 0 rfl) ?_
    refine lv_aload_n hx hb dX7_take_19 rfl (lv_at hl 1 rfl) ?_
    refine lv_iload_n hx hb dX7_take_20 rfl (lv_at hl 0 rfl) ?_
    obtain ⟨r11, h10, hF⟩ := ob_some hF
    refine cV_Ri C0 eX_st hP hS hK pkX7_speechesOf (As := [.int r2]) (rest := [.int r2, .ref (ad (k + 4))]) (kX7_speechesOf l g ad tk mem k hk r2 r11 h10) mL_X7_57 ⟨rfl, rfl, Nat.le_of_ble_eq_true rfl, Nat.le_of_ble_eq_true rfl, Nat.le_of_ble_eq_true rfl, Nat.le_of_ble_eq_true rfl⟩ k (wX_St hk) rfl rfl rfl hl.1 rfl (Nat.le_of_ble_eq_true rfl) dX7_take_21 (fun _ => ?_)
    refine lv_iconst (v := 1) hx hb dX7_take_24 (by decide) ?_
    refine lv_iadd hx hb dX7_take_25 ?_
    refine set_W C0 hN hK hP (wX_D hA) hS (k + 4) (wX_St_4 hk) (by decide) (wX_St_s4 hk) nN_X7_53 ⟨Nat.le_of_ble_eq_true rfl, Nat.le_of_ble_eq_true rfl, Nat.le_of_ble_eq_true rfl, Nat.le_of_ble_eq_true rfl⟩ hl.1 (Nat.le_of_ble_eq_true rfl) dX7_take_26 (fun H locs hP hS => ?_)
    refine lv_aload_n hx hb dX7_take_29 rfl (lv_at hl 1 rfl) ?_
    refine lv_aload_n hx hb dX7_take_30 rfl (lv_at hl 1 rfl) ?_
    refine get_W C0 hK hP iwX7 k (wX_St hk) rfl 0 (by decide) mF_X7_34 rfl rfl dX7_take_31 ?_
    refine lv_iload_n hx hb dX7_take_34 rfl (lv_at hl 0 rfl) ?_
    obtain ⟨r13, h12, hF⟩ := ob_some hF
    refine cV_Ri C0 eX_st hP hS hK pkX4_delegationOf (As := [.int r2]) (rest := [.ref (ad k)]) (kX4_delegationOf l g ad tk (upc mem (k + 4) (setF (mem (k + 4)) 10 r2 (r11 + 1))) r2 r13 h12) mL_X7_60 ⟨rfl, rfl, Nat.le_of_ble_eq_true rfl, Nat.le_of_ble_eq_true rfl, Nat.le_of_ble_eq_true rfl, Nat.le_of_ble_eq_true rfl⟩ 1 wX_1 rfl rfl rfl hl.1 rfl (Nat.le_of_ble_eq_true rfl) dX7_take_35 (fun _ => ?_)
    refine put_W (k := 7) C0 hK hP (wX_D hA) hS iwX7 tyX7_ok nmX7 k (wX_St hk) rfl (by decide) mF_X7_31 rfl rfl rfl rfl (Nat.le_of_ble_eq_true rfl) (wX_St_s_7 hk) dX7_take_38 (fun H locs hP hS => ?_)
    refine lv_aload_n hx hb dX7_take_41 rfl (lv_at hl 1 rfl) ?_
    refine lv_iload_n hx hb dX7_take_42 rfl (lv_at hl 2 rfl) ?_
    obtain ⟨m15, h14, hF⟩ := ob_some hF
    refine cV_Wv C0 eX_st hP hS hK pkX7_drop (As := [.int a1]) (rest := []) (kX7_drop l g ad tk (up2 (upc mem (k + 4) (setF (mem (k + 4)) 10 r2 (r11 + 1))) k 7 r13) k hk a1 m15 h14) mL_X7_65 ⟨rfl, rfl, Nat.le_of_ble_eq_true rfl, Nat.le_of_ble_eq_true rfl, Nat.le_of_ble_eq_true rfl, Nat.le_of_ble_eq_true rfl⟩ k (wX_St hk) rfl rfl rfl hl.1 rfl (Nat.le_of_ble_eq_true rfl) dX7_take_43 (fun H locs _ hP hS => ?_)
    cases hF
    exact ret_Wv C0 hP hS trivial dX7_take_46
theorem pkX7_addTime : pkV yX7_addTime cX7_addTime 4 (none) RX7 2 := ⟨mI_X7_addTime, mS_X7_addTime, mN_X7, mC_X7_addTime, by decide +kernel⟩
def fX7_addTime (k : Nat) (mem : Mem) (a1 : Int32) (a2 : Int32) : Option (Mem) :=
  ob1 (fX4_delegationOf mem a1) (fun r2 => ob1 (fX7_timeOf k mem a1) (fun r4 => ob1 (fX7_delegationTime k (upc mem (k + 3) (setF (mem (k + 3)) 10 a1 (r4 + a2))) r2) (fun r6 => some (upc (upc mem (k + 3) (setF (mem (k + 3)) 10 a1 (r4 + a2))) (k + 5) (setF ((upc mem (k + 3) (setF (mem (k + 3)) 10 a1 (r4 + a2))) (k + 5)) 5 r2 (r6 + a2))))))
set_option maxHeartbeats 4000000 in
set_option maxRecDepth 100000 in
theorem kX7_addTime (l : Launch) (g : gG) (ad : Nat → Nat) (tk : Nat) (mem : Mem) (k : Nat) (hk : isSt k) (a1 : Int32) (a2 : Int32) (mem2 : Mem) (hF : fX7_addTime k mem a1 a2 = some mem2) : Met l yX7_addTime (Cond.code yX7_addTime cX7_addTime 4 (none) :: gw) { frames := 3, cells := 0, slots := 0, locals := 58 } (pG (wX g ad mem) (eX g ad tk) g [.ref (ad k), .int a1, .int a2]) (qW (wX g ad mem2) g (AW 44 ad) (none) (True)) 0 0 (AW 44 ad) := by
  refine met_of (by decide) (Nat.le_of_ble_eq_true rfl) ?_
  intro p e s m args below meth c ls C0 hP hl
  obtain ⟨hx, hb, hml, hown, hts, hr, hlk, hE⟩ := id C0
  obtain ⟨hK, hN, hA, hZ, hT, hTA⟩ := id hE
  have hl : lv_has ls 4 [(0, .ref (ad k)), (1, .int a1), (2, .int a2)] := hl
  have hS : va_S (AW 44 ad) s.heap s.heap [] := va_S.rf
  unfold fX7_addTime at hF
  refine lv_aload_n hx hb dX7_addTime_0 rfl (lv_at hl 0 rfl) ?_
  refine get_W C0 hK hP iwX7 k (wX_St hk) rfl 0 (by decide) mF_X7_34 rfl rfl dX7_addTime_1 ?_
  refine lv_iload_n hx hb dX7_addTime_4 rfl (lv_at hl 1 rfl) ?_
  obtain ⟨r2, h1, hF⟩ := ob_some hF
  refine cV_Ri C0 eX_st hP hS hK pkX4_delegationOf (As := [.int a1]) (rest := []) (kX4_delegationOf l g ad tk mem a1 r2 h1) mL_X7_60 ⟨rfl, rfl, Nat.le_of_ble_eq_true rfl, Nat.le_of_ble_eq_true rfl, Nat.le_of_ble_eq_true rfl, Nat.le_of_ble_eq_true rfl⟩ 1 wX_1 rfl rfl rfl hl.1 rfl (Nat.le_of_ble_eq_true rfl) dX7_addTime_5 (fun _ => ?_)
  refine lv_istore_n (lv' := [(3, .int r2), (0, .ref (ad k)), (1, .int a1), (2, .int a2)]) hx hb dX7_addTime_8 rfl hl (by decide) rfl (fun ls hl => ?_)
  refine lv_aload_n hx hb dX7_addTime_9 rfl (lv_at hl 1 rfl) ?_
  refine get_W C0 hK hP iwX7 k (wX_St hk) rfl 3 (by decide) mF_X7_18 rfl rfl dX7_addTime_10 ?_
  refine lv_iload_n hx hb dX7_addTime_13 rfl (lv_at hl 2 rfl) ?_
  refine lv_aload_n hx hb dX7_addTime_14 rfl (lv_at hl 1 rfl) ?_
  refine lv_iload_n hx hb dX7_addTime_15 rfl (lv_at hl 2 rfl) ?_
  obtain ⟨r4, h3, hF⟩ := ob_some hF
  refine cV_Ri C0 eX_st hP hS hK pkX7_timeOf (As := [.int a1]) (rest := [.int a1, .ref (ad (k + 3))]) (kX7_timeOf l g ad tk mem k hk a1 r4 h3) mL_X7_69 ⟨rfl, rfl, Nat.le_of_ble_eq_true rfl, Nat.le_of_ble_eq_true rfl, Nat.le_of_ble_eq_true rfl, Nat.le_of_ble_eq_true rfl⟩ k (wX_St hk) rfl rfl rfl hl.1 rfl (Nat.le_of_ble_eq_true rfl) dX7_addTime_16 (fun _ => ?_)
  refine lv_iload_n hx hb dX7_addTime_19 rfl (lv_at hl 3 rfl) ?_
  refine lv_iadd hx hb dX7_addTime_20 ?_
  refine set_W C0 hN hK hP (wX_D hA) hS (k + 3) (wX_St_3 hk) (by decide) (wX_St_s3 hk) nN_X7_53 ⟨Nat.le_of_ble_eq_true rfl, Nat.le_of_ble_eq_true rfl, Nat.le_of_ble_eq_true rfl, Nat.le_of_ble_eq_true rfl⟩ hl.1 (Nat.le_of_ble_eq_true rfl) dX7_addTime_21 (fun H locs hP hS => ?_)
  refine lv_aload_n hx hb dX7_addTime_24 rfl (lv_at hl 1 rfl) ?_
  refine get_W C0 hK hP iwX7 k (wX_St hk) rfl 5 (by decide) mF_X7_24 rfl rfl dX7_addTime_25 ?_
  refine lv_iload_n hx hb dX7_addTime_28 rfl (lv_at hl 0 rfl) ?_
  refine lv_aload_n hx hb dX7_addTime_29 rfl (lv_at hl 1 rfl) ?_
  refine lv_iload_n hx hb dX7_addTime_30 rfl (lv_at hl 0 rfl) ?_
  obtain ⟨r6, h5, hF⟩ := ob_some hF
  refine cV_Ri C0 eX_st hP hS hK pkX7_delegationTime (As := [.int r2]) (rest := [.int r2, .ref (ad (k + 5))]) (kX7_delegationTime l g ad tk (upc mem (k + 3) (setF (mem (k + 3)) 10 a1 (r4 + a2))) k hk r2 r6 h5) mL_X7_72 ⟨rfl, rfl, Nat.le_of_ble_eq_true rfl, Nat.le_of_ble_eq_true rfl, Nat.le_of_ble_eq_true rfl, Nat.le_of_ble_eq_true rfl⟩ k (wX_St hk) rfl rfl rfl hl.1 rfl (Nat.le_of_ble_eq_true rfl) dX7_addTime_31 (fun _ => ?_)
  refine lv_iload_n hx hb dX7_addTime_34 rfl (lv_at hl 3 rfl) ?_
  refine lv_iadd hx hb dX7_addTime_35 ?_
  refine set_W C0 hN hK hP (wX_D hA) hS (k + 5) (wX_St_5 hk) (by decide) (wX_St_s5 hk) nN_X7_53 ⟨Nat.le_of_ble_eq_true rfl, Nat.le_of_ble_eq_true rfl, Nat.le_of_ble_eq_true rfl, Nat.le_of_ble_eq_true rfl⟩ hl.1 (Nat.le_of_ble_eq_true rfl) dX7_addTime_36 (fun H locs hP hS => ?_)
  cases hF
  exact ret_Wv C0 hP hS trivial dX7_addTime_39
