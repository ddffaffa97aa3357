theorem pkX6_isMissing : pkV yX6_isMissing cX6_isMissing 1 (some .boolean) RX6 0 := ⟨mI_X6_isMissing, mS_X6_isMissing, mN_X6, mC_X6_isMissing, by decide +kernel⟩
def fX6_isMissing (k : Nat) (mem : Mem) : Option (Int32) :=
  if mem k 1 = 0 then (some 1) else (some 0)
set_option maxHeartbeats 4000000 in
set_option maxRecDepth 100000 in
theorem kX6_isMissing (l : Launch) (g : gG) (ad : Nat → Nat) (tk : Nat) (mem : Mem) (k : Nat) (hk : isSh k) (r : Int32) (hF : fX6_isMissing k mem = some r) : Met l yX6_isMissing (Cond.code yX6_isMissing cX6_isMissing 1 (some .boolean) :: gw) { frames := 1, cells := 0, slots := 0, locals := 24 } (pG (wX g ad mem) (eX g ad tk) g [.ref (ad k)]) (qR (some (.int r)) (isB r)) 0 0 noA := by
  refine met_of (by decide) (Nat.le_of_ble_eq_true rfl) ?_
  intro p e s m args below meth c ls C0 hP hl
  obtain ⟨hx, hb, hml, hown, hts, hr, hlk, hE⟩ := id C0
  obtain ⟨hK, hN, hA, hZ, hT, hTA⟩ := id hE
  have hl : lv_has ls 1 [(0, .ref (ad k))] := hl
  have hS : va_S (AW 44 ad) s.heap s.heap [] := va_S.rf
  unfold fX6_isMissing at hF
  refine lv_aload_n hx hb dX6_isMissing_0 rfl (lv_at hl 0 rfl) ?_
  refine get_W C0 hK hP iwX6 k (wX_Sh hk) rfl 1 (by decide) mF_X6_15 rfl rfl dX6_isMissing_1 ?_
  refine lv_if_ne (tgt := 11) hx hb dX6_isMissing_4 (by decide) (fun c1 => ?_) (fun c1 => ?_)
  · replace hF := (if_neg c1).symm.trans hF
    refine lv_iconst (v := 0) hx hb dX6_isMissing_11 (by decide) ?_
    cases hF
    exact ret_Rz C0 (Or.inl rfl) (Or.inl rfl) dX6_isMissing_12
  · replace hF := (if_pos c1).symm.trans hF
    refine lv_iconst (v := 1) hx hb dX6_isMissing_7 (by decide) ?_
    refine lv_goto (tgt := 12) hx hb dX6_isMissing_8 (by decide) ?_
    cases hF
    exact ret_Rz C0 (Or.inr rfl) (Or.inr rfl) dX6_isMissing_12
theorem pkX6_width : pkV yX6_width cX6_width 1 (some .int) RX6 0 := ⟨mI_X6_width, mS_X6_width, mN_X6, mC_X6_width, by decide +kernel⟩
def fX6_width (k : Nat) (mem : Mem) : Option (Int32) :=
  some (mem k 1)
set_option maxHeartbeats 4000000 in
set_option maxRecDepth 100000 in
theorem kX6_width (l : Launch) (g : gG) (ad : Nat → Nat) (tk : Nat) (mem : Mem) (k : Nat) (hk : isSh k) (r : Int32) (hF : fX6_width k mem = some r) : Met l yX6_width (Cond.code yX6_width cX6_width 1 (some .int) :: gw) { frames := 1, cells := 0, slots := 0, locals := 24 } (pG (wX g ad mem) (eX g ad tk) g [.ref (ad k)]) (qR (some (.int r)) (True)) 0 0 noA := by
  refine met_of (by decide) (Nat.le_of_ble_eq_true rfl) ?_
  intro p e s m args below meth c ls C0 hP hl
  obtain ⟨hx, hb, hml, hown, hts, hr, hlk, hE⟩ := id C0
  obtain ⟨hK, hN, hA, hZ, hT, hTA⟩ := id hE
  have hl : lv_has ls 1 [(0, .ref (ad k))] := hl
  have hS : va_S (AW 44 ad) s.heap s.heap [] := va_S.rf
  unfold fX6_width at hF
  refine lv_aload_n hx hb dX6_width_0 rfl (lv_at hl 0 rfl) ?_
  refine get_W C0 hK hP iwX6 k (wX_Sh hk) rfl 1 (by decide) mF_X6_15 rfl rfl dX6_width_1 ?_
  cases hF
  exact ret_Ri C0 trivial dX6_width_4
theorem pkX6_size : pkV yX6_size cX6_size 1 (some .int) RX6 0 := ⟨mI_X6_size, mS_X6_size, mN_X6, mC_X6_size, by decide +kernel⟩
def fX6_size (k : Nat) (mem : Mem) : Option (Int32) :=
  some (mem k 2)
set_option maxHeartbeats 4000000 in
set_option maxRecDepth 100000 in
theorem kX6_size (l : Launch) (g : gG) (ad : Nat → Nat) (tk : Nat) (mem : Mem) (k : Nat) (hk : isSh k) (r : Int32) (hF : fX6_size k mem = some r) : Met l yX6_size (Cond.code yX6_size cX6_size 1 (some .int) :: gw) { frames := 1, cells := 0, slots := 0, locals := 24 } (pG (wX g ad mem) (eX g ad tk) g [.ref (ad k)]) (qR (some (.int r)) (True)) 0 0 noA := by
  refine met_of (by decide) (Nat.le_of_ble_eq_true rfl) ?_
  intro p e s m args below meth c ls C0 hP hl
  obtain ⟨hx, hb, hml, hown, hts, hr, hlk, hE⟩ := id C0
  obtain ⟨hK, hN, hA, hZ, hT, hTA⟩ := id hE
  have hl : lv_has ls 1 [(0, .ref (ad k))] := hl
  have hS : va_S (AW 44 ad) s.heap s.heap [] := va_S.rf
  unfold fX6_size at hF
  refine lv_aload_n hx hb dX6_size_0 rfl (lv_at hl 0 rfl) ?_
  refine get_W C0 hK hP iwX6 k (wX_Sh hk) rfl 2 (by decide) mF_X6_19 rfl rfl dX6_size_1 ?_
  cases hF
  exact ret_Ri C0 trivial dX6_size_4
theorem pkX6_numberAt : pkV yX6_numberAt cX6_numberAt 2 (some .int) RX6 1 := ⟨mI_X6_numberAt, mS_X6_numberAt, mN_X6, mC_X6_numberAt, by decide +kernel⟩
def fX6_numberAt (k : Nat) (mem : Mem) (a1 : Int32) : Option (Int32) :=
  some (atF (mem (k + 1)) 12 a1)
set_option maxHeartbeats 4000000 in
set_option maxRecDepth 100000 in
theorem kX6_numberAt (l : Launch) (g : gG) (ad : Nat → Nat) (tk : Nat) (mem : Mem) (k : Nat) (hk : isSh k) (a1 : Int32) (r : Int32) (hF : fX6_numberAt k mem a1 = some r) : Met l yX6_numberAt (Cond.code yX6_numberAt cX6_numberAt 2 (some .int) :: gw) { frames := 2, cells := 0, slots := 0, locals := 37 } (pG (wX g ad mem) (eX g ad tk) g [.ref (ad k), .int a1]) (qR (some (.int r)) (True)) 0 0 noA := by
  refine met_of (by decide) (Nat.le_of_ble_eq_true rfl) ?_
  intro p e s m args below meth c ls C0 hP hl
  obtain ⟨hx, hb, hml, hown, hts, hr, hlk, hE⟩ := id C0
  obtain ⟨hK, hN, hA, hZ, hT, hTA⟩ := id hE
  have hl : lv_has ls 2 [(0, .ref (ad k)), (1, .int a1)] := hl
  have hS : va_S (AW 44 ad) s.heap s.heap [] := va_S.rf
  unfold fX6_numberAt at hF
  refine lv_aload_n hx hb dX6_numberAt_0 rfl (lv_at hl 0 rfl) ?_
  refine get_W C0 hK hP iwX6 k (wX_Sh hk) rfl 0 (by decide) mF_X6_9 rfl rfl dX6_numberAt_1 ?_
  refine lv_iload_n hx hb dX6_numberAt_4 rfl (lv_at hl 1 rfl) ?_
  refine at_W C0 hN hK hP (k + 1) (wX_Sh_1 hk) (by decide) nN_X6_22 ⟨Nat.le_of_ble_eq_true rfl, Nat.le_of_ble_eq_true rfl, Nat.le_of_ble_eq_true rfl, Nat.le_of_ble_eq_true rfl⟩ hl.1 (Nat.le_of_ble_eq_true rfl) dX6_numberAt_5 ?_
  cases hF
  exact ret_Ri C0 trivial dX6_numberAt_8
theorem pkX6_lay : pkV yX6_lay cX6_lay 4 (none) RX6 2 := ⟨mI_X6_lay, mS_X6_lay, mN_X6, mC_X6_lay, by decide +kernel⟩
def fX6_lay_20 (k : Nat) (z1 : Int32) (z2 : Int32) : Nat → Mem → Int32 → Option (Mem)
  | 0, _, _ => none
  | n + 1, mem, x3 =>
    if 12 ≤ x3 then (some mem) else (gI x3 12 (fX6_lay_20 k z1 z2 n (up2 mem (k + 1) x3.toNatClampNeg 0) (x3 + 1)))
set_option maxHeartbeats 4000000 in
set_option maxRecDepth 100000 in
theorem lpX6_lay_20 {p : Program} {l : Launch} {e : Env} {s : State} {m : MethodId} {args : Array Value} {below : List Frame} {meth : Method} {c : Code} (g : gG) (ad : Nat → Nat) (tk : Nat) (k : Nat) (hk : isSh k) (z1 : Int32) (z2 : Int32) (mem2 : Mem) (C0 : cxt (eX g ad tk) cX6_lay 4 RX6 (none) p s m args meth c) :
    ∀ (n : Nat) (mem : Mem) (x3 : Int32) (H : Heap) (locs : List Loc) (ls : Array Slot), fX6_lay_20 k z1 z2 n mem x3 = some mem2 → va_P g.1 vwCl (wX g ad mem) H → va_S (AW 44 ad) s.heap H locs → lv_has ls 4 [(0, .ref (ad k)), (1, .int z1), (2, .int z2), (3, .int x3)] → W p l e { frames := 1, cells := 0, slots := 0, locals := 24 } s m args below meth c H locs 0 0 (MQ below (qW (wX g ad mem2) g (AW 44 ad) (none) (True)) args s 0 0 (AW 44 ad)) (F0 m 20 ls []) := by
  obtain ⟨hx, hb, hml, hown, hts, hr, hlk, hE⟩ := id C0
  obtain ⟨hK, hN, hA, hZ, hT, hTA⟩ := id hE
  intro n
  induction n with
  | zero =>
    intro mem x3 H locs ls hF hP hS hl
    cases hF
  | succ n ih =>
    intro mem x3 H locs ls hF hP hS hl
    rw [fX6_lay_20] at hF
    refine lv_iload_n hx hb dX6_lay_20 rfl (lv_at hl 3 rfl) ?_
    refine lv_aload_n hx hb dX6_lay_21 rfl (lv_at hl 0 rfl) ?_
    refine get_W C0 hK hP iwX6 k (wX_Sh hk) rfl 0 (by decide) mF_X6_9 rfl rfl dX6_lay_22 ?_
    refine va_alen hx hb hK hP (k + 1) 0 (wX_Sh_1 hk) rfl (v := 12) rfl dX6_lay_25 ?_
    refine lv_icmp_ge (tgt := 42) hx hb dX6_lay_26 (by decide) (fun c2 => ?_) (fun c2 => ?_)
    · replace hF := (if_pos c2).symm.trans hF
      cases hF
      exact ret_Wv C0 hP hS trivial dX6_lay_42
    · replace hF := (if_neg c2).symm.trans hF
      refine lv_aload_n hx hb dX6_lay_29 rfl (lv_at hl 0 rfl) ?_
      refine get_W C0 hK hP iwX6 k (wX_Sh hk) rfl 0 (by decide) mF_X6_9 rfl rfl dX6_lay_30 ?_
      refine lv_iload_n hx hb dX6_lay_33 rfl (lv_at hl 3 rfl) ?_
      refine lv_iconst (v := 0) hx hb dX6_lay_34 (by decide) ?_
      obtain ⟨g3, hF⟩ := gI_some hF
      refine iast_W C0 hK hP (wX_D hA) hS (k + 1) (wX_Sh_1 hk) g3 (wX_Sh_s1 hk) dX6_lay_35 (fun H locs hP hS => ?_)
      refine lv_iinc (v := x3 + 1) (lv' := [(3, .int (x3 + 1)), (0, .ref (ad k)), (1, .int z1), (2, .int z2)]) hx hb dX6_lay_36 hl (k := 3) rfl rfl (by decide) rfl (fun ls hl => ?_)
      refine lv_goto (tgt := 20) hx hb dX6_lay_39 (by decide) ?_
      exact ih (up2 mem (k + 1) x3.toNatClampNeg 0) (x3 + 1) _ _ ls hF hP hS (lv_sub hl [1, 2, 3, 0] rfl)
def fX6_lay (k : Nat) (mem : Mem) (a1 : Int32) (a2 : Int32) : Option (Mem) :=
  if a1 = 0 then (fX6_lay_20 k a1 a2 fu (up2 (up2 mem k 1 a1) k 2 0) 0) else (fX6_lay_20 k a1 a2 fu (up2 (up2 mem k 1 a1) k 2 a2) 0)
set_option maxHeartbeats 4000000 in
set_option maxRecDepth 100000 in
theorem kX6_lay (l : Launch) (g : gG) (ad : Nat → Nat) (tk : Nat) (mem : Mem) (k : Nat) (hk : isSh k) (a1 : Int32) (a2 : Int32) (mem2 : Mem) (hF : fX6_lay k mem a1 a2 = some mem2) : Met l yX6_lay (Cond.code yX6_lay cX6_lay 4 (none) :: gw) { frames := 1, cells := 0, slots := 0, locals := 24 } (pG (wX g ad mem) (eX g ad tk) g [.ref (ad k), .int a1, .int a2]) (qW (wX g ad mem2) g (AW 44 ad) (none) (True)) 0 0 (AW 44 ad) := by
  refine met_of (by decide) (Nat.le_of_ble_eq_true rfl) ?_
  intro p e s m args below meth c ls C0 hP hl
  obtain ⟨hx, hb, hml, hown, hts, hr, hlk, hE⟩ := id C0
  obtain ⟨hK, hN, hA, hZ, hT, hTA⟩ := id hE
  have hl : lv_has ls 4 [(0, .ref (ad k)), (1, .int a1), (2, .int a2)] := hl
  have hS : va_S (AW 44 ad) s.heap s.heap [] := va_S.rf
  unfold fX6_lay at hF
  refine lv_aload_n hx hb dX6_lay_0 rfl (lv_at hl 0 rfl) ?_
  refine lv_iload_n hx hb dX6_lay_1 rfl (lv_at hl 1 rfl) ?_
  refine put_W (k := 1) C0 hK hP (wX_D hA) hS iwX6 tyX6_ok nmX6 k (wX_Sh hk) rfl (by decide) mF_X6_15 rfl rfl rfl rfl (Nat.le_of_ble_eq_true rfl) (wX_Sh_s_1 hk) dX6_lay_2 (fun H locs hP hS => ?_)
  refine lv_aload_n hx hb dX6_lay_5 rfl (lv_at hl 0 rfl) ?_
  refine lv_iload_n hx hb dX6_lay_6 rfl (lv_at hl 1 rfl) ?_
  refine lv_if_ne (tgt := 14) hx hb dX6_lay_7 (by decide) (fun c1 => ?_) (fun c1 => ?_)
  · replace hF := (if_neg c1).symm.trans hF
    refine lv_iload_n hx hb dX6_lay_14 rfl (lv_at hl 2 rfl) ?_
    refine put_W (k := 2) C0 hK hP (wX_D hA) hS iwX6 tyX6_ok nmX6 k (wX_Sh hk) rfl (by decide) mF_X6_19 rfl rfl rfl rfl (Nat.le_of_ble_eq_true rfl) (wX_Sh_s_2 hk) dX6_lay_15 (fun H locs hP hS => ?_)
    refine lv_iconst (v := 0) hx hb dX6_lay_18 (by decide) ?_
    refine lv_istore_n (lv' := [(3, .int 0), (0, .ref (ad k)), (1, .int a1), (2, .int a2)]) hx hb dX6_lay_19 rfl hl (by decide) rfl (fun ls hl => ?_)
    exact lpX6_lay_20 g ad tk k hk a1 a2 mem2 C0 fu (up2 (up2 mem k 1 a1) k 2 a2) 0 _ _ ls hF hP hS (lv_sub hl [1, 2, 3, 0] rfl)
  · replace hF := (if_pos c1).symm.trans hF
    refine lv_iconst (v := 0) hx hb dX6_lay_10 (by decide) ?_
    refine lv_goto (tgt := 15) hx hb dX6_lay_11 (by decide) ?_
    refine put_W (k := 2) C0 hK hP (wX_D hA) hS iwX6 tyX6_ok nmX6 k (wX_Sh hk) rfl (by decide) mF_X6_19 rfl rfl rfl rfl (Nat.le_of_ble_eq_true rfl) (wX_Sh_s_2 hk) dX6_lay_15 (fun H locs hP hS => ?_)
    refine lv_iconst (v := 0) hx hb dX6_lay_18 (by decide) ?_
    refine lv_istore_n (lv' := [(3, .int 0), (0, .ref (ad k)), (1, .int a1), (2, .int a2)]) hx hb dX6_lay_19 rfl hl (by decide) rfl (fun ls hl => ?_)
    exact lpX6_lay_20 g ad tk k hk a1 a2 mem2 C0 fu (up2 (up2 mem k 1 a1) k 2 0) 0 _ _ ls hF hP hS (lv_sub hl [1, 2, 3, 0] rfl)
theorem pkX6_lowestBits : pkV yX6_lowestBits cX6_lowestBits 2 (some .int) RX6 1 := ⟨mI_X6_lowestBits, mS_X6_lowestBits, mN_X6, mC_X6_lowestBits, by decide +kernel⟩
def fX6_lowestBits (k : Nat) (mem : Mem) (a1 : Int32) : Option (Int32) :=
  if mem k 1 = 8 then (some (a1 &&& 255)) else (if mem k 1 = 16 then (some (a1 &&& 65535)) else (some a1))
set_option maxHeartbeats 4000000 in
set_option maxRecDepth 100000 in
theorem kX6_lowestBits (l : Launch) (g : gG) (ad : Nat → Nat) (tk : Nat) (mem : Mem) (k : Nat) (hk : isSh k) (a1 : Int32) (r : Int32) (hF : fX6_lowestBits k mem a1 = some r) : Met l yX6_lowestBits (Cond.code yX6_lowestBits cX6_lowestBits 2 (some .int) :: gw) { frames := 1, cells := 0, slots := 0, locals := 24 } (pG (wX g ad mem) (eX g ad tk) g [.ref (ad k), .int a1]) (qR (some (.int r)) (True)) 0 0 noA := by
  refine met_of (by decide) (Nat.le_of_ble_eq_true rfl) ?_
  intro p e s m args below meth c ls C0 hP hl
  obtain ⟨hx, hb, hml, hown, hts, hr, hlk, hE⟩ := id C0
  obtain ⟨hK, hN, hA, hZ, hT, hTA⟩ := id hE
  have hl : lv_has ls 2 [(0, .ref (ad k)), (1, .int a1)] := hl
  have hS : va_S (AW 44 ad) s.heap s.heap [] := va_S.rf
  unfold fX6_lowestBits at hF
  refine lv_aload_n hx hb dX6_lowestBits_0 rfl (lv_at hl 0 rfl) ?_
  refine get_W C0 hK hP iwX6 k (wX_Sh hk) rfl 1 (by decide) mF_X6_15 rfl rfl dX6_lowestBits_1 ?_
  by_cases c1 : mem k 1 = 8
  · replace hF := (if_pos c1).symm.trans hF
    refine lv_lookup (off := 28) (tgt := 32) hx hb dX6_lowestBits_4 (by decide) (by rw [c1]; rfl) (by decide) ?_
    refine lv_iload_n hx hb dX6_lowestBits_32 rfl (lv_at hl 1 rfl) ?_
    refine lv_sipush (v := 255) hx hb dX6_lowestBits_33 (by decide) ?_
    refine lv_iand hx hb dX6_lowestBits_36 ?_
    cases hF
    exact ret_Ri C0 trivial dX6_lowestBits_37
  replace hF := (if_neg c1).symm.trans hF
  by_cases c2 : mem k 1 = 16
  · replace hF := (if_pos c2).symm.trans hF
    refine lv_lookup (off := 34) (tgt := 38) hx hb dX6_lowestBits_4 (by decide) (by rw [c2]; rfl) (by decide) ?_
    refine lv_iload_n hx hb dX6_lowestBits_38 rfl (lv_at hl 1 rfl) ?_
    refine lv_ldc hx hb hown (hts _ mK_X6_34) dX6_lowestBits_39 ?_
    refine lv_iand hx hb dX6_lowestBits_41 ?_
    cases hF
    exact ret_Ri C0 trivial dX6_lowestBits_42
  replace hF := (if_neg c2).symm.trans hF
  refine lv_lookup (off := 39) (tgt := 43) hx hb dX6_lowestBits_4 (by decide) (by rw [show (#[(8, 28), (16, 34)] : Array (Int × Int)).toList = [(8, 28), (16, 34)] from rfl, lv_osw c1 (a := 8) (by decide), lv_osw c2 (a := 16) (by decide)]; rfl) (by decide) ?_
  refine lv_iload_n hx hb dX6_lowestBits_43 rfl (lv_at hl 1 rfl) ?_
  cases hF
  exact ret_Ri C0 trivial dX6_lowestBits_44
theorem pkX6_store : pkV yX6_store cX6_store 3 (none) RX6 2 := ⟨mI_X6_store, mS_X6_store, mN_X6, mC_X6_store, by decide +kernel⟩
def fX6_store (k : Nat) (mem : Mem) (a1 : Int32) (a2 : Int32) : Option (Mem) :=
  ob1 (fX6_lowestBits k mem a2) (fun r2 => some (upc mem (k + 1) (setF (mem (k + 1)) 12 a1 r2)))
set_option maxHeartbeats 4000000 in
set_option maxRecDepth 100000 in
theorem kX6_store (l : Launch) (g : gG) (ad : Nat → Nat) (tk : Nat) (mem : Mem) (k : Nat) (hk : isSh k) (a1 : Int32) (a2 : Int32) (mem2 : Mem) (hF : fX6_store k mem a1 a2 = some mem2) : Met l yX6_store (Cond.code yX6_store cX6_store 3 (none) :: gw) { frames := 2, cells := 0, slots := 0, locals := 45 } (pG (wX g ad mem) (eX g ad tk) g [.ref (ad k), .int a1, .int a2]) (qW (wX g ad mem2) g (AW 44 ad) (none) (True)) 0 0 (AW 44 ad) := by
  refine met_of (by decide) (Nat.le_of_ble_eq_true rfl) ?_
  intro p e s m args below meth c ls C0 hP hl
  obtain ⟨hx, hb, hml, hown, hts, hr, hlk, hE⟩ := id C0
  obtain ⟨hK, hN, hA, hZ, hT, hTA⟩ := id hE
  have hl : lv_has ls 3 [(0, .ref (ad k)), (1, .int a1), (2, .int a2)] := hl
  have hS : va_S (AW 44 ad) s.heap s.heap [] := va_S.rf
  unfold fX6_store at hF
  refine lv_aload_n hx hb dX6_store_0 rfl (lv_at hl 0 rfl) ?_
  refine get_W C0 hK hP iwX6 k (wX_Sh hk) rfl 0 (by decide) mF_X6_9 rfl rfl dX6_store_1 ?_
  refine lv_iload_n hx hb dX6_store_4 rfl (lv_at hl 1 rfl) ?_
  refine lv_aload_n hx hb dX6_store_5 rfl (lv_at hl 0 rfl) ?_
  refine lv_iload_n hx hb dX6_store_6 rfl (lv_at hl 2 rfl) ?_
  obtain ⟨r2, h1, hF⟩ := ob_some hF
  refine cV_Ri C0 eX_st hP hS hK pkX6_lowestBits (As := [.int a2]) (rest := [.int a1, .ref (ad (k + 1))]) (kX6_lowestBits l g ad tk mem k hk a2 r2 h1) mL_X6_26 ⟨rfl, rfl, Nat.le_of_ble_eq_true rfl, Nat.le_of_ble_eq_true rfl, Nat.le_of_ble_eq_true rfl, Nat.le_of_ble_eq_true rfl⟩ k (wX_Sh hk) rfl rfl rfl hl.1 rfl (Nat.le_of_ble_eq_true rfl) dX6_store_7 (fun _ => ?_)
  refine set_W C0 hN hK hP (wX_D hA) hS (k + 1) (wX_Sh_1 hk) (by decide) (wX_Sh_s1 hk) nN_X6_30 ⟨Nat.le_of_ble_eq_true rfl, Nat.le_of_ble_eq_true rfl, Nat.le_of_ble_eq_true rfl, Nat.le_of_ble_eq_true rfl⟩ hl.1 (Nat.le_of_ble_eq_true rfl) dX6_store_10 (fun H locs hP hS => ?_)
  cases hF
  exact ret_Wv C0 hP hS trivial dX6_store_13
theorem pkX6_spans : pkV yX6_spans cX6_spans 3 (some .boolean) RX6 2 := ⟨mI_X6_spans, mS_X6_spans, mN_X6, mC_X6_spans, by decide +kernel⟩
def fX6_spans (k : Nat) (mem : Mem) (a1 : Int32) (a2 : Int32) : Option (Int32) :=
  if a1 < 0 then (some 0) else (if a2 < 0 then (some 0) else (if (mem k 2) - a2 < a1 then (some 0) else (some 1)))
set_option maxHeartbeats 4000000 in
set_option maxRecDepth 100000 in
theorem kX6_spans (l : Launch) (g : gG) (ad : Nat → Nat) (tk : Nat) (mem : Mem) (k : Nat) (hk : isSh k) (a1 : Int32) (a2 : Int32) (r : Int32) (hF : fX6_spans k mem a1 a2 = some r) : Met l yX6_spans (Cond.code yX6_spans cX6_spans 3 (some .boolean) :: gw) { frames := 1, cells := 0, slots := 0, locals := 24 } (pG (wX g ad mem) (eX g ad tk) g [.ref (ad k), .int a1, .int a2]) (qR (some (.int r)) (isB r)) 0 0 noA := by
  refine met_of (by decide) (Nat.le_of_ble_eq_true rfl) ?_
  intro p e s m args below meth c ls C0 hP hl
  obtain ⟨hx, hb, hml, hown, hts, hr, hlk, hE⟩ := id C0
  obtain ⟨hK, hN, hA, hZ, hT, hTA⟩ := id hE
  have hl : lv_has ls 3 [(0, .ref (ad k)), (1, .int a1), (2, .int a2)] := hl
  have hS : va_S (AW 44 ad) s.heap s.heap [] := va_S.rf
  unfold fX6_spans at hF
  refine lv_iload_n hx hb dX6_spans_0 rfl (lv_at hl 1 rfl) ?_
  refine lv_if_lt (tgt := 22) hx hb dX6_spans_1 (by decide) (fun c1 => ?_) (fun c1 => ?_)
  · replace hF := (if_pos c1).symm.trans hF
    refine lv_iconst (v := 0) hx hb dX6_spans_22 (by decide) ?_
    cases hF
    exact ret_Rz C0 (Or.inl rfl) (Or.inl rfl) dX6_spans_23
  · replace hF := (if_neg c1).symm.trans hF
    refine lv_iload_n hx hb dX6_spans_4 rfl (lv_at hl 2 rfl) ?_
    refine lv_if_lt (tgt := 22) hx hb dX6_spans_5 (by decide) (fun c2 => ?_) (fun c2 => ?_)
    · replace hF := (if_pos c2).symm.trans hF
      refine lv_iconst (v := 0) hx hb dX6_spans_22 (by decide) ?_
      cases hF
      exact ret_Rz C0 (Or.inl rfl) (Or.inl rfl) dX6_spans_23
    · replace hF := (if_neg c2).symm.trans hF
      refine lv_iload_n hx hb dX6_spans_8 rfl (lv_at hl 1 rfl) ?_
      refine lv_aload_n hx hb dX6_spans_9 rfl (lv_at hl 0 rfl) ?_
      refine get_W C0 hK hP iwX6 k (wX_Sh hk) rfl 2 (by decide) mF_X6_19 rfl rfl dX6_spans_10 ?_
      refine lv_iload_n hx hb dX6_spans_13 rfl (lv_at hl 2 rfl) ?_
      refine lv_isub hx hb dX6_spans_14 ?_
      refine lv_icmp_gt (tgt := 22) hx hb dX6_spans_15 (by decide) (fun c3 => ?_) (fun c3 => ?_)
      · replace hF := (if_pos c3).symm.trans hF
        refine lv_iconst (v := 0) hx hb dX6_spans_22 (by decide) ?_
        cases hF
        exact ret_Rz C0 (Or.inl rfl) (Or.inl rfl) dX6_spans_23
      · replace hF := (if_neg c3).symm.trans hF
        refine lv_iconst (v := 1) hx hb dX6_spans_18 (by decide) ?_
        refine lv_goto (tgt := 23) hx hb dX6_spans_19 (by decide) ?_
        cases hF
        exact ret_Rz C0 (Or.inr rfl) (Or.inr rfl) dX6_spans_23
theorem pkX6_take : pkV yX6_take cX6_take 6 (none) RX6 4 := ⟨mI_X6_take, mS_X6_take, mN_X6, mC_X6_take, by decide +kernel⟩
def fX6_take_47 (k : Nat) (k2 : Nat) (z1 : Int32) (z3 : Int32) (z4 : Int32) : Nat → Mem → Int32 → Option (Mem)
  | 0, _, _ => none
  | n + 1, mem, x5 =>
    if z4 ≤ x5 then (some mem) else (ob1 (fX6_numberAt k2 mem (z3 + x5)) (fun r4 => fX6_take_47 k k2 z1 z3 z4 n (upc mem (k + 1) (setF (mem (k + 1)) 12 (z1 + x5) r4)) (x5 + 1)))
set_option maxHeartbeats 4000000 in
set_option maxRecDepth 100000 in
theorem lpX6_take_47 {p : Program} {l : Launch} {e : Env} {s : State} {m : MethodId} {args : Array Value} {below : List Frame} {meth : Method} {c : Code} (g : gG) (ad : Nat → Nat) (tk : Nat) (k : Nat) (hk : isSh k) (k2 : Nat) (hk2 : isSh k2) (z1 : Int32) (z3 : Int32) (z4 : Int32) (mem2 : Mem) (C0 : cxt (eX g ad tk) cX6_take 6 RX6 (none) p s m args meth c) :
    ∀ (n : Nat) (mem : Mem) (x5 : Int32) (H : Heap) (locs : List Loc) (ls : Array Slot), fX6_take_47 k k2 z1 z3 z4 n mem x5 = some mem2 → va_P g.1 vwCl (wX g ad mem) H → va_S (AW 44 ad) s.heap H locs → lv_has ls 6 [(0, .ref (ad k)), (1, .int z1), (2, .ref (ad k2)), (3, .int z3), (4, .int z4), (5, .int x5)] → W p l e { frames := 3, cells := 0, slots := 0, locals := 58 } s m args below meth c H locs 0 0 (MQ below (qW (wX g ad mem2) g (AW 44 ad) (none) (True)) args s 0 0 (AW 44 ad)) (F0 m 47 ls []) := by
  obtain ⟨hx, hb, hml, hown, hts, hr, hlk, hE⟩ := id C0
  obtain ⟨hK, hN, hA, hZ, hT, hTA⟩ := id hE
  intro n
  induction n with
  | zero =>
    intro mem x5 H locs ls hF hP hS hl
    cases hF
  | succ n ih =>
    intro mem x5 H locs ls hF hP hS hl
    rw [fX6_take_47] at hF
    refine lv_iload hx hb dX6_take_47 (lv_at hl 5 rfl) ?_
    refine lv_iload hx hb dX6_take_49 (lv_at hl 4 rfl) ?_
    refine lv_icmp_ge (tgt := 79) hx hb dX6_take_51 (by decide) (fun c2 => ?_) (fun c2 => ?_)
    · replace hF := (if_pos c2).symm.trans hF
      cases hF
      exact ret_Wv C0 hP hS trivial dX6_take_79
    · replace hF := (if_neg c2).symm.trans hF
      refine lv_aload_n hx hb dX6_take_54 rfl (lv_at hl 0 rfl) ?_
      refine get_W C0 hK hP iwX6 k (wX_Sh hk) rfl 0 (by decide) mF_X6_9 rfl rfl dX6_take_55 ?_
      refine lv_iload_n hx hb dX6_take_58 rfl (lv_at hl 1 rfl) ?_
      refine lv_iload hx hb dX6_take_59 (lv_at hl 5 rfl) ?_
      refine lv_iadd hx hb dX6_take_61 ?_
      refine lv_aload_n hx hb dX6_take_62 rfl (lv_at hl 2 rfl) ?_
      refine lv_iload_n hx hb dX6_take_63 rfl (lv_at hl 3 rfl) ?_
      refine lv_iload hx hb dX6_take_64 (lv_at hl 5 rfl) ?_
      refine lv_iadd hx hb dX6_take_66 ?_
      obtain ⟨r4, h3, hF⟩ := ob_some hF
      refine cV_Ri C0 eX_st hP hS hK pkX6_numberAt (As := [.int (z3 + x5)]) (rest := [.int (z1 + x5), .ref (ad (k + 1))]) (kX6_numberAt l g ad tk mem k2 hk2 (z3 + x5) r4 h3) mL_X6_35 ⟨rfl, rfl, Nat.le_of_ble_eq_true rfl, Nat.le_of_ble_eq_true rfl, Nat.le_of_ble_eq_true rfl, Nat.le_of_ble_eq_true rfl⟩ k2 (wX_Sh hk2) rfl rfl rfl hl.1 rfl (Nat.le_of_ble_eq_true rfl) dX6_take_67 (fun _ => ?_)
      refine set_W C0 hN hK hP (wX_D hA) hS (k + 1) (wX_Sh_1 hk) (by decide) (wX_Sh_s1 hk) nN_X6_30 ⟨Nat.le_of_ble_eq_true rfl, Nat.le_of_ble_eq_true rfl, Nat.le_of_ble_eq_true rfl, Nat.le_of_ble_eq_true rfl⟩ hl.1 (Nat.le_of_ble_eq_true rfl) dX6_take_70 (fun H locs hP hS => ?_)
      refine lv_iinc (v := x5 + 1) (lv' := [(5, .int (x5 + 1)), (0, .ref (ad k)), (1, .int z1), (2, .ref (ad k2)), (3, .int z3), (4, .int z4)]) hx hb dX6_take_73 hl (k := 5) rfl rfl (by decide) rfl (fun ls hl => ?_)
      refine lv_goto (tgt := 47) hx hb dX6_take_76 (by decide) ?_
      exact ih (upc mem (k + 1) (setF (mem (k + 1)) 12 (z1 + x5) r4)) (x5 + 1) _ _ ls hF hP hS (lv_sub hl [1, 2, 3, 4, 5, 0] rfl)
def fX6_take_11 (k : Nat) (k2 : Nat) (z1 : Int32) (z3 : Int32) (z4 : Int32) : Nat → Mem → Int32 → Option (Mem)
  | 0, _, _ => none
  | n + 1, mem, x5 =>
    if x5 < 0 then (some mem) else (ob1 (fX6_numberAt k2 mem (z3 + x5)) (fun r7 => fX6_take_11 k k2 z1 z3 z4 n (upc mem (k + 1) (setF (mem (k + 1)) 12 (z1 + x5) r7)) (x5 + (-1))))
set_option maxHeartbeats 4000000 in
set_option maxRecDepth 100000 in
theorem lpX6_take_11 {p : Program} {l : Launch} {e : Env} {s : State} {m : MethodId} {args : Array Value} {below : List Frame} {meth : Method} {c : Code} (g : gG) (ad : Nat → Nat) (tk : Nat) (k : Nat) (hk : isSh k) (k2 : Nat) (hk2 : isSh k2) (z1 : Int32) (z3 : Int32) (z4 : Int32) (mem2 : Mem) (C0 : cxt (eX g ad tk) cX6_take 6 RX6 (none) p s m args meth c) :
    ∀ (n : Nat) (mem : Mem) (x5 : Int32) (H : Heap) (locs : List Loc) (ls : Array Slot), fX6_take_11 k k2 z1 z3 z4 n mem x5 = some mem2 → va_P g.1 vwCl (wX g ad mem) H → va_S (AW 44 ad) s.heap H locs → lv_has ls 6 [(0, .ref (ad k)), (1, .int z1), (2, .ref (ad k2)), (3, .int z3), (4, .int z4), (5, .int x5)] → W p l e { frames := 3, cells := 0, slots := 0, locals := 58 } s m args below meth c H locs 0 0 (MQ below (qW (wX g ad mem2) g (AW 44 ad) (none) (True)) args s 0 0 (AW 44 ad)) (F0 m 11 ls []) := by
  obtain ⟨hx, hb, hml, hown, hts, hr, hlk, hE⟩ := id C0
  obtain ⟨hK, hN, hA, hZ, hT, hTA⟩ := id hE
  intro n
  induction n with
  | zero =>
    intro mem x5 H locs ls hF hP hS hl
    cases hF
  | succ n ih =>
    intro mem x5 H locs ls hF hP hS hl
    rw [fX6_take_11] at hF
    refine lv_iload hx hb dX6_take_11 (lv_at hl 5 rfl) ?_
    refine lv_if_lt (tgt := 41) hx hb dX6_take_13 (by decide) (fun c5 => ?_) (fun c5 => ?_)
    · replace hF := (if_pos c5).symm.trans hF
      refine lv_goto (tgt := 79) hx hb dX6_take_41 (by decide) ?_
      cases hF
      exact ret_Wv C0 hP hS trivial dX6_take_79
    · replace hF := (if_neg c5).symm.trans hF
      refine lv_aload_n hx hb dX6_take_16 rfl (lv_at hl 0 rfl) ?_
      refine get_W C0 hK hP iwX6 k (wX_Sh hk) rfl 0 (by decide) mF_X6_9 rfl rfl dX6_take_17 ?_
      refine lv_iload_n hx hb dX6_take_20 rfl (lv_at hl 1 rfl) ?_
      refine lv_iload hx hb dX6_take_21 (lv_at hl 5 rfl) ?_
      refine lv_iadd hx hb dX6_take_23 ?_
      refine lv_aload_n hx hb dX6_take_24 rfl (lv_at hl 2 rfl) ?_
      refine lv_iload_n hx hb dX6_take_25 rfl (lv_at hl 3 rfl) ?_
      refine lv_iload hx hb dX6_take_26 (lv_at hl 5 rfl) ?_
      refine lv_iadd hx hb dX6_take_28 ?_
      obtain ⟨r7, h6, hF⟩ := ob_some hF
      refine cV_Ri C0 eX_st hP hS hK pkX6_numberAt (As := [.int (z3 + x5)]) (rest := [.int (z1 + x5), .ref (ad (k + 1))]) (kX6_numberAt l g ad tk mem k2 hk2 (z3 + x5) r7 h6) mL_X6_35 ⟨rfl, rfl, Nat.le_of_ble_eq_true rfl, Nat.le_of_ble_eq_true rfl, Nat.le_of_ble_eq_true rfl, Nat.le_of_ble_eq_true rfl⟩ k2 (wX_Sh hk2) rfl rfl rfl hl.1 rfl (Nat.le_of_ble_eq_true rfl) dX6_take_29 (fun _ => ?_)
      refine set_W C0 hN hK hP (wX_D hA) hS (k + 1) (wX_Sh_1 hk) (by decide) (wX_Sh_s1 hk) nN_X6_30 ⟨Nat.le_of_ble_eq_true rfl, Nat.le_of_ble_eq_true rfl, Nat.le_of_ble_eq_true rfl, Nat.le_of_ble_eq_true rfl⟩ hl.1 (Nat.le_of_ble_eq_true rfl) dX6_take_32 (fun H locs hP hS => ?_)
      refine lv_iinc (v := x5 + (-1)) (lv' := [(5, .int (x5 + (-1))), (0, .ref (ad k)), (1, .int z1), (2, .ref (ad k2)), (3, .int z3), (4, .int z4)]) hx hb dX6_take_35 hl (k := 5) rfl rfl (by decide) rfl (fun ls hl => ?_)
      refine lv_goto (tgt := 11) hx hb dX6_take_38 (by decide) ?_
      exact ih (upc mem (k + 1) (setF (mem (k + 1)) 12 (z1 + x5) r7)) (x5 + (-1)) _ _ ls hF hP hS (lv_sub hl [1, 2, 3, 4, 5, 0] rfl)
def fX6_take (k : Nat) (k2 : Nat) (mem : Mem) (a1 : Int32) (a3 : Int32) (a4 : Int32) : Option (Mem) :=
  if a1 ≤ a3 then (fX6_take_47 k k2 a1 a3 a4 fu mem 0) else (fX6_take_11 k k2 a1 a3 a4 fu mem (a4 - 1))
set_option maxHeartbeats 4000000 in
set_option maxRecDepth 100000 in
theorem kX6_take (l : Launch) (g : gG) (ad : Nat → Nat) (tk : Nat) (mem : Mem) (k : Nat) (hk : isSh k) (k2 : Nat) (hk2 : isSh k2) (a1 : Int32) (a3 : Int32) (a4 : Int32) (mem2 : Mem) (hF : fX6_take k k2 mem a1 a3 a4 = some mem2) : Met l yX6_take (Cond.code yX6_take cX6_take 6 (none) :: gw) { frames := 3, cells := 0, slots := 0, locals := 58 } (pG (wX g ad mem) (eX g ad tk) g [.ref (ad k), .int a1, .ref (ad k2), .int a3, .int a4]) (qW (wX g ad mem2) g (AW 44 ad) (none) (True)) 0 0 (AW 44 ad) := by
  refine met_of (by decide) (Nat.le_of_ble_eq_true rfl) ?_
  intro p e s m args below meth c ls C0 hP hl
  obtain ⟨hx, hb, hml, hown, hts, hr, hlk, hE⟩ := id C0
  obtain ⟨hK, hN, hA, hZ, hT, hTA⟩ := id hE
  have hl : lv_has ls 6 [(0, .ref (ad k)), (1, .int a1), (2, .ref (ad k2)), (3, .int a3), (4, .int a4)] := hl
  have hS : va_S (AW 44 ad) s.heap s.heap [] := va_S.rf
  unfold fX6_take at hF
  refine lv_iload_n hx hb dX6_take_0 rfl (lv_at hl 3 rfl) ?_
  refine lv_iload_n hx hb dX6_take_1 rfl (lv_at hl 1 rfl) ?_
  refine lv_icmp_ge (tgt := 44) hx hb dX6_take_2 (by decide) (fun c1 => ?_) (fun c1 => ?_)
  · replace hF := (if_pos c1).symm.trans hF
    refine lv_iconst (v := 0) hx hb dX6_take_44 (by decide) ?_
    refine lv_istore (lv' := [(5, .int 0), (0, .ref (ad k)), (1, .int a1), (2, .ref (ad k2)), (3, .int a3), (4, .int a4)]) hx hb dX6_take_45 hl (by decide) rfl (fun ls hl => ?_)
    exact lpX6_take_47 g ad tk k hk k2 hk2 a1 a3 a4 mem2 C0 fu mem 0 _ _ ls hF hP hS (lv_sub hl [1, 2, 3, 4, 5, 0] rfl)
  · replace hF := (if_neg c1).symm.trans hF
    refine lv_iload hx hb dX6_take_5 (lv_at hl 4 rfl) ?_
    refine lv_iconst (v := 1) hx hb dX6_take_7 (by decide) ?_
    refine lv_isub hx hb dX6_take_8 ?_
    refine lv_istore (lv' := [(5, .int (a4 - 1)), (0, .ref (ad k)), (1, .int a1), (2, .ref (ad k2)), (3, .int a3), (4, .int a4)]) hx hb dX6_take_9 hl (by decide) rfl (fun ls hl => ?_)
    exact lpX6_take_11 g ad tk k hk k2 hk2 a1 a3 a4 mem2 C0 fu mem (a4 - 1) _ _ ls hF hP hS (lv_sub hl [1, 2, 3, 4, 5, 0] rfl)
theorem pkX6_lengthToZero : pkV yX6_lengthToZero cX6_lengthToZero 2 (some .int) RX6 0 := ⟨mI_X6_lengthToZero, mS_X6_lengthToZero, mN_X6, mC_X6_lengthToZero, by decide +kernel⟩
def fX6_lengthToZero_2 (k : Nat) (mem : Mem) : Nat → Int32 → Option (Int32)
  | 0, _ => none
  | n + 1, x1 =>
    if mem k 2 ≤ x1 then (some (mem k 2)) else (ob1 (fX6_numberAt k mem x1) (fun r3 => if r3 = 0 then (some x1) else (fX6_lengthToZero_2 k mem n (x1 + 1))))
set_option maxHeartbeats 4000000 in
set_option maxRecDepth 100000 in
theorem lpX6_lengthToZero_2 {p : Program} {l : Launch} {e : Env} {s : State} {m : MethodId} {args : Array Value} {below : List Frame} {meth : Method} {c : Code} (g : gG) (ad : Nat → Nat) (tk : Nat) (k : Nat) (hk : isSh k) (mem : Mem) (r : Int32) (C0 : cxt (eX g ad tk) cX6_lengthToZero 2 RX6 (some .int) p s m args meth c) (hP : va_P g.1 vwCl (wX g ad mem) s.heap) :
    ∀ (n : Nat) (x1 : Int32) (ls : Array Slot), fX6_lengthToZero_2 k mem n x1 = some r → lv_has ls 2 [(0, .ref (ad k)), (1, .int x1)] → W p l e { frames := 3, cells := 0, slots := 0, locals := 58 } s m args below meth c s.heap [] 0 0 (MQ below (qR (some (.int r)) (True)) args s 0 0 noA) (F0 m 2 ls []) := by
  obtain ⟨hx, hb, hml, hown, hts, hr, hlk, hE⟩ := id C0
  obtain ⟨hK, hN, hA, hZ, hT, hTA⟩ := id hE
  intro n
  induction n with
  | zero =>
    intro x1 ls hF hl
    cases hF
  | succ n ih =>
    intro x1 ls hF hl
    rw [fX6_lengthToZero_2] at hF
    have hS : va_S (AW 44 ad) s.heap s.heap [] := va_S.rf
    refine lv_iload_n hx hb dX6_lengthToZero_2 rfl (lv_at hl 1 rfl) ?_
    refine lv_aload_n hx hb dX6_lengthToZero_3 rfl (lv_at hl 0 rfl) ?_
    refine get_W C0 hK hP iwX6 k (wX_Sh hk) rfl 2 (by decide) mF_X6_19 rfl rfl dX6_lengthToZero_4 ?_
    refine lv_icmp_ge (tgt := 26) hx hb dX6_lengthToZero_7 (by decide) (fun c1 => ?_) (fun c1 => ?_)
    · replace hF := (if_pos c1).symm.trans hF
      refine lv_aload_n hx hb dX6_lengthToZero_26 rfl (lv_at hl 0 rfl) ?_
      refine get_W C0 hK hP iwX6 k (wX_Sh hk) rfl 2 (by decide) mF_X6_19 rfl rfl dX6_lengthToZero_27 ?_
      cases hF
      exact ret_Ri C0 trivial dX6_lengthToZero_30
    · replace hF := (if_neg c1).symm.trans hF
      refine lv_aload_n hx hb dX6_lengthToZero_10 rfl (lv_at hl 0 rfl) ?_
      refine lv_iload_n hx hb dX6_lengthToZero_11 rfl (lv_at hl 1 rfl) ?_
      obtain ⟨r3, h2, hF⟩ := ob_some hF
      refine cV_Ri C0 eX_st hP hS hK pkX6_numberAt (As := [.int x1]) (rest := []) (kX6_numberAt l g ad tk mem k hk x1 r3 h2) mL_X6_35 ⟨rfl, rfl, Nat.le_of_ble_eq_true rfl, Nat.le_of_ble_eq_true rfl, Nat.le_of_ble_eq_true rfl, Nat.le_of_ble_eq_true rfl⟩ k (wX_Sh hk) rfl rfl rfl hl.1 rfl (Nat.le_of_ble_eq_true rfl) dX6_lengthToZero_12 (fun _ => ?_)
      refine lv_if_ne (tgt := 20) hx hb dX6_lengthToZero_15 (by decide) (fun c4 => ?_) (fun c4 => ?_)
      · replace hF := (if_neg c4).symm.trans hF
        refine lv_iinc (v := x1 + 1) (lv' := [(1, .int (x1 + 1)), (0, .ref (ad k))]) hx hb dX6_lengthToZero_20 hl (k := 1) rfl rfl (by decide) rfl (fun ls hl => ?_)
        refine lv_goto (tgt := 2) hx hb dX6_lengthToZero_23 (by decide) ?_
        exact ih (x1 + 1) ls hF (lv_sub hl [1, 0] rfl)
      · replace hF := (if_pos c4).symm.trans hF
        refine lv_iload_n hx hb dX6_lengthToZero_18 rfl (lv_at hl 1 rfl) ?_
        cases hF
        exact ret_Ri C0 trivial dX6_lengthToZero_19
def fX6_lengthToZero (k : Nat) (mem : Mem) : Option (Int32) :=
  fX6_lengthToZero_2 k mem fu 0
set_option maxHeartbeats 4000000 in
set_option maxRecDepth 100000 in
theorem kX6_lengthToZero (l : Launch) (g : gG) (ad : Nat → Nat) (tk : Nat) (mem : Mem) (k : Nat) (hk : isSh k) (r : Int32) (hF : fX6_lengthToZero k mem = some r) : Met l yX6_lengthToZero (Cond.code yX6_lengthToZero cX6_lengthToZero 2 (some .int) :: gw) { frames := 3, cells := 0, slots := 0, locals := 58 } (pG (wX g ad mem) (eX g ad tk) g [.ref (ad k)]) (qR (some (.int r)) (True)) 0 0 noA := by
  refine met_of (by decide) (Nat.le_of_ble_eq_true rfl) ?_
  intro p e s m args below meth c ls C0 hP hl
  obtain ⟨hx, hb, hml, hown, hts, hr, hlk, hE⟩ := id C0
  obtain ⟨hK, hN, hA, hZ, hT, hTA⟩ := id hE
  have hl : lv_has ls 2 [(0, .ref (ad k))] := hl
  have hS : va_S (AW 44 ad) s.heap s.heap [] := va_S.rf
  unfold fX6_lengthToZero at hF
  refine lv_iconst (v := 0) hx hb dX6_lengthToZero_0 (by decide) ?_
  refine lv_istore_n (lv' := [(1, .int 0), (0, .ref (ad k))]) hx hb dX6_lengthToZero_1 rfl hl (by decide) rfl (fun ls hl => ?_)
  exact lpX6_lengthToZero_2 g ad tk k hk mem r C0 hP fu 0 ls hF (lv_sub hl [1, 0] rfl)
