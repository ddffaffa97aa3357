theorem pkX2_size : pkV yX2_size cX2_size 1 (some .int) RX2 0 := ⟨mI_X2_size, mS_X2_size, mN_X2, mC_X2_size, by decide +kernel⟩
def fX2_size (mem : Mem) : Option (Int32) :=
  some (mem 19 4)
set_option maxHeartbeats 4000000 in
set_option maxRecDepth 100000 in
theorem kX2_size (l : Launch) (g : gG) (ad : Nat → Nat) (tk : Nat) (mem : Mem) (r : Int32) (hF : fX2_size mem = some r) : Met l yX2_size (Cond.code yX2_size cX2_size 1 (some .int) :: gw) { frames := 1, cells := 0, slots := 0, locals := 24 } (pG (wX g ad mem) (eX g ad tk) g [.ref (ad 19)]) (qR (some (.int r)) (True)) 0 0 noA := by
  refine met_of (by decide) (Nat.le_of_ble_eq_true rfl) ?_
  intro p e s m args below meth c ls C0 hP hl
  obtain ⟨hx, hb, hml, hown, hts, hr, hlk, hE⟩ := id C0
  obtain ⟨hK, hN, hA, hZ, hT, hTA⟩ := id hE
  have hl : lv_has ls 1 [(0, .ref (ad 19))] := hl
  have hS : va_S (AW 44 ad) s.heap s.heap [] := va_S.rf
  unfold fX2_size at hF
  refine lv_aload_n hx hb dX2_size_0 rfl (lv_at hl 0 rfl) ?_
  refine get_W C0 hK hP iwX2 19 wX_19 rfl 4 (by decide) mF_X2_15 rfl rfl dX2_size_1 ?_
  cases hF
  exact ret_Ri C0 trivial dX2_size_4
theorem pkX2_askingAt : pkV yX2_askingAt cX2_askingAt 2 (some .int) RX2 1 := ⟨mI_X2_askingAt, mS_X2_askingAt, mN_X2, mC_X2_askingAt, by decide +kernel⟩
def fX2_askingAt (mem : Mem) (a1 : Int32) : Option (Int32) :=
  some (atF (mem 20) 20 a1)
set_option maxHeartbeats 4000000 in
set_option maxRecDepth 100000 in
theorem kX2_askingAt (l : Launch) (g : gG) (ad : Nat → Nat) (tk : Nat) (mem : Mem) (a1 : Int32) (r : Int32) (hF : fX2_askingAt mem a1 = some r) : Met l yX2_askingAt (Cond.code yX2_askingAt cX2_askingAt 2 (some .int) :: gw) { frames := 2, cells := 0, slots := 0, locals := 37 } (pG (wX g ad mem) (eX g ad tk) g [.ref (ad 19), .int a1]) (qR (some (.int r)) (True)) 0 0 noA := by
  refine met_of (by decide) (Nat.le_of_ble_eq_true rfl) ?_
  intro p e s m args below meth c ls C0 hP hl
  obtain ⟨hx, hb, hml, hown, hts, hr, hlk, hE⟩ := id C0
  obtain ⟨hK, hN, hA, hZ, hT, hTA⟩ := id hE
  have hl : lv_has ls 2 [(0, .ref (ad 19)), (1, .int a1)] := hl
  have hS : va_S (AW 44 ad) s.heap s.heap [] := va_S.rf
  unfold fX2_askingAt at hF
  refine lv_aload_n hx hb dX2_askingAt_0 rfl (lv_at hl 0 rfl) ?_
  refine get_W C0 hK hP iwX2 19 wX_19 rfl 3 (by decide) mF_X2_9 rfl rfl dX2_askingAt_1 ?_
  refine lv_iload_n hx hb dX2_askingAt_4 rfl (lv_at hl 1 rfl) ?_
  refine at_W C0 hN hK hP 20 wX_20 (by decide) nN_X2_31 ⟨Nat.le_of_ble_eq_true rfl, Nat.le_of_ble_eq_true rfl, Nat.le_of_ble_eq_true rfl, Nat.le_of_ble_eq_true rfl⟩ hl.1 (Nat.le_of_ble_eq_true rfl) dX2_askingAt_5 ?_
  cases hF
  exact ret_Ri C0 trivial dX2_askingAt_8
theorem pkX2_placeOf : pkV yX2_placeOf cX2_placeOf 3 (some .int) RX2 1 := ⟨mI_X2_placeOf, mS_X2_placeOf, mN_X2, mC_X2_placeOf, by decide +kernel⟩
def fX2_placeOf_2 (mem : Mem) (z1 : Int32) : Nat → Int32 → Option (Int32)
  | 0, _ => none
  | n + 1, x2 =>
    if mem 19 4 ≤ x2 then (some (-1)) else (ob1 (fX2_askingAt mem x2) (fun r3 => if r3 = z1 then (some x2) else (fX2_placeOf_2 mem z1 n (x2 + 1))))
set_option maxHeartbeats 4000000 in
set_option maxRecDepth 100000 in
theorem lpX2_placeOf_2 {p : Program} {l : Launch} {e : Env} {s : State} {m : MethodId} {args : Array Value} {below : List Frame} {meth : Method} {c : Code} (g : gG) (ad : Nat → Nat) (tk : Nat) (mem : Mem) (z1 : Int32) (r : Int32) (C0 : cxt (eX g ad tk) cX2_placeOf 3 RX2 (some .int) p s m args meth c) (hP : va_P g.1 vwCl (wX g ad mem) s.heap) :
    ∀ (n : Nat) (x2 : Int32) (ls : Array Slot), fX2_placeOf_2 mem z1 n x2 = some r → lv_has ls 3 [(0, .ref (ad 19)), (1, .int z1), (2, .int x2)] → W p l e { frames := 3, cells := 0, slots := 0, locals := 58 } s m args below meth c s.heap [] 0 0 (MQ below (qR (some (.int r)) (True)) args s 0 0 noA) (F0 m 2 ls []) := by
  obtain ⟨hx, hb, hml, hown, hts, hr, hlk, hE⟩ := id C0
  obtain ⟨hK, hN, hA, hZ, hT, hTA⟩ := id hE
  intro n
  induction n with
  | zero =>
    intro x2 ls hF hl
    cases hF
  | succ n ih =>
    intro x2 ls hF hl
    rw [fX2_placeOf_2] at hF
    have hS : va_S (AW 44 ad) s.heap s.heap [] := va_S.rf
    refine lv_iload_n hx hb dX2_placeOf_2 rfl (lv_at hl 2 rfl) ?_
    refine lv_aload_n hx hb dX2_placeOf_3 rfl (lv_at hl 0 rfl) ?_
    refine get_W C0 hK hP iwX2 19 wX_19 rfl 4 (by decide) mF_X2_15 rfl rfl dX2_placeOf_4 ?_
    refine lv_icmp_ge (tgt := 27) hx hb dX2_placeOf_7 (by decide) (fun c1 => ?_) (fun c1 => ?_)
    · replace hF := (if_pos c1).symm.trans hF
      refine lv_iconst (v := (-1)) hx hb dX2_placeOf_27 (by decide) ?_
      cases hF
      exact ret_Ri C0 trivial dX2_placeOf_28
    · replace hF := (if_neg c1).symm.trans hF
      refine lv_aload_n hx hb dX2_placeOf_10 rfl (lv_at hl 0 rfl) ?_
      refine lv_iload_n hx hb dX2_placeOf_11 rfl (lv_at hl 2 rfl) ?_
      obtain ⟨r3, h2, hF⟩ := ob_some hF
      refine cV_Ri C0 eX_st hP hS hK pkX2_askingAt (As := [.int x2]) (rest := []) (kX2_askingAt l g ad tk mem x2 r3 h2) mL_X2_35 ⟨rfl, rfl, Nat.le_of_ble_eq_true rfl, Nat.le_of_ble_eq_true rfl, Nat.le_of_ble_eq_true rfl, Nat.le_of_ble_eq_true rfl⟩ 19 wX_19 rfl rfl rfl hl.1 rfl (Nat.le_of_ble_eq_true rfl) dX2_placeOf_12 (fun _ => ?_)
      refine lv_iload_n hx hb dX2_placeOf_15 rfl (lv_at hl 1 rfl) ?_
      refine lv_icmp_ne (tgt := 21) hx hb dX2_placeOf_16 (by decide) (fun c4 => ?_) (fun c4 => ?_)
      · replace hF := (if_neg c4).symm.trans hF
        refine lv_iinc (v := x2 + 1) (lv' := [(2, .int (x2 + 1)), (0, .ref (ad 19)), (1, .int z1)]) hx hb dX2_placeOf_21 hl (k := 2) rfl rfl (by decide) rfl (fun ls hl => ?_)
        refine lv_goto (tgt := 2) hx hb dX2_placeOf_24 (by decide) ?_
        exact ih (x2 + 1) ls hF (lv_sub hl [1, 2, 0] rfl)
      · replace hF := (if_pos c4).symm.trans hF
        refine lv_iload_n hx hb dX2_placeOf_19 rfl (lv_at hl 2 rfl) ?_
        cases hF
        exact ret_Ri C0 trivial dX2_placeOf_20
def fX2_placeOf (mem : Mem) (a1 : Int32) : Option (Int32) :=
  fX2_placeOf_2 mem a1 fu 0
set_option maxHeartbeats 4000000 in
set_option maxRecDepth 100000 in
theorem kX2_placeOf (l : Launch) (g : gG) (ad : Nat → Nat) (tk : Nat) (mem : Mem) (a1 : Int32) (r : Int32) (hF : fX2_placeOf mem a1 = some r) : Met l yX2_placeOf (Cond.code yX2_placeOf cX2_placeOf 3 (some .int) :: gw) { frames := 3, cells := 0, slots := 0, locals := 58 } (pG (wX g ad mem) (eX g ad tk) g [.ref (ad 19), .int a1]) (qR (some (.int r)) (True)) 0 0 noA := by
  refine met_of (by decide) (Nat.le_of_ble_eq_true rfl) ?_
  intro p e s m args below meth c ls C0 hP hl
  obtain ⟨hx, hb, hml, hown, hts, hr, hlk, hE⟩ := id C0
  obtain ⟨hK, hN, hA, hZ, hT, hTA⟩ := id hE
  have hl : lv_has ls 3 [(0, .ref (ad 19)), (1, .int a1)] := hl
  have hS : va_S (AW 44 ad) s.heap s.heap [] := va_S.rf
  unfold fX2_placeOf at hF
  refine lv_iconst (v := 0) hx hb dX2_placeOf_0 (by decide) ?_
  refine lv_istore_n (lv' := [(2, .int 0), (0, .ref (ad 19)), (1, .int a1)]) hx hb dX2_placeOf_1 rfl hl (by decide) rfl (fun ls hl => ?_)
  exact lpX2_placeOf_2 g ad tk mem a1 r C0 hP fu 0 ls hF (lv_sub hl [1, 2, 0] rfl)
theorem pkX2_lay : pkV yX2_lay cX2_lay 3 (none) RX2 0 := ⟨mI_X2_lay, mS_X2_lay, mN_X2, mC_X2_lay, by decide +kernel⟩
def fX2_lay_41 (z1 : Int32) (kc : Mem → Int32 → Option (Mem)) : Nat → Mem → Int32 → Option (Mem)
  | 0, _, _ => none
  | n + 1, mem, x2 =>
    if x2 ≤ 0 then (kc (up2 (upc mem 20 (setF (mem 20) 20 x2 z1)) 19 4 (((upc mem 20 (setF (mem 20) 20 x2 z1)) 19 4) + 1)) (z1 + 1)) else (ob1 (fX2_askingAt mem (x2 - 1)) (fun r12 => ob1 (fX5_isAhead 5 mem z1 r12) (fun r14 => if r14 = 0 then (kc (up2 (upc mem 20 (setF (mem 20) 20 x2 z1)) 19 4 (((upc mem 20 (setF (mem 20) 20 x2 z1)) 19 4) + 1)) (z1 + 1)) else (ob1 (fX2_askingAt mem (x2 - 1)) (fun r18 => fX2_lay_41 z1 kc n (upc mem 20 (setF (mem 20) 20 x2 r18)) (x2 + (-1)))))))
set_option maxHeartbeats 4000000 in
set_option maxRecDepth 100000 in
theorem lpX2_lay_41 {p : Program} {l : Launch} {e : Env} {s : State} {m : MethodId} {args : Array Value} {below : List Frame} {meth : Method} {c : Code} (g : gG) (ad : Nat → Nat) (tk : Nat) (z1 : Int32) (kc : Mem → Int32 → Option (Mem)) (mem2 : Mem) (C0 : cxt (eX g ad tk) cX2_lay 3 RX2 (none) p s m args meth c)
    (hkc : ∀ (mem : Mem) (x1 : Int32) (H : Heap) (locs : List Loc) (ls : Array Slot), kc mem x1 = some mem2 → va_P g.1 vwCl (wX g ad mem) H → va_S (AW 44 ad) s.heap H locs → lv_has ls 3 [(0, .ref (ad 19)), (1, .int x1)] → W p l e { frames := 5, cells := 0, slots := 0, locals := 112 } s m args below meth c H locs 0 0 (MQ below (qW (wX g ad mem2) g (AW 44 ad) (none) (True)) args s 0 0 (AW 44 ad)) (F0 m 7 ls [])) :
    ∀ (n : Nat) (mem : Mem) (x2 : Int32) (H : Heap) (locs : List Loc) (ls : Array Slot), fX2_lay_41 z1 kc n mem x2 = some mem2 → va_P g.1 vwCl (wX g ad mem) H → va_S (AW 44 ad) s.heap H locs → lv_has ls 3 [(0, .ref (ad 19)), (1, .int z1), (2, .int x2)] → W p l e { frames := 5, cells := 0, slots := 0, locals := 112 } s m args below meth c H locs 0 0 (MQ below (qW (wX g ad mem2) g (AW 44 ad) (none) (True)) args s 0 0 (AW 44 ad)) (F0 m 41 ls []) := by
  obtain ⟨hx, hb, hml, hown, hts, hr, hlk, hE⟩ := id C0
  obtain ⟨hK, hN, hA, hZ, hT, hTA⟩ := id hE
  intro n
  induction n with
  | zero =>
    intro mem x2 H locs ls hF hP hS hl
    cases hF
  | succ n ih =>
    intro mem x2 H locs ls hF hP hS hl
    rw [fX2_lay_41] at hF
    refine lv_iload_n hx hb dX2_lay_41 rfl (lv_at hl 2 rfl) ?_
    refine lv_if_le (tgt := 88) hx hb dX2_lay_42 (by decide) (fun c10 => ?_) (fun c10 => ?_)
    · replace hF := (if_pos c10).symm.trans hF
      refine lv_aload_n hx hb dX2_lay_88 rfl (lv_at hl 0 rfl) ?_
      refine get_W C0 hK hP iwX2 19 wX_19 rfl 3 (by decide) mF_X2_9 rfl rfl dX2_lay_89 ?_
      refine lv_iload_n hx hb dX2_lay_92 rfl (lv_at hl 2 rfl) ?_
      refine lv_iload_n hx hb dX2_lay_93 rfl (lv_at hl 1 rfl) ?_
      refine set_W C0 hN hK hP (wX_D hA) hS 20 wX_20 (by decide) wX_s20 nN_X2_59 ⟨Nat.le_of_ble_eq_true rfl, Nat.le_of_ble_eq_true rfl, Nat.le_of_ble_eq_true rfl, Nat.le_of_ble_eq_true rfl⟩ hl.1 (Nat.le_of_ble_eq_true rfl) dX2_lay_94 (fun H locs hP hS => ?_)
      refine lv_aload_n hx hb dX2_lay_97 rfl (lv_at hl 0 rfl) ?_
      refine lv_dup hx hb dX2_lay_98 rfl ?_
      refine get_W C0 hK hP iwX2 19 wX_19 rfl 4 (by decide) mF_X2_15 rfl rfl dX2_lay_99 ?_
      refine lv_iconst (v := 1) hx hb dX2_lay_102 (by decide) ?_
      refine lv_iadd hx hb dX2_lay_103 ?_
      refine put_W (k := 4) C0 hK hP (wX_D hA) hS iwX2 tyX2_ok nmX2 19 wX_19 rfl (by decide) mF_X2_15 rfl rfl rfl rfl (Nat.le_of_ble_eq_true rfl) wX_s19_4 dX2_lay_104 (fun H locs hP hS => ?_)
      refine lv_iinc (v := z1 + 1) (lv' := [(1, .int (z1 + 1)), (0, .ref (ad 19)), (2, .int x2)]) hx hb dX2_lay_107 hl (k := 1) rfl rfl (by decide) rfl (fun ls hl => ?_)
      refine lv_goto (tgt := 7) hx hb dX2_lay_110 (by decide) ?_
      exact hkc (up2 (upc mem 20 (setF (mem 20) 20 x2 z1)) 19 4 (((upc mem 20 (setF (mem 20) 20 x2 z1)) 19 4) + 1)) (z1 + 1) _ _ ls hF hP hS (lv_sub hl [1, 0] rfl)
    · replace hF := (if_neg c10).symm.trans hF
      refine lv_aload_n hx hb dX2_lay_45 rfl (lv_at hl 0 rfl) ?_
      refine get_W C0 hK hP iwX2 19 wX_19 rfl 1 (by decide) mF_X2_23 rfl rfl dX2_lay_46 ?_
      refine lv_aload_n hx hb dX2_lay_49 rfl (lv_at hl 0 rfl) ?_
      refine get_W C0 hK hP iwX2 19 wX_19 rfl 2 (by decide) mF_X2_27 rfl rfl dX2_lay_50 ?_
      refine lv_iload_n hx hb dX2_lay_53 rfl (lv_at hl 1 rfl) ?_
      refine lv_aload_n hx hb dX2_lay_54 rfl (lv_at hl 0 rfl) ?_
      refine lv_iload_n hx hb dX2_lay_55 rfl (lv_at hl 2 rfl) ?_
      refine lv_iconst (v := 1) hx hb dX2_lay_56 (by decide) ?_
      refine lv_isub hx hb dX2_lay_57 ?_
      obtain ⟨r12, h11, hF⟩ := ob_some hF
      refine cV_Ri C0 eX_st hP hS hK pkX2_askingAt (As := [.int (x2 - 1)]) (rest := [.int z1, .ref (ad 5), .ref (ad 17)]) (kX2_askingAt l g ad tk mem (x2 - 1) r12 h11) mL_X2_35 ⟨rfl, rfl, Nat.le_of_ble_eq_true rfl, Nat.le_of_ble_eq_true rfl, Nat.le_of_ble_eq_true rfl, Nat.le_of_ble_eq_true rfl⟩ 19 wX_19 rfl rfl rfl hl.1 rfl (Nat.le_of_ble_eq_true rfl) dX2_lay_58 (fun _ => ?_)
      obtain ⟨r14, h13, hF⟩ := ob_some hF
      refine cV_Ri C0 eX_st hP hS hK pkX5_isAhead (As := [.ref (ad 5), .int z1, .int r12]) (rest := []) (kX5_isAhead l g ad tk mem 5 (by decide) z1 r12 r14 h13) mL_X2_53 ⟨rfl, rfl, Nat.le_of_ble_eq_true rfl, Nat.le_of_ble_eq_true rfl, Nat.le_of_ble_eq_true rfl, Nat.le_of_ble_eq_true rfl⟩ 17 wX_17 rfl rfl rfl hl.1 rfl (Nat.le_of_ble_eq_true rfl) dX2_lay_61 (fun b15 => ?_)
      refine lv_if_eq (tgt := 88) hx hb dX2_lay_64 (by decide) (fun c16 => ?_) (fun c16 => ?_)
      · replace hF := (if_pos c16).symm.trans hF
        refine lv_aload_n hx hb dX2_lay_88 rfl (lv_at hl 0 rfl) ?_
        refine get_W C0 hK hP iwX2 19 wX_19 rfl 3 (by decide) mF_X2_9 rfl rfl dX2_lay_89 ?_
        refine lv_iload_n hx hb dX2_lay_92 rfl (lv_at hl 2 rfl) ?_
        refine lv_iload_n hx hb dX2_lay_93 rfl (lv_at hl 1 rfl) ?_
        refine set_W C0 hN hK hP (wX_D hA) hS 20 wX_20 (by decide) wX_s20 nN_X2_59 ⟨Nat.le_of_ble_eq_true rfl, Nat.le_of_ble_eq_true rfl, Nat.le_of_ble_eq_true rfl, Nat.le_of_ble_eq_true rfl⟩ hl.1 (Nat.le_of_ble_eq_true rfl) dX2_lay_94 (fun H locs hP hS => ?_)
        refine lv_aload_n hx hb dX2_lay_97 rfl (lv_at hl 0 rfl) ?_
        refine lv_dup hx hb dX2_lay_98 rfl ?_
        refine get_W C0 hK hP iwX2 19 wX_19 rfl 4 (by decide) mF_X2_15 rfl rfl dX2_lay_99 ?_
        refine lv_iconst (v := 1) hx hb dX2_lay_102 (by decide) ?_
        refine lv_iadd hx hb dX2_lay_103 ?_
        refine put_W (k := 4) C0 hK hP (wX_D hA) hS iwX2 tyX2_ok nmX2 19 wX_19 rfl (by decide) mF_X2_15 rfl rfl rfl rfl (Nat.le_of_ble_eq_true rfl) wX_s19_4 dX2_lay_104 (fun H locs hP hS => ?_)
        refine lv_iinc (v := z1 + 1) (lv' := [(1, .int (z1 + 1)), (0, .ref (ad 19)), (2, .int x2)]) hx hb dX2_lay_107 hl (k := 1) rfl rfl (by decide) rfl (fun ls hl => ?_)
        refine lv_goto (tgt := 7) hx hb dX2_lay_110 (by decide) ?_
        exact hkc (up2 (upc mem 20 (setF (mem 20) 20 x2 z1)) 19 4 (((upc mem 20 (setF (mem 20) 20 x2 z1)) 19 4) + 1)) (z1 + 1) _ _ ls hF hP hS (lv_sub hl [1, 0] rfl)
      · replace hF := (if_neg c16).symm.trans hF
        refine lv_aload_n hx hb dX2_lay_67 rfl (lv_at hl 0 rfl) ?_
        refine get_W C0 hK hP iwX2 19 wX_19 rfl 3 (by decide) mF_X2_9 rfl rfl dX2_lay_68 ?_
        refine lv_iload_n hx hb dX2_lay_71 rfl (lv_at hl 2 rfl) ?_
        refine lv_aload_n hx hb dX2_lay_72 rfl (lv_at hl 0 rfl) ?_
        refine lv_iload_n hx hb dX2_lay_73 rfl (lv_at hl 2 rfl) ?_
        refine lv_iconst (v := 1) hx hb dX2_lay_74 (by decide) ?_
        refine lv_isub hx hb dX2_lay_75 ?_
        obtain ⟨r18, h17, hF⟩ := ob_some hF
        refine cV_Ri C0 eX_st hP hS hK pkX2_askingAt (As := [.int (x2 - 1)]) (rest := [.int x2, .ref (ad 20)]) (kX2_askingAt l g ad tk mem (x2 - 1) r18 h17) mL_X2_35 ⟨rfl, rfl, Nat.le_of_ble_eq_true rfl, Nat.le_of_ble_eq_true rfl, Nat.le_of_ble_eq_true rfl, Nat.le_of_ble_eq_true rfl⟩ 19 wX_19 rfl rfl rfl hl.1 rfl (Nat.le_of_ble_eq_true rfl) dX2_lay_76 (fun _ => ?_)
        refine set_W C0 hN hK hP (wX_D hA) hS 20 wX_20 (by decide) wX_s20 nN_X2_59 ⟨Nat.le_of_ble_eq_true rfl, Nat.le_of_ble_eq_true rfl, Nat.le_of_ble_eq_true rfl, Nat.le_of_ble_eq_true rfl⟩ hl.1 (Nat.le_of_ble_eq_true rfl) dX2_lay_79 (fun H locs hP hS => ?_)
        refine lv_iinc (v := x2 + (-1)) (lv' := [(2, .int (x2 + (-1))), (0, .ref (ad 19)), (1, .int z1)]) hx hb dX2_lay_82 hl (k := 2) rfl rfl (by decide) rfl (fun ls hl => ?_)
        refine lv_goto (tgt := 41) hx hb dX2_lay_85 (by decide) ?_
        exact ih (upc mem 20 (setF (mem 20) 20 x2 r18)) (x2 + (-1)) _ _ ls hF hP hS (lv_sub hl [1, 2, 0] rfl)
def fX2_lay_7 : Nat → Mem → Int32 → Option (Mem)
  | 0, _, _ => none
  | n + 1, mem, x1 =>
    ob1 (fX7_size 5 mem) (fun r2 => if r2 ≤ x1 then (some mem) else (ob1 (fX7_memberAt 5 mem x1) (fun r5 => ob1 (fX4_isHere mem r5) (fun r7 => if r7 = 0 then (fX2_lay_7 n mem (x1 + 1)) else (fX2_lay_41 x1 (fX2_lay_7 n) fu mem (mem 19 4))))))
set_option maxHeartbeats 4000000 in
set_option maxRecDepth 100000 in
theorem lpX2_lay_7 {p : Program} {l : Launch} {e : Env} {s : State} {m : MethodId} {args : Array Value} {below : List Frame} {meth : Method} {c : Code} (g : gG) (ad : Nat → Nat) (tk : Nat) (mem2 : Mem) (C0 : cxt (eX g ad tk) cX2_lay 3 RX2 (none) p s m args meth c) :
    ∀ (n : Nat) (mem : Mem) (x1 : Int32) (H : Heap) (locs : List Loc) (ls : Array Slot), fX2_lay_7 n mem x1 = some mem2 → va_P g.1 vwCl (wX g ad mem) H → va_S (AW 44 ad) s.heap H locs → lv_has ls 3 [(0, .ref (ad 19)), (1, .int x1)] → W p l e { frames := 5, cells := 0, slots := 0, locals := 112 } s m args below meth c H locs 0 0 (MQ below (qW (wX g ad mem2) g (AW 44 ad) (none) (True)) args s 0 0 (AW 44 ad)) (F0 m 7 ls []) := by
  obtain ⟨hx, hb, hml, hown, hts, hr, hlk, hE⟩ := id C0
  obtain ⟨hK, hN, hA, hZ, hT, hTA⟩ := id hE
  intro n
  induction n with
  | zero =>
    intro mem x1 H locs ls hF hP hS hl
    cases hF
  | succ n ih =>
    intro mem x1 H locs ls hF hP hS hl
    rw [fX2_lay_7] at hF
    refine lv_iload_n hx hb dX2_lay_7 rfl (lv_at hl 1 rfl) ?_
    refine lv_aload_n hx hb dX2_lay_8 rfl (lv_at hl 0 rfl) ?_
    refine get_W C0 hK hP iwX2 19 wX_19 rfl 2 (by decide) mF_X2_27 rfl rfl dX2_lay_9 ?_
    obtain ⟨r2, h1, hF⟩ := ob_some hF
    refine cV_Ri C0 eX_st hP hS hK pkX7_size (As := []) (rest := [.int x1]) (kX7_size l g ad tk mem 5 (by decide) r2 h1) mL_X2_39 ⟨rfl, rfl, Nat.le_of_ble_eq_true rfl, Nat.le_of_ble_eq_true rfl, Nat.le_of_ble_eq_true rfl, Nat.le_of_ble_eq_true rfl⟩ 5 wX_5 rfl rfl rfl hl.1 rfl (Nat.le_of_ble_eq_true rfl) dX2_lay_12 (fun _ => ?_)
    refine lv_icmp_ge (tgt := 113) hx hb dX2_lay_15 (by decide) (fun c3 => ?_) (fun c3 => ?_)
    · replace hF := (if_pos c3).symm.trans hF
      cases hF
      exact ret_Wv C0 hP hS trivial dX2_lay_113
    · replace hF := (if_neg c3).symm.trans hF
      refine lv_aload_n hx hb dX2_lay_18 rfl (lv_at hl 0 rfl) ?_
      refine get_W C0 hK hP iwX2 19 wX_19 rfl 0 (by decide) mF_X2_19 rfl rfl dX2_lay_19 ?_
      refine lv_aload_n hx hb dX2_lay_22 rfl (lv_at hl 0 rfl) ?_
      refine get_W C0 hK hP iwX2 19 wX_19 rfl 2 (by decide) mF_X2_27 rfl rfl dX2_lay_23 ?_
      refine lv_iload_n hx hb dX2_lay_26 rfl (lv_at hl 1 rfl) ?_
      obtain ⟨r5, h4, hF⟩ := ob_some hF
      refine cV_Ri C0 eX_st hP hS hK pkX7_memberAt (As := [.int x1]) (rest := [.ref (ad 1)]) (kX7_memberAt l g ad tk mem 5 (by decide) x1 r5 h4) mL_X2_44 ⟨rfl, rfl, Nat.le_of_ble_eq_true rfl, Nat.le_of_ble_eq_true rfl, Nat.le_of_ble_eq_true rfl, Nat.le_of_ble_eq_true rfl⟩ 5 wX_5 rfl rfl rfl hl.1 rfl (Nat.le_of_ble_eq_true rfl) dX2_lay_27 (fun _ => ?_)
      obtain ⟨r7, h6, hF⟩ := ob_some hF
      refine cV_Ri C0 eX_st hP hS hK pkX4_isHere (As := [.int r5]) (rest := []) (kX4_isHere l g ad tk mem r5 r7 h6) mL_X2_47 ⟨rfl, rfl, Nat.le_of_ble_eq_true rfl, Nat.le_of_ble_eq_true rfl, Nat.le_of_ble_eq_true rfl, Nat.le_of_ble_eq_true rfl⟩ 1 wX_1 rfl rfl rfl hl.1 rfl (Nat.le_of_ble_eq_true rfl) dX2_lay_30 (fun b8 => ?_)
      refine lv_if_eq (tgt := 107) hx hb dX2_lay_33 (by decide) (fun c9 => ?_) (fun c9 => ?_)
      · replace hF := (if_pos c9).symm.trans hF
        refine lv_iinc (v := x1 + 1) (lv' := [(1, .int (x1 + 1)), (0, .ref (ad 19))]) hx hb dX2_lay_107 hl (k := 1) rfl rfl (by decide) rfl (fun ls hl => ?_)
        refine lv_goto (tgt := 7) hx hb dX2_lay_110 (by decide) ?_
        exact ih mem (x1 + 1) _ _ ls hF hP hS (lv_sub hl [1, 0] rfl)
      · replace hF := (if_neg c9).symm.trans hF
        refine lv_aload_n hx hb dX2_lay_36 rfl (lv_at hl 0 rfl) ?_
        refine get_W C0 hK hP iwX2 19 wX_19 rfl 4 (by decide) mF_X2_15 rfl rfl dX2_lay_37 ?_
        refine lv_istore_n (lv' := [(2, .int (mem 19 4)), (0, .ref (ad 19)), (1, .int x1)]) hx hb dX2_lay_40 rfl hl (by decide) rfl (fun ls hl => ?_)
        exact lpX2_lay_41 g ad tk x1 (fX2_lay_7 n) mem2 C0 ih fu mem (mem 19 4) _ _ ls hF hP hS (lv_sub hl [1, 2, 0] rfl)
def fX2_lay (mem : Mem) : Option (Mem) :=
  fX2_lay_7 fu (up2 mem 19 4 0) 0
set_option maxHeartbeats 4000000 in
set_option maxRecDepth 100000 in
theorem kX2_lay (l : Launch) (g : gG) (ad : Nat → Nat) (tk : Nat) (mem : Mem) (mem2 : Mem) (hF : fX2_lay mem = some mem2) : Met l yX2_lay (Cond.code yX2_lay cX2_lay 3 (none) :: gw) { frames := 5, cells := 0, slots := 0, locals := 112 } (pG (wX g ad mem) (eX g ad tk) g [.ref (ad 19)]) (qW (wX g ad mem2) g (AW 44 ad) (none) (True)) 0 0 (AW 44 ad) := by
  refine met_of (by decide) (Nat.le_of_ble_eq_true rfl) ?_
  intro p e s m args below meth c ls C0 hP hl
  obtain ⟨hx, hb, hml, hown, hts, hr, hlk, hE⟩ := id C0
  obtain ⟨hK, hN, hA, hZ, hT, hTA⟩ := id hE
  have hl : lv_has ls 3 [(0, .ref (ad 19))] := hl
  have hS : va_S (AW 44 ad) s.heap s.heap [] := va_S.rf
  unfold fX2_lay at hF
  refine lv_aload_n hx hb dX2_lay_0 rfl (lv_at hl 0 rfl) ?_
  refine lv_iconst (v := 0) hx hb dX2_lay_1 (by decide) ?_
  refine put_W (k := 4) C0 hK hP (wX_D hA) hS iwX2 tyX2_ok nmX2 19 wX_19 rfl (by decide) mF_X2_15 rfl rfl rfl rfl (Nat.le_of_ble_eq_true rfl) wX_s19_4 dX2_lay_2 (fun H locs hP hS => ?_)
  refine lv_iconst (v := 0) hx hb dX2_lay_5 (by decide) ?_
  refine lv_istore_n (lv' := [(1, .int 0), (0, .ref (ad 19))]) hx hb dX2_lay_6 rfl hl (by decide) rfl (fun ls hl => ?_)
  exact lpX2_lay_7 g ad tk mem2 C0 fu (up2 mem 19 4 0) 0 _ _ ls hF hP hS (lv_sub hl [1, 0] rfl)
