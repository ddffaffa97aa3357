theorem pkX9_begin : pkV yX9_begin cX9_begin 1 (some .int) RX9 0 := ⟨mI_X9_begin, mS_X9_begin, mN_X9, mC_X9_begin, by decide +kernel⟩
def fX9_begin (mem : Mem) : Option (Int32 × Mem) :=
  if mem 0 12 ≤ 0 then (ob1 (fX9_tellList mem) (fun m3 => if m3 0 33 = 0 then (ob2 (fX9_finding m3 (-100006)) (fun r11 m10 => some (r11, m10))) else (gI 0 20 (ob2 (fX9_take m3 (m3 23 (0 : Int32).toNatClampNeg)) (fun r8 m7 => some (r8, m7)))))) else (ob2 (fX9_finding mem (-100007)) (fun r14 m13 => some (r14, m13)))
set_option maxHeartbeats 4000000 in
set_option maxRecDepth 100000 in
theorem kX9_begin (l : Launch) (g : gG) (ad : Nat → Nat) (mem : Mem) (r : Int32) (mem2 : Mem) (hF : fX9_begin mem = some (r, mem2)) : Met l yX9_begin (Cond.code yX9_begin cX9_begin 1 (some .int) :: gw) { frames := 5, cells := 0, slots := 0, locals := 117 } (pG (wM g ad mem) (eM g ad) g [.ref (ad 0)]) (qW (wM g ad mem2) g (AW 29 ad) (some (.int r)) (True)) 0 0 (AW 29 ad) := by
  refine met_of (by decide) (Nat.le_of_ble_eq_true rfl) ?_
  intro p e s m args below meth c ls C0 hP hl
  obtain ⟨hx, hb, hml, hown, hts, hr, hlk, hE⟩ := id C0
  obtain ⟨hK, hA⟩ := id hE
  have hl : lv_has ls 1 [(0, .ref (ad 0))] := hl
  have hS : va_S (AW 29 ad) s.heap s.heap [] := va_S.rf
  unfold fX9_begin at hF
  refine lv_aload_n hx hb dX9_begin_0 rfl (lv_at hl 0 rfl) ?_
  refine get_W C0 hK hP iwX9 0 wM_0 rfl 12 (by decide) mF_X9_172 rfl rfl dX9_begin_1 ?_
  refine lv_if_le (tgt := 14) hx hb dX9_begin_4 (by decide) (fun c1 => ?_) (fun c1 => ?_)
  · replace hF := (if_pos c1).symm.trans hF
    refine lv_aload_n hx hb dX9_begin_14 rfl (lv_at hl 0 rfl) ?_
    obtain ⟨m3, h2, hF⟩ := ob_some hF
    refine cV_Wv C0 eM_st hP hS hK pkX9_tellList (As := []) (rest := []) (kX9_tellList l g ad mem m3 h2) mL_X9_162 ⟨rfl, rfl, Nat.le_of_ble_eq_true rfl, Nat.le_of_ble_eq_true rfl, Nat.le_of_ble_eq_true rfl, Nat.le_of_ble_eq_true rfl⟩ 0 wM_0 rfl rfl rfl hl.1 rfl (Nat.le_of_ble_eq_true rfl) dX9_begin_15 (fun H locs _ hP hS => ?_)
    refine lv_aload_n hx hb dX9_begin_18 rfl (lv_at hl 0 rfl) ?_
    refine get_W C0 hK hP iwX9 0 wM_0 rfl 33 (by decide) mF_X9_155 rfl rfl dX9_begin_19 ?_
    refine lv_if_ne (tgt := 34) hx hb dX9_begin_22 (by decide) (fun c4 => ?_) (fun c4 => ?_)
    · replace hF := (if_neg c4).symm.trans hF
      refine lv_aload_n hx hb dX9_begin_34 rfl (lv_at hl 0 rfl) ?_
      refine lv_aload_n hx hb dX9_begin_35 rfl (lv_at hl 0 rfl) ?_
      refine get_W C0 hK hP iwX9 0 wM_0 rfl 32 (by decide) mF_X9_81 rfl rfl dX9_begin_36 ?_
      refine lv_iconst (v := 0) hx hb dX9_begin_39 (by decide) ?_
      obtain ⟨g5, hF⟩ := gI_some hF
      refine va_iald hx hb hK hP 23 0 wM_23 rfl g5 dX9_begin_40 ?_
      obtain ⟨r8, m7, h6, hF⟩ := ob2_some hF
      refine cV_Wi C0 eM_st hP hS hK pkX9_take (As := [.int (m3 23 (0 : Int32).toNatClampNeg)]) (rest := []) (kX9_take l g ad m3 (m3 23 (0 : Int32).toNatClampNeg) r8 m7 h6) mL_X9_182 ⟨rfl, rfl, Nat.le_of_ble_eq_true rfl, Nat.le_of_ble_eq_true rfl, Nat.le_of_ble_eq_true rfl, Nat.le_of_ble_eq_true rfl⟩ 0 wM_0 rfl rfl rfl hl.1 rfl (Nat.le_of_ble_eq_true rfl) dX9_begin_41 (fun H locs _ hP hS => ?_)
      cases hF
      exact ret_Wi C0 hP hS trivial dX9_begin_44
    · replace hF := (if_pos c4).symm.trans hF
      refine lv_aload_n hx hb dX9_begin_25 rfl (lv_at hl 0 rfl) ?_
      refine lv_ldc hx hb hown (hts _ mK_X9_141) dX9_begin_26 ?_
      obtain ⟨r11, m10, h9, hF⟩ := ob2_some hF
      refine cV_Wi C0 eM_st hP hS hK pkX9_finding (As := [.int (-100006)]) (rest := []) (kX9_finding l g ad m3 (-100006) r11 m10 h9) mL_X9_110 ⟨rfl, rfl, Nat.le_of_ble_eq_true rfl, Nat.le_of_ble_eq_true rfl, Nat.le_of_ble_eq_true rfl, Nat.le_of_ble_eq_true rfl⟩ 0 wM_0 rfl rfl rfl hl.1 rfl (Nat.le_of_ble_eq_true rfl) dX9_begin_28 (fun H locs _ hP hS => ?_)
      refine lv_goto (tgt := 44) hx hb dX9_begin_31 (by decide) ?_
      cases hF
      exact ret_Wi C0 hP hS trivial dX9_begin_44
  · replace hF := (if_neg c1).symm.trans hF
    refine lv_aload_n hx hb dX9_begin_7 rfl (lv_at hl 0 rfl) ?_
    refine lv_ldc hx hb hown (hts _ mK_X9_181) dX9_begin_8 ?_
    obtain ⟨r14, m13, h12, hF⟩ := ob2_some hF
    refine cV_Wi C0 eM_st hP hS hK pkX9_finding (As := [.int (-100007)]) (rest := []) (kX9_finding l g ad mem (-100007) r14 m13 h12) mL_X9_110 ⟨rfl, rfl, Nat.le_of_ble_eq_true rfl, Nat.le_of_ble_eq_true rfl, Nat.le_of_ble_eq_true rfl, Nat.le_of_ble_eq_true rfl⟩ 0 wM_0 rfl rfl rfl hl.1 rfl (Nat.le_of_ble_eq_true rfl) dX9_begin_10 (fun H locs _ hP hS => ?_)
    cases hF
    exact ret_Wi C0 hP hS trivial dX9_begin_13
theorem pkX9_cut : pkV yX9_cut cX9_cut 2 (some .int) RX9 0 := ⟨mI_X9_cut, mS_X9_cut, mN_X9, mC_X9_cut, by decide +kernel⟩
def fX9_cut (mem : Mem) : Option (Int32 × Mem) :=
  ob2 (fX9_firstOf mem 2) (fun r3 m2 => if m2 0 12 = 0 then (ob2 (fX9_finding m2 (-100006)) (fun r7 m6 => some (r7, m6))) else (if 0 ≤ r3 then (if m2 0 12 ≤ 4 then (ob2 (fX9_take m2 r3) (fun r12 m11 => some (r12, m11))) else (ob2 (fX9_finding m2 (-100005)) (fun r15 m14 => some (r15, m14)))) else (ob2 (fX9_finding m2 (-100006)) (fun r18 m17 => some (r18, m17)))))
set_option maxHeartbeats 4000000 in
set_option maxRecDepth 100000 in
theorem kX9_cut (l : Launch) (g : gG) (ad : Nat → Nat) (mem : Mem) (r : Int32) (mem2 : Mem) (hF : fX9_cut mem = some (r, mem2)) : Met l yX9_cut (Cond.code yX9_cut cX9_cut 2 (some .int) :: gw) { frames := 6, cells := 0, slots := 0, locals := 139 } (pG (wM g ad mem) (eM g ad) g [.ref (ad 0)]) (qW (wM g ad mem2) g (AW 29 ad) (some (.int r)) (True)) 0 0 (AW 29 ad) := by
  refine met_of (by decide) (Nat.le_of_ble_eq_true rfl) ?_
  intro p e s m args below meth c ls C0 hP hl
  obtain ⟨hx, hb, hml, hown, hts, hr, hlk, hE⟩ := id C0
  obtain ⟨hK, hA⟩ := id hE
  have hl : lv_has ls 2 [(0, .ref (ad 0))] := hl
  have hS : va_S (AW 29 ad) s.heap s.heap [] := va_S.rf
  unfold fX9_cut at hF
  refine lv_aload_n hx hb dX9_cut_0 rfl (lv_at hl 0 rfl) ?_
  refine lv_iconst (v := 2) hx hb dX9_cut_1 (by decide) ?_
  obtain ⟨r3, m2, h1, hF⟩ := ob2_some hF
  refine cV_Wi C0 eM_st hP hS hK pkX9_firstOf (As := [.int 2]) (rest := []) (kX9_firstOf l g ad mem 2 r3 m2 h1) mL_X9_165 ⟨rfl, rfl, Nat.le_of_ble_eq_true rfl, Nat.le_of_ble_eq_true rfl, Nat.le_of_ble_eq_true rfl, Nat.le_of_ble_eq_true rfl⟩ 0 wM_0 rfl rfl rfl hl.1 rfl (Nat.le_of_ble_eq_true rfl) dX9_cut_2 (fun H locs _ hP hS => ?_)
  refine lv_istore_n (lv' := [(1, .int r3), (0, .ref (ad 0))]) hx hb dX9_cut_5 rfl hl (by decide) rfl (fun ls hl => ?_)
  refine lv_aload_n hx hb dX9_cut_6 rfl (lv_at hl 1 rfl) ?_
  refine get_W C0 hK hP iwX9 0 wM_0 rfl 12 (by decide) mF_X9_172 rfl rfl dX9_cut_7 ?_
  refine lv_if_eq (tgt := 17) hx hb dX9_cut_10 (by decide) (fun c4 => ?_) (fun c4 => ?_)
  · replace hF := (if_pos c4).symm.trans hF
    refine lv_aload_n hx hb dX9_cut_17 rfl (lv_at hl 1 rfl) ?_
    refine lv_ldc hx hb hown (hts _ mK_X9_141) dX9_cut_18 ?_
    obtain ⟨r7, m6, h5, hF⟩ := ob2_some hF
    refine cV_Wi C0 eM_st hP hS hK pkX9_finding (As := [.int (-100006)]) (rest := []) (kX9_finding l g ad m2 (-100006) r7 m6 h5) mL_X9_110 ⟨rfl, rfl, Nat.le_of_ble_eq_true rfl, Nat.le_of_ble_eq_true rfl, Nat.le_of_ble_eq_true rfl, Nat.le_of_ble_eq_true rfl⟩ 0 wM_0 rfl rfl rfl hl.1 rfl (Nat.le_of_ble_eq_true rfl) dX9_cut_20 (fun H locs _ hP hS => ?_)
    cases hF
    exact ret_Wi C0 hP hS trivial dX9_cut_23
  · replace hF := (if_neg c4).symm.trans hF
    refine lv_iload_n hx hb dX9_cut_13 rfl (lv_at hl 0 rfl) ?_
    refine lv_if_ge (tgt := 24) hx hb dX9_cut_14 (by decide) (fun c8 => ?_) (fun c8 => ?_)
    · replace hF := (if_pos c8).symm.trans hF
      refine lv_aload_n hx hb dX9_cut_24 rfl (lv_at hl 1 rfl) ?_
      refine get_W C0 hK hP iwX9 0 wM_0 rfl 12 (by decide) mF_X9_172 rfl rfl dX9_cut_25 ?_
      refine lv_iconst (v := 4) hx hb dX9_cut_28 (by decide) ?_
      refine lv_icmp_le (tgt := 41) hx hb dX9_cut_29 (by decide) (fun c9 => ?_) (fun c9 => ?_)
      · replace hF := (if_pos c9).symm.trans hF
        refine lv_aload_n hx hb dX9_cut_41 rfl (lv_at hl 1 rfl) ?_
        refine lv_iload_n hx hb dX9_cut_42 rfl (lv_at hl 0 rfl) ?_
        obtain ⟨r12, m11, h10, hF⟩ := ob2_some hF
        refine cV_Wi C0 eM_st hP hS hK pkX9_take (As := [.int r3]) (rest := []) (kX9_take l g ad m2 r3 r12 m11 h10) mL_X9_182 ⟨rfl, rfl, Nat.le_of_ble_eq_true rfl, Nat.le_of_ble_eq_true rfl, Nat.le_of_ble_eq_true rfl, Nat.le_of_ble_eq_true rfl⟩ 0 wM_0 rfl rfl rfl hl.1 rfl (Nat.le_of_ble_eq_true rfl) dX9_cut_43 (fun H locs _ hP hS => ?_)
        cases hF
        exact ret_Wi C0 hP hS trivial dX9_cut_46
      · replace hF := (if_neg c9).symm.trans hF
        refine lv_aload_n hx hb dX9_cut_32 rfl (lv_at hl 1 rfl) ?_
        refine lv_ldc hx hb hown (hts _ mK_X9_114) dX9_cut_33 ?_
        obtain ⟨r15, m14, h13, hF⟩ := ob2_some hF
        refine cV_Wi C0 eM_st hP hS hK pkX9_finding (As := [.int (-100005)]) (rest := []) (kX9_finding l g ad m2 (-100005) r15 m14 h13) mL_X9_110 ⟨rfl, rfl, Nat.le_of_ble_eq_true rfl, Nat.le_of_ble_eq_true rfl, Nat.le_of_ble_eq_true rfl, Nat.le_of_ble_eq_true rfl⟩ 0 wM_0 rfl rfl rfl hl.1 rfl (Nat.le_of_ble_eq_true rfl) dX9_cut_35 (fun H locs _ hP hS => ?_)
        refine lv_goto (tgt := 46) hx hb dX9_cut_38 (by decide) ?_
        cases hF
        exact ret_Wi C0 hP hS trivial dX9_cut_46
    · replace hF := (if_neg c8).symm.trans hF
      refine lv_aload_n hx hb dX9_cut_17 rfl (lv_at hl 1 rfl) ?_
      refine lv_ldc hx hb hown (hts _ mK_X9_141) dX9_cut_18 ?_
      obtain ⟨r18, m17, h16, hF⟩ := ob2_some hF
      refine cV_Wi C0 eM_st hP hS hK pkX9_finding (As := [.int (-100006)]) (rest := []) (kX9_finding l g ad m2 (-100006) r18 m17 h16) mL_X9_110 ⟨rfl, rfl, Nat.le_of_ble_eq_true rfl, Nat.le_of_ble_eq_true rfl, Nat.le_of_ble_eq_true rfl, Nat.le_of_ble_eq_true rfl⟩ 0 wM_0 rfl rfl rfl hl.1 rfl (Nat.le_of_ble_eq_true rfl) dX9_cut_20 (fun H locs _ hP hS => ?_)
      cases hF
      exact ret_Wi C0 hP hS trivial dX9_cut_23
theorem pkX9_tick : pkV yX9_tick cX9_tick 5 (some .int) RX9 1 := ⟨mI_X9_tick, mS_X9_tick, mN_X9, mC_X9_tick, by decide +kernel⟩
def fX9_tick_21 (z1 : Int32) : Nat → Mem → Int32 → Int32 → Option (Int32 × Mem)
  | 0, _, _, _ => none
  | n + 1, mem, x2, x3 =>
    if z1 ≤ x3 then (some (x2, mem)) else (if mem 0 12 ≤ 0 then (some (x2, mem)) else (gI ((mem 0 12) - 1) 5 (gI (mem 9 ((mem 0 12) - 1).toNatClampNeg) 10 (gI (mem 9 ((mem 0 12) - 1).toNatClampNeg) 10 (gI ((mem 0 12) - 1) 5 (gI ((mem 0 12) - 1) 5 (gI ((mem 0 12) - 1) 5 (gI ((mem 0 12) - 1) 5 (gI ((mem 0 12) - 1) 5 (if (up2 (up2 (up2 mem 4 (mem 9 ((mem 0 12) - 1).toNatClampNeg).toNatClampNeg ((mem 4 (mem 9 ((mem 0 12) - 1).toNatClampNeg).toNatClampNeg) + 1)) 12 ((mem 0 12) - 1).toNatClampNeg (((up2 mem 4 (mem 9 ((mem 0 12) - 1).toNatClampNeg).toNatClampNeg ((mem 4 (mem 9 ((mem 0 12) - 1).toNatClampNeg).toNatClampNeg) + 1)) 12 ((mem 0 12) - 1).toNatClampNeg) + 1)) 11 ((mem 0 12) - 1).toNatClampNeg (((up2 (up2 mem 4 (mem 9 ((mem 0 12) - 1).toNatClampNeg).toNatClampNeg ((mem 4 (mem 9 ((mem 0 12) - 1).toNatClampNeg).toNatClampNeg) + 1)) 12 ((mem 0 12) - 1).toNatClampNeg (((up2 mem 4 (mem 9 ((mem 0 12) - 1).toNatClampNeg).toNatClampNeg ((mem 4 (mem 9 ((mem 0 12) - 1).toNatClampNeg).toNatClampNeg) + 1)) 12 ((mem 0 12) - 1).toNatClampNeg) + 1)) 11 ((mem 0 12) - 1).toNatClampNeg) - 1)) 11 ((mem 0 12) - 1).toNatClampNeg = 0 then (ob1 (fX9_end (up2 (up2 (up2 mem 4 (mem 9 ((mem 0 12) - 1).toNatClampNeg).toNatClampNeg ((mem 4 (mem 9 ((mem 0 12) - 1).toNatClampNeg).toNatClampNeg) + 1)) 12 ((mem 0 12) - 1).toNatClampNeg (((up2 mem 4 (mem 9 ((mem 0 12) - 1).toNatClampNeg).toNatClampNeg ((mem 4 (mem 9 ((mem 0 12) - 1).toNatClampNeg).toNatClampNeg) + 1)) 12 ((mem 0 12) - 1).toNatClampNeg) + 1)) 11 ((mem 0 12) - 1).toNatClampNeg (((up2 (up2 mem 4 (mem 9 ((mem 0 12) - 1).toNatClampNeg).toNatClampNeg ((mem 4 (mem 9 ((mem 0 12) - 1).toNatClampNeg).toNatClampNeg) + 1)) 12 ((mem 0 12) - 1).toNatClampNeg (((up2 mem 4 (mem 9 ((mem 0 12) - 1).toNatClampNeg).toNatClampNeg ((mem 4 (mem 9 ((mem 0 12) - 1).toNatClampNeg).toNatClampNeg) + 1)) 12 ((mem 0 12) - 1).toNatClampNeg) + 1)) 11 ((mem 0 12) - 1).toNatClampNeg) - 1))) (fun m17 => fX9_tick_21 z1 n m17 (x2 + 1) (x3 + 1))) else (fX9_tick_21 z1 n (up2 (up2 (up2 mem 4 (mem 9 ((mem 0 12) - 1).toNatClampNeg).toNatClampNeg ((mem 4 (mem 9 ((mem 0 12) - 1).toNatClampNeg).toNatClampNeg) + 1)) 12 ((mem 0 12) - 1).toNatClampNeg (((up2 mem 4 (mem 9 ((mem 0 12) - 1).toNatClampNeg).toNatClampNeg ((mem 4 (mem 9 ((mem 0 12) - 1).toNatClampNeg).toNatClampNeg) + 1)) 12 ((mem 0 12) - 1).toNatClampNeg) + 1)) 11 ((mem 0 12) - 1).toNatClampNeg (((up2 (up2 mem 4 (mem 9 ((mem 0 12) - 1).toNatClampNeg).toNatClampNeg ((mem 4 (mem 9 ((mem 0 12) - 1).toNatClampNeg).toNatClampNeg) + 1)) 12 ((mem 0 12) - 1).toNatClampNeg (((up2 mem 4 (mem 9 ((mem 0 12) - 1).toNatClampNeg).toNatClampNeg ((mem 4 (mem 9 ((mem 0 12) - 1).toNatClampNeg).toNatClampNeg) + 1)) 12 ((mem 0 12) - 1).toNatClampNeg) + 1)) 11 ((mem 0 12) - 1).toNatClampNeg) - 1)) (x2 + 1) (x3 + 1))))))))))))
set_option maxHeartbeats 4000000 in
set_option maxRecDepth 100000 in
theorem lpX9_tick_21 {p : Program} {l : Launch} {e : Env} {s : State} {m : MethodId} {args : Array Value} {below : List Frame} {meth : Method} {c : Code} (g : gG) (ad : Nat → Nat) (z1 : Int32) (r : Int32) (mem2 : Mem) (C0 : cxt (eM g ad) cX9_tick 5 RX9 (some .int) p s m args meth c) :
    ∀ (n : Nat) (mem : Mem) (x2 : Int32) (x3 : Int32) (H : Heap) (locs : List Loc) (ls : Array Slot), fX9_tick_21 z1 n mem x2 x3 = some (r, mem2) → va_P g.1 vwCl (wM g ad mem) H → va_S (AW 29 ad) s.heap H locs → lv_has ls 5 [(0, .ref (ad 0)), (1, .int z1), (2, .int x2), (3, .int x3)] → W p l e { frames := 2, cells := 0, slots := 0, locals := 46 } s m args below meth c H locs 0 0 (MQ below (qW (wM g ad mem2) g (AW 29 ad) (some (.int r)) (True)) args s 0 0 (AW 29 ad)) (F0 m 21 ls []) := by
  obtain ⟨hx, hb, hml, hown, hts, hr, hlk, hE⟩ := id C0
  obtain ⟨hK, hA⟩ := id hE
  intro n
  induction n with
  | zero =>
    intro mem x2 x3 H locs ls hF hP hS hl
    cases hF
  | succ n ih =>
    intro mem x2 x3 H locs ls hF hP hS hl
    rw [fX9_tick_21] at hF
    refine lv_iload_n hx hb dX9_tick_21 rfl (lv_at hl 3 rfl) ?_
    refine lv_iload_n hx hb dX9_tick_22 rfl (lv_at hl 1 rfl) ?_
    refine lv_icmp_ge (tgt := 102) hx hb dX9_tick_23 (by decide) (fun c5 => ?_) (fun c5 => ?_)
    · replace hF := (if_pos c5).symm.trans hF
      refine lv_iload_n hx hb dX9_tick_102 rfl (lv_at hl 2 rfl) ?_
      cases hF
      exact ret_Wi C0 hP hS trivial dX9_tick_103
    · replace hF := (if_neg c5).symm.trans hF
      refine lv_aload_n hx hb dX9_tick_26 rfl (lv_at hl 0 rfl) ?_
      refine get_W C0 hK hP iwX9 0 wM_0 rfl 12 (by decide) mF_X9_172 rfl rfl dX9_tick_27 ?_
      refine lv_if_le (tgt := 102) hx hb dX9_tick_30 (by decide) (fun c6 => ?_) (fun c6 => ?_)
      · replace hF := (if_pos c6).symm.trans hF
        refine lv_iload_n hx hb dX9_tick_102 rfl (lv_at hl 2 rfl) ?_
        cases hF
        exact ret_Wi C0 hP hS trivial dX9_tick_103
      · replace hF := (if_neg c6).symm.trans hF
        refine lv_aload_n hx hb dX9_tick_33 rfl (lv_at hl 0 rfl) ?_
        refine get_W C0 hK hP iwX9 0 wM_0 rfl 12 (by decide) mF_X9_172 rfl rfl dX9_tick_34 ?_
        refine lv_iconst (v := 1) hx hb dX9_tick_37 (by decide) ?_
        refine lv_isub hx hb dX9_tick_38 ?_
        refine lv_istore (lv' := [(4, .int ((mem 0 12) - 1)), (0, .ref (ad 0)), (1, .int z1), (2, .int x2), (3, .int x3)]) hx hb dX9_tick_39 hl (by decide) rfl (fun ls hl => ?_)
        refine lv_aload_n hx hb dX9_tick_41 rfl (lv_at hl 1 rfl) ?_
        refine get_W C0 hK hP iwX9 0 wM_0 rfl 4 (by decide) mF_X9_20 rfl rfl dX9_tick_42 ?_
        refine lv_aload_n hx hb dX9_tick_45 rfl (lv_at hl 1 rfl) ?_
        refine get_W C0 hK hP iwX9 0 wM_0 rfl 13 (by decide) mF_X9_39 rfl rfl dX9_tick_46 ?_
        refine lv_iload hx hb dX9_tick_49 (lv_at hl 0 rfl) ?_
        obtain ⟨g7, hF⟩ := gI_some hF
        refine va_iald hx hb hK hP 9 0 wM_9 rfl g7 dX9_tick_51 ?_
        refine lv_dup2_11 hx hb dX9_tick_52 rfl rfl ?_
        obtain ⟨g8, hF⟩ := gI_some hF
        refine va_iald hx hb hK hP 4 0 wM_4 rfl g8 dX9_tick_53 ?_
        refine lv_iconst (v := 1) hx hb dX9_tick_54 (by decide) ?_
        refine lv_iadd hx hb dX9_tick_55 ?_
        obtain ⟨g9, hF⟩ := gI_some hF
        refine iast_W C0 hK hP (wM_D hA) hS 4 wM_4 g9 wM_s4 dX9_tick_56 (fun H locs hP hS => ?_)
        refine lv_aload_n hx hb dX9_tick_57 rfl (lv_at hl 1 rfl) ?_
        refine get_W C0 hK hP iwX9 0 wM_0 rfl 16 (by decide) mF_X9_48 rfl rfl dX9_tick_58 ?_
        refine lv_iload hx hb dX9_tick_61 (lv_at hl 0 rfl) ?_
        refine lv_dup2_11 hx hb dX9_tick_63 rfl rfl ?_
        obtain ⟨g10, hF⟩ := gI_some hF
        refine va_iald hx hb hK hP 12 0 wM_12 rfl g10 dX9_tick_64 ?_
        refine lv_iconst (v := 1) hx hb dX9_tick_65 (by decide) ?_
        refine lv_iadd hx hb dX9_tick_66 ?_
        obtain ⟨g11, hF⟩ := gI_some hF
        refine iast_W C0 hK hP (wM_D hA) hS 12 wM_12 g11 wM_s12 dX9_tick_67 (fun H locs hP hS => ?_)
        refine lv_aload_n hx hb dX9_tick_68 rfl (lv_at hl 1 rfl) ?_
        refine get_W C0 hK hP iwX9 0 wM_0 rfl 15 (by decide) mF_X9_45 rfl rfl dX9_tick_69 ?_
        refine lv_iload hx hb dX9_tick_72 (lv_at hl 0 rfl) ?_
        refine lv_dup2_11 hx hb dX9_tick_74 rfl rfl ?_
        obtain ⟨g12, hF⟩ := gI_some hF
        refine va_iald hx hb hK hP 11 0 wM_11 rfl g12 dX9_tick_75 ?_
        refine lv_iconst (v := 1) hx hb dX9_tick_76 (by decide) ?_
        refine lv_isub hx hb dX9_tick_77 ?_
        obtain ⟨g13, hF⟩ := gI_some hF
        refine iast_W C0 hK hP (wM_D hA) hS 11 wM_11 g13 wM_s11 dX9_tick_78 (fun H locs hP hS => ?_)
        refine lv_iinc (v := x2 + 1) (lv' := [(2, .int (x2 + 1)), (4, .int ((mem 0 12) - 1)), (0, .ref (ad 0)), (1, .int z1), (3, .int x3)]) hx hb dX9_tick_79 hl (k := 3) rfl rfl (by decide) rfl (fun ls hl => ?_)
        refine lv_aload_n hx hb dX9_tick_82 rfl (lv_at hl 2 rfl) ?_
        refine get_W C0 hK hP iwX9 0 wM_0 rfl 15 (by decide) mF_X9_45 rfl rfl dX9_tick_83 ?_
        refine lv_iload hx hb dX9_tick_86 (lv_at hl 1 rfl) ?_
        obtain ⟨g14, hF⟩ := gI_some hF
        refine va_iald hx hb hK hP 11 0 wM_11 rfl g14 dX9_tick_88 ?_
        refine lv_if_ne (tgt := 96) hx hb dX9_tick_89 (by decide) (fun c15 => ?_) (fun c15 => ?_)
        · replace hF := (if_neg c15).symm.trans hF
          refine lv_iinc (v := x3 + 1) (lv' := [(3, .int (x3 + 1)), (2, .int (x2 + 1)), (4, .int ((mem 0 12) - 1)), (0, .ref (ad 0)), (1, .int z1)]) hx hb dX9_tick_96 hl (k := 4) rfl rfl (by decide) rfl (fun ls hl => ?_)
          refine lv_goto (tgt := 21) hx hb dX9_tick_99 (by decide) ?_
          exact ih (up2 (up2 (up2 mem 4 (mem 9 ((mem 0 12) - 1).toNatClampNeg).toNatClampNeg ((mem 4 (mem 9 ((mem 0 12) - 1).toNatClampNeg).toNatClampNeg) + 1)) 12 ((mem 0 12) - 1).toNatClampNeg (((up2 mem 4 (mem 9 ((mem 0 12) - 1).toNatClampNeg).toNatClampNeg ((mem 4 (mem 9 ((mem 0 12) - 1).toNatClampNeg).toNatClampNeg) + 1)) 12 ((mem 0 12) - 1).toNatClampNeg) + 1)) 11 ((mem 0 12) - 1).toNatClampNeg (((up2 (up2 mem 4 (mem 9 ((mem 0 12) - 1).toNatClampNeg).toNatClampNeg ((mem 4 (mem 9 ((mem 0 12) - 1).toNatClampNeg).toNatClampNeg) + 1)) 12 ((mem 0 12) - 1).toNatClampNeg (((up2 mem 4 (mem 9 ((mem 0 12) - 1).toNatClampNeg).toNatClampNeg ((mem 4 (mem 9 ((mem 0 12) - 1).toNatClampNeg).toNatClampNeg) + 1)) 12 ((mem 0 12) - 1).toNatClampNeg) + 1)) 11 ((mem 0 12) - 1).toNatClampNeg) - 1)) (x2 + 1) (x3 + 1) _ _ ls hF hP hS (lv_sub hl [3, 4, 1, 0] rfl)
        · replace hF := (if_pos c15).symm.trans hF
          refine lv_aload_n hx hb dX9_tick_92 rfl (lv_at hl 2 rfl) ?_
          obtain ⟨m17, h16, hF⟩ := ob_some hF
          refine cV_Wv C0 eM_st hP hS hK pkX9_end (As := []) (rest := []) (kX9_end l g ad (up2 (up2 (up2 mem 4 (mem 9 ((mem 0 12) - 1).toNatClampNeg).toNatClampNeg ((mem 4 (mem 9 ((mem 0 12) - 1).toNatClampNeg).toNatClampNeg) + 1)) 12 ((mem 0 12) - 1).toNatClampNeg (((up2 mem 4 (mem 9 ((mem 0 12) - 1).toNatClampNeg).toNatClampNeg ((mem 4 (mem 9 ((mem 0 12) - 1).toNatClampNeg).toNatClampNeg) + 1)) 12 ((mem 0 12) - 1).toNatClampNeg) + 1)) 11 ((mem 0 12) - 1).toNatClampNeg (((up2 (up2 mem 4 (mem 9 ((mem 0 12) - 1).toNatClampNeg).toNatClampNeg ((mem 4 (mem 9 ((mem 0 12) - 1).toNatClampNeg).toNatClampNeg) + 1)) 12 ((mem 0 12) - 1).toNatClampNeg (((up2 mem 4 (mem 9 ((mem 0 12) - 1).toNatClampNeg).toNatClampNeg ((mem 4 (mem 9 ((mem 0 12) - 1).toNatClampNeg).toNatClampNeg) + 1)) 12 ((mem 0 12) - 1).toNatClampNeg) + 1)) 11 ((mem 0 12) - 1).toNatClampNeg) - 1)) m17 h16) mL_X9_185 ⟨rfl, rfl, Nat.le_of_ble_eq_true rfl, Nat.le_of_ble_eq_true rfl, Nat.le_of_ble_eq_true rfl, Nat.le_of_ble_eq_true rfl⟩ 0 wM_0 rfl rfl rfl hl.1 rfl (Nat.le_of_ble_eq_true rfl) dX9_tick_93 (fun H locs _ hP hS => ?_)
          refine lv_iinc (v := x3 + 1) (lv' := [(3, .int (x3 + 1)), (2, .int (x2 + 1)), (4, .int ((mem 0 12) - 1)), (0, .ref (ad 0)), (1, .int z1)]) hx hb dX9_tick_96 hl (k := 4) rfl rfl (by decide) rfl (fun ls hl => ?_)
          refine lv_goto (tgt := 21) hx hb dX9_tick_99 (by decide) ?_
          exact ih m17 (x2 + 1) (x3 + 1) _ _ ls hF hP hS (lv_sub hl [3, 4, 1, 0] rfl)
def fX9_tick (mem : Mem) (a1 : Int32) : Option (Int32 × Mem) :=
  ob1 (fX9_isIn a1 1 100) (fun r2 => if r2 = 0 then (ob2 (fX9_finding mem (-100001)) (fun r20 m19 => some (r20, m19))) else (fX9_tick_21 a1 fu mem 0 0))
set_option maxHeartbeats 4000000 in
set_option maxRecDepth 100000 in
theorem kX9_tick (l : Launch) (g : gG) (ad : Nat → Nat) (mem : Mem) (a1 : Int32) (r : Int32) (mem2 : Mem) (hF : fX9_tick mem a1 = some (r, mem2)) : Met l yX9_tick (Cond.code yX9_tick cX9_tick 5 (some .int) :: gw) { frames := 2, cells := 0, slots := 0, locals := 46 } (pG (wM g ad mem) (eM g ad) g [.ref (ad 0), .int a1]) (qW (wM g ad mem2) g (AW 29 ad) (some (.int r)) (True)) 0 0 (AW 29 ad) := by
  refine met_of (by decide) (Nat.le_of_ble_eq_true rfl) ?_
  intro p e s m args below meth c ls C0 hP hl
  obtain ⟨hx, hb, hml, hown, hts, hr, hlk, hE⟩ := id C0
  obtain ⟨hK, hA⟩ := id hE
  have hl : lv_has ls 5 [(0, .ref (ad 0)), (1, .int a1)] := hl
  have hS : va_S (AW 29 ad) s.heap s.heap [] := va_S.rf
  unfold fX9_tick at hF
  refine lv_iload_n hx hb dX9_tick_0 rfl (lv_at hl 1 rfl) ?_
  refine lv_iconst (v := 1) hx hb dX9_tick_1 (by decide) ?_
  refine lv_bipush (v := 100) hx hb dX9_tick_2 (by decide) ?_
  obtain ⟨r2, h1, hF⟩ := ob_some hF
  refine cS_Ri C0 pkX9_isIn (As := [.int a1, .int 1, .int 100]) (rest := []) (kX9_isIn l g a1 1 100 r2 h1) mL_X9_105 ⟨rfl, rfl, Nat.le_of_ble_eq_true rfl, Nat.le_of_ble_eq_true rfl, Nat.le_of_ble_eq_true rfl, Nat.le_of_ble_eq_true rfl⟩ rfl hl.1 rfl (Nat.le_of_ble_eq_true rfl) dX9_tick_4 (fun b3 => ?_)
  refine lv_if_ne (tgt := 17) hx hb dX9_tick_7 (by decide) (fun c4 => ?_) (fun c4 => ?_)
  · replace hF := (if_neg c4).symm.trans hF
    refine lv_iconst (v := 0) hx hb dX9_tick_17 (by decide) ?_
    refine lv_istore_n (lv' := [(2, .int 0), (0, .ref (ad 0)), (1, .int a1)]) hx hb dX9_tick_18 rfl hl (by decide) rfl (fun ls hl => ?_)
    refine lv_iconst (v := 0) hx hb dX9_tick_19 (by decide) ?_
    refine lv_istore_n (lv' := [(3, .int 0), (2, .int 0), (0, .ref (ad 0)), (1, .int a1)]) hx hb dX9_tick_20 rfl hl (by decide) rfl (fun ls hl => ?_)
    exact lpX9_tick_21 g ad a1 r mem2 C0 fu mem 0 0 _ _ ls hF hP hS (lv_sub hl [2, 3, 1, 0] rfl)
  · replace hF := (if_pos c4).symm.trans hF
    refine lv_aload_n hx hb dX9_tick_10 rfl (lv_at hl 0 rfl) ?_
    refine lv_ldc hx hb hown (hts _ mK_X9_109) dX9_tick_11 ?_
    obtain ⟨r20, m19, h18, hF⟩ := ob2_some hF
    refine cV_Wi C0 eM_st hP hS hK pkX9_finding (As := [.int (-100001)]) (rest := []) (kX9_finding l g ad mem (-100001) r20 m19 h18) mL_X9_110 ⟨rfl, rfl, Nat.le_of_ble_eq_true rfl, Nat.le_of_ble_eq_true rfl, Nat.le_of_ble_eq_true rfl, Nat.le_of_ble_eq_true rfl⟩ 0 wM_0 rfl rfl rfl hl.1 rfl (Nat.le_of_ble_eq_true rfl) dX9_tick_13 (fun H locs _ hP hS => ?_)
    cases hF
    exact ret_Wi C0 hP hS trivial dX9_tick_16
theorem pkX9_yield : pkV yX9_yield cX9_yield 1 (some .int) RX9 0 := ⟨mI_X9_yield, mS_X9_yield, mN_X9, mC_X9_yield, by decide +kernel⟩
def fX9_yield (mem : Mem) : Option (Int32 × Mem) :=
  if mem 0 12 = 0 then (ob2 (fX9_finding mem (-100006)) (fun r8 m7 => some (r8, m7))) else (ob1 (fX9_end mem) (fun m3 => if m3 0 12 = 0 then (some ((-1), m3)) else (gI ((m3 0 12) - 1) 5 (some (m3 9 ((m3 0 12) - 1).toNatClampNeg, m3)))))
set_option maxHeartbeats 4000000 in
set_option maxRecDepth 100000 in
theorem kX9_yield (l : Launch) (g : gG) (ad : Nat → Nat) (mem : Mem) (r : Int32) (mem2 : Mem) (hF : fX9_yield mem = some (r, mem2)) : Met l yX9_yield (Cond.code yX9_yield cX9_yield 1 (some .int) :: gw) { frames := 2, cells := 0, slots := 0, locals := 45 } (pG (wM g ad mem) (eM g ad) g [.ref (ad 0)]) (qW (wM g ad mem2) g (AW 29 ad) (some (.int r)) (True)) 0 0 (AW 29 ad) := by
  refine met_of (by decide) (Nat.le_of_ble_eq_true rfl) ?_
  intro p e s m args below meth c ls C0 hP hl
  obtain ⟨hx, hb, hml, hown, hts, hr, hlk, hE⟩ := id C0
  obtain ⟨hK, hA⟩ := id hE
  have hl : lv_has ls 1 [(0, .ref (ad 0))] := hl
  have hS : va_S (AW 29 ad) s.heap s.heap [] := va_S.rf
  unfold fX9_yield at hF
  refine lv_aload_n hx hb dX9_yield_0 rfl (lv_at hl 0 rfl) ?_
  refine get_W C0 hK hP iwX9 0 wM_0 rfl 12 (by decide) mF_X9_172 rfl rfl dX9_yield_1 ?_
  refine lv_if_ne (tgt := 14) hx hb dX9_yield_4 (by decide) (fun c1 => ?_) (fun c1 => ?_)
  · replace hF := (if_neg c1).symm.trans hF
    refine lv_aload_n hx hb dX9_yield_14 rfl (lv_at hl 0 rfl) ?_
    obtain ⟨m3, h2, hF⟩ := ob_some hF
    refine cV_Wv C0 eM_st hP hS hK pkX9_end (As := []) (rest := []) (kX9_end l g ad mem m3 h2) mL_X9_185 ⟨rfl, rfl, Nat.le_of_ble_eq_true rfl, Nat.le_of_ble_eq_true rfl, Nat.le_of_ble_eq_true rfl, Nat.le_of_ble_eq_true rfl⟩ 0 wM_0 rfl rfl rfl hl.1 rfl (Nat.le_of_ble_eq_true rfl) dX9_yield_15 (fun H locs _ hP hS => ?_)
    refine lv_aload_n hx hb dX9_yield_18 rfl (lv_at hl 0 rfl) ?_
    refine get_W C0 hK hP iwX9 0 wM_0 rfl 12 (by decide) mF_X9_172 rfl rfl dX9_yield_19 ?_
    refine lv_if_ne (tgt := 29) hx hb dX9_yield_22 (by decide) (fun c4 => ?_) (fun c4 => ?_)
    · replace hF := (if_neg c4).symm.trans hF
      refine lv_aload_n hx hb dX9_yield_29 rfl (lv_at hl 0 rfl) ?_
      refine get_W C0 hK hP iwX9 0 wM_0 rfl 13 (by decide) mF_X9_39 rfl rfl dX9_yield_30 ?_
      refine lv_aload_n hx hb dX9_yield_33 rfl (lv_at hl 0 rfl) ?_
      refine get_W C0 hK hP iwX9 0 wM_0 rfl 12 (by decide) mF_X9_172 rfl rfl dX9_yield_34 ?_
      refine lv_iconst (v := 1) hx hb dX9_yield_37 (by decide) ?_
      refine lv_isub hx hb dX9_yield_38 ?_
      obtain ⟨g5, hF⟩ := gI_some hF
      refine va_iald hx hb hK hP 9 0 wM_9 rfl g5 dX9_yield_39 ?_
      cases hF
      exact ret_Wi C0 hP hS trivial dX9_yield_40
    · replace hF := (if_pos c4).symm.trans hF
      refine lv_iconst (v := (-1)) hx hb dX9_yield_25 (by decide) ?_
      refine lv_goto (tgt := 40) hx hb dX9_yield_26 (by decide) ?_
      cases hF
      exact ret_Wi C0 hP hS trivial dX9_yield_40
  · replace hF := (if_pos c1).symm.trans hF
    refine lv_aload_n hx hb dX9_yield_7 rfl (lv_at hl 0 rfl) ?_
    refine lv_ldc hx hb hown (hts _ mK_X9_141) dX9_yield_8 ?_
    obtain ⟨r8, m7, h6, hF⟩ := ob2_some hF
    refine cV_Wi C0 eM_st hP hS hK pkX9_finding (As := [.int (-100006)]) (rest := []) (kX9_finding l g ad mem (-100006) r8 m7 h6) mL_X9_110 ⟨rfl, rfl, Nat.le_of_ble_eq_true rfl, Nat.le_of_ble_eq_true rfl, Nat.le_of_ble_eq_true rfl, Nat.le_of_ble_eq_true rfl⟩ 0 wM_0 rfl rfl rfl hl.1 rfl (Nat.le_of_ble_eq_true rfl) dX9_yield_10 (fun H locs _ hP hS => ?_)
    cases hF
    exact ret_Wi C0 hP hS trivial dX9_yield_13
theorem pkX9_floor : pkV yX9_floor cX9_floor 2 (some .int) RX9 1 := ⟨mI_X9_floor, mS_X9_floor, mN_X9, mC_X9_floor, by decide +kernel⟩
def fX9_floor (mem : Mem) (a1 : Int32) : Option (Int32 × Mem) :=
  ob1 (fX9_isIn a1 0 3) (fun r2 => if r2 = 0 then (ob2 (fX9_finding mem (-100001)) (fun r18 m17 => some (r18, m17))) else (if a1 = 3 then (if mem 0 12 = 0 then (some (0, mem)) else (some ((mem 0 12) - 1, mem))) else (if mem 0 12 = 0 then (ob2 (fX9_finding mem (-100006)) (fun r14 m13 => some (r14, m13))) else (if a1 = 0 then (gI ((mem 0 12) - 1) 5 (some (mem 9 ((mem 0 12) - 1).toNatClampNeg, mem))) else (if a1 = 1 then (gI ((mem 0 12) - 1) 5 (some (mem 10 ((mem 0 12) - 1).toNatClampNeg, mem))) else (gI ((mem 0 12) - 1) 5 (some (mem 11 ((mem 0 12) - 1).toNatClampNeg, mem))))))))
set_option maxHeartbeats 4000000 in
set_option maxRecDepth 100000 in
theorem kX9_floor (l : Launch) (g : gG) (ad : Nat → Nat) (mem : Mem) (a1 : Int32) (r : Int32) (mem2 : Mem) (hF : fX9_floor mem a1 = some (r, mem2)) : Met l yX9_floor (Cond.code yX9_floor cX9_floor 2 (some .int) :: gw) { frames := 2, cells := 0, slots := 0, locals := 46 } (pG (wM g ad mem) (eM g ad) g [.ref (ad 0), .int a1]) (qW (wM g ad mem2) g (AW 29 ad) (some (.int r)) (True)) 0 0 (AW 29 ad) := by
  refine met_of (by decide) (Nat.le_of_ble_eq_true rfl) ?_
  intro p e s m args below meth c ls C0 hP hl
  obtain ⟨hx, hb, hml, hown, hts, hr, hlk, hE⟩ := id C0
  obtain ⟨hK, hA⟩ := id hE
  have hl : lv_has ls 2 [(0, .ref (ad 0)), (1, .int a1)] := hl
  have hS : va_S (AW 29 ad) s.heap s.heap [] := va_S.rf
  unfold fX9_floor at hF
  refine lv_iload_n hx hb dX9_floor_0 rfl (lv_at hl 1 rfl) ?_
  refine lv_iconst (v := 0) hx hb dX9_floor_1 (by decide) ?_
  refine lv_iconst (v := 3) hx hb dX9_floor_2 (by decide) ?_
  obtain ⟨r2, h1, hF⟩ := ob_some hF
  refine cS_Ri C0 pkX9_isIn (As := [.int a1, .int 0, .int 3]) (rest := []) (kX9_isIn l g a1 0 3 r2 h1) mL_X9_105 ⟨rfl, rfl, Nat.le_of_ble_eq_true rfl, Nat.le_of_ble_eq_true rfl, Nat.le_of_ble_eq_true rfl, Nat.le_of_ble_eq_true rfl⟩ rfl hl.1 rfl (Nat.le_of_ble_eq_true rfl) dX9_floor_3 (fun b3 => ?_)
  refine lv_if_ne (tgt := 16) hx hb dX9_floor_6 (by decide) (fun c4 => ?_) (fun c4 => ?_)
  · replace hF := (if_neg c4).symm.trans hF
    refine lv_iload_n hx hb dX9_floor_16 rfl (lv_at hl 1 rfl) ?_
    refine lv_iconst (v := 3) hx hb dX9_floor_17 (by decide) ?_
    refine lv_icmp_ne (tgt := 39) hx hb dX9_floor_18 (by decide) (fun c5 => ?_) (fun c5 => ?_)
    · replace hF := (if_neg c5).symm.trans hF
      refine lv_aload_n hx hb dX9_floor_39 rfl (lv_at hl 0 rfl) ?_
      refine get_W C0 hK hP iwX9 0 wM_0 rfl 12 (by decide) mF_X9_172 rfl rfl dX9_floor_40 ?_
      refine lv_if_ne (tgt := 53) hx hb dX9_floor_43 (by decide) (fun c6 => ?_) (fun c6 => ?_)
      · replace hF := (if_neg c6).symm.trans hF
        refine lv_iload_n hx hb dX9_floor_53 rfl (lv_at hl 1 rfl) ?_
        refine lv_if_ne (tgt := 71) hx hb dX9_floor_54 (by decide) (fun c7 => ?_) (fun c7 => ?_)
        · replace hF := (if_neg c7).symm.trans hF
          refine lv_iload_n hx hb dX9_floor_71 rfl (lv_at hl 1 rfl) ?_
          refine lv_iconst (v := 1) hx hb dX9_floor_72 (by decide) ?_
          refine lv_icmp_ne (tgt := 90) hx hb dX9_floor_73 (by decide) (fun c8 => ?_) (fun c8 => ?_)
          · replace hF := (if_neg c8).symm.trans hF
            refine lv_aload_n hx hb dX9_floor_90 rfl (lv_at hl 0 rfl) ?_
            refine get_W C0 hK hP iwX9 0 wM_0 rfl 15 (by decide) mF_X9_45 rfl rfl dX9_floor_91 ?_
            refine lv_aload_n hx hb dX9_floor_94 rfl (lv_at hl 0 rfl) ?_
            refine get_W C0 hK hP iwX9 0 wM_0 rfl 12 (by decide) mF_X9_172 rfl rfl dX9_floor_95 ?_
            refine lv_iconst (v := 1) hx hb dX9_floor_98 (by decide) ?_
            refine lv_isub hx hb dX9_floor_99 ?_
            obtain ⟨g9, hF⟩ := gI_some hF
            refine va_iald hx hb hK hP 11 0 wM_11 rfl g9 dX9_floor_100 ?_
            cases hF
            exact ret_Wi C0 hP hS trivial dX9_floor_101
          · replace hF := (if_pos c8).symm.trans hF
            refine lv_aload_n hx hb dX9_floor_76 rfl (lv_at hl 0 rfl) ?_
            refine get_W C0 hK hP iwX9 0 wM_0 rfl 14 (by decide) mF_X9_42 rfl rfl dX9_floor_77 ?_
            refine lv_aload_n hx hb dX9_floor_80 rfl (lv_at hl 0 rfl) ?_
            refine get_W C0 hK hP iwX9 0 wM_0 rfl 12 (by decide) mF_X9_172 rfl rfl dX9_floor_81 ?_
            refine lv_iconst (v := 1) hx hb dX9_floor_84 (by decide) ?_
            refine lv_isub hx hb dX9_floor_85 ?_
            obtain ⟨g10, hF⟩ := gI_some hF
            refine va_iald hx hb hK hP 10 0 wM_10 rfl g10 dX9_floor_86 ?_
            refine lv_goto (tgt := 101) hx hb dX9_floor_87 (by decide) ?_
            cases hF
            exact ret_Wi C0 hP hS trivial dX9_floor_101
        · replace hF := (if_pos c7).symm.trans hF
          refine lv_aload_n hx hb dX9_floor_57 rfl (lv_at hl 0 rfl) ?_
          refine get_W C0 hK hP iwX9 0 wM_0 rfl 13 (by decide) mF_X9_39 rfl rfl dX9_floor_58 ?_
          refine lv_aload_n hx hb dX9_floor_61 rfl (lv_at hl 0 rfl) ?_
          refine get_W C0 hK hP iwX9 0 wM_0 rfl 12 (by decide) mF_X9_172 rfl rfl dX9_floor_62 ?_
          refine lv_iconst (v := 1) hx hb dX9_floor_65 (by decide) ?_
          refine lv_isub hx hb dX9_floor_66 ?_
          obtain ⟨g11, hF⟩ := gI_some hF
          refine va_iald hx hb hK hP 9 0 wM_9 rfl g11 dX9_floor_67 ?_
          refine lv_goto (tgt := 101) hx hb dX9_floor_68 (by decide) ?_
          cases hF
          exact ret_Wi C0 hP hS trivial dX9_floor_101
      · replace hF := (if_pos c6).symm.trans hF
        refine lv_aload_n hx hb dX9_floor_46 rfl (lv_at hl 0 rfl) ?_
        refine lv_ldc hx hb hown (hts _ mK_X9_141) dX9_floor_47 ?_
        obtain ⟨r14, m13, h12, hF⟩ := ob2_some hF
        refine cV_Wi C0 eM_st hP hS hK pkX9_finding (As := [.int (-100006)]) (rest := []) (kX9_finding l g ad mem (-100006) r14 m13 h12) mL_X9_110 ⟨rfl, rfl, Nat.le_of_ble_eq_true rfl, Nat.le_of_ble_eq_true rfl, Nat.le_of_ble_eq_true rfl, Nat.le_of_ble_eq_true rfl⟩ 0 wM_0 rfl rfl rfl hl.1 rfl (Nat.le_of_ble_eq_true rfl) dX9_floor_49 (fun H locs _ hP hS => ?_)
        cases hF
        exact ret_Wi C0 hP hS trivial dX9_floor_52
    · replace hF := (if_pos c5).symm.trans hF
      refine lv_aload_n hx hb dX9_floor_21 rfl (lv_at hl 0 rfl) ?_
      refine get_W C0 hK hP iwX9 0 wM_0 rfl 12 (by decide) mF_X9_172 rfl rfl dX9_floor_22 ?_
      refine lv_if_ne (tgt := 32) hx hb dX9_floor_25 (by decide) (fun c15 => ?_) (fun c15 => ?_)
      · replace hF := (if_neg c15).symm.trans hF
        refine lv_aload_n hx hb dX9_floor_32 rfl (lv_at hl 0 rfl) ?_
        refine get_W C0 hK hP iwX9 0 wM_0 rfl 12 (by decide) mF_X9_172 rfl rfl dX9_floor_33 ?_
        refine lv_iconst (v := 1) hx hb dX9_floor_36 (by decide) ?_
        refine lv_isub hx hb dX9_floor_37 ?_
        cases hF
        exact ret_Wi C0 hP hS trivial dX9_floor_38
      · replace hF := (if_pos c15).symm.trans hF
        refine lv_iconst (v := 0) hx hb dX9_floor_28 (by decide) ?_
        refine lv_goto (tgt := 38) hx hb dX9_floor_29 (by decide) ?_
        cases hF
        exact ret_Wi C0 hP hS trivial dX9_floor_38
  · replace hF := (if_pos c4).symm.trans hF
    refine lv_aload_n hx hb dX9_floor_9 rfl (lv_at hl 0 rfl) ?_
    refine lv_ldc hx hb hown (hts _ mK_X9_109) dX9_floor_10 ?_
    obtain ⟨r18, m17, h16, hF⟩ := ob2_some hF
    refine cV_Wi C0 eM_st hP hS hK pkX9_finding (As := [.int (-100001)]) (rest := []) (kX9_finding l g ad mem (-100001) r18 m17 h16) mL_X9_110 ⟨rfl, rfl, Nat.le_of_ble_eq_true rfl, Nat.le_of_ble_eq_true rfl, Nat.le_of_ble_eq_true rfl, Nat.le_of_ble_eq_true rfl⟩ 0 wM_0 rfl rfl rfl hl.1 rfl (Nat.le_of_ble_eq_true rfl) dX9_floor_12 (fun H locs _ hP hS => ?_)
    cases hF
    exact ret_Wi C0 hP hS trivial dX9_floor_15
theorem pkX9_limit : pkV yX9_limit cX9_limit 4 (some .int) RX9 2 := ⟨mI_X9_limit, mS_X9_limit, mN_X9, mC_X9_limit, by decide +kernel⟩
def fX9_limit (mem : Mem) (a1 : Int32) (a2 : Int32) : Option (Int32 × Mem) :=
  ob1 (fX9_isSort a1) (fun r2 => if r2 = 0 then (ob2 (fX9_finding mem (-100001)) (fun r7 m6 => some (r7, m6))) else (ob1 (fX9_isIn a2 1 50) (fun r9 => if r9 = 0 then (ob2 (fX9_finding mem (-100001)) (fun r16 m15 => some (r16, m15))) else (gI a1 3 (gI a1 3 (some (mem 13 a1.toNatClampNeg, up2 mem 13 a1.toNatClampNeg a2)))))))
set_option maxHeartbeats 4000000 in
set_option maxRecDepth 100000 in
theorem kX9_limit (l : Launch) (g : gG) (ad : Nat → Nat) (mem : Mem) (a1 : Int32) (a2 : Int32) (r : Int32) (mem2 : Mem) (hF : fX9_limit mem a1 a2 = some (r, mem2)) : Met l yX9_limit (Cond.code yX9_limit cX9_limit 4 (some .int) :: gw) { frames := 3, cells := 0, slots := 0, locals := 66 } (pG (wM g ad mem) (eM g ad) g [.ref (ad 0), .int a1, .int a2]) (qW (wM g ad mem2) g (AW 29 ad) (some (.int r)) (True)) 0 0 (AW 29 ad) := by
  refine met_of (by decide) (Nat.le_of_ble_eq_true rfl) ?_
  intro p e s m args below meth c ls C0 hP hl
  obtain ⟨hx, hb, hml, hown, hts, hr, hlk, hE⟩ := id C0
  obtain ⟨hK, hA⟩ := id hE
  have hl : lv_has ls 4 [(0, .ref (ad 0)), (1, .int a1), (2, .int a2)] := hl
  have hS : va_S (AW 29 ad) s.heap s.heap [] := va_S.rf
  unfold fX9_limit at hF
  refine lv_iload_n hx hb dX9_limit_0 rfl (lv_at hl 1 rfl) ?_
  obtain ⟨r2, h1, hF⟩ := ob_some hF
  refine cS_Ri C0 pkX9_isSort (As := [.int a1]) (rest := []) (kX9_isSort l g a1 r2 h1) mL_X9_129 ⟨rfl, rfl, Nat.le_of_ble_eq_true rfl, Nat.le_of_ble_eq_true rfl, Nat.le_of_ble_eq_true rfl, Nat.le_of_ble_eq_true rfl⟩ rfl hl.1 rfl (Nat.le_of_ble_eq_true rfl) dX9_limit_1 (fun b3 => ?_)
  refine lv_if_eq (tgt := 17) hx hb dX9_limit_4 (by decide) (fun c4 => ?_) (fun c4 => ?_)
  · replace hF := (if_pos c4).symm.trans hF
    refine lv_aload_n hx hb dX9_limit_17 rfl (lv_at hl 0 rfl) ?_
    refine lv_ldc hx hb hown (hts _ mK_X9_109) dX9_limit_18 ?_
    obtain ⟨r7, m6, h5, hF⟩ := ob2_some hF
    refine cV_Wi C0 eM_st hP hS hK pkX9_finding (As := [.int (-100001)]) (rest := []) (kX9_finding l g ad mem (-100001) r7 m6 h5) mL_X9_110 ⟨rfl, rfl, Nat.le_of_ble_eq_true rfl, Nat.le_of_ble_eq_true rfl, Nat.le_of_ble_eq_true rfl, Nat.le_of_ble_eq_true rfl⟩ 0 wM_0 rfl rfl rfl hl.1 rfl (Nat.le_of_ble_eq_true rfl) dX9_limit_20 (fun H locs _ hP hS => ?_)
    cases hF
    exact ret_Wi C0 hP hS trivial dX9_limit_23
  · replace hF := (if_neg c4).symm.trans hF
    refine lv_iload_n hx hb dX9_limit_7 rfl (lv_at hl 2 rfl) ?_
    refine lv_iconst (v := 1) hx hb dX9_limit_8 (by decide) ?_
    refine lv_bipush (v := 50) hx hb dX9_limit_9 (by decide) ?_
    obtain ⟨r9, h8, hF⟩ := ob_some hF
    refine cS_Ri C0 pkX9_isIn (As := [.int a2, .int 1, .int 50]) (rest := []) (kX9_isIn l g a2 1 50 r9 h8) mL_X9_105 ⟨rfl, rfl, Nat.le_of_ble_eq_true rfl, Nat.le_of_ble_eq_true rfl, Nat.le_of_ble_eq_true rfl, Nat.le_of_ble_eq_true rfl⟩ rfl hl.1 rfl (Nat.le_of_ble_eq_true rfl) dX9_limit_11 (fun b10 => ?_)
    refine lv_if_ne (tgt := 24) hx hb dX9_limit_14 (by decide) (fun c11 => ?_) (fun c11 => ?_)
    · replace hF := (if_neg c11).symm.trans hF
      refine lv_aload_n hx hb dX9_limit_24 rfl (lv_at hl 0 rfl) ?_
      refine get_W C0 hK hP iwX9 0 wM_0 rfl 17 (by decide) mF_X9_51 rfl rfl dX9_limit_25 ?_
      refine lv_iload_n hx hb dX9_limit_28 rfl (lv_at hl 1 rfl) ?_
      obtain ⟨g12, hF⟩ := gI_some hF
      refine va_iald hx hb hK hP 13 0 wM_13 rfl g12 dX9_limit_29 ?_
      refine lv_istore_n (lv' := [(3, .int (mem 13 a1.toNatClampNeg)), (0, .ref (ad 0)), (1, .int a1), (2, .int a2)]) hx hb dX9_limit_30 rfl hl (by decide) rfl (fun ls hl => ?_)
      refine lv_aload_n hx hb dX9_limit_31 rfl (lv_at hl 1 rfl) ?_
      refine get_W C0 hK hP iwX9 0 wM_0 rfl 17 (by decide) mF_X9_51 rfl rfl dX9_limit_32 ?_
      refine lv_iload_n hx hb dX9_limit_35 rfl (lv_at hl 2 rfl) ?_
      refine lv_iload_n hx hb dX9_limit_36 rfl (lv_at hl 3 rfl) ?_
      obtain ⟨g13, hF⟩ := gI_some hF
      refine iast_W C0 hK hP (wM_D hA) hS 13 wM_13 g13 wM_s13 dX9_limit_37 (fun H locs hP hS => ?_)
      refine lv_iload_n hx hb dX9_limit_38 rfl (lv_at hl 0 rfl) ?_
      cases hF
      exact ret_Wi C0 hP hS trivial dX9_limit_39
    · replace hF := (if_pos c11).symm.trans hF
      refine lv_aload_n hx hb dX9_limit_17 rfl (lv_at hl 0 rfl) ?_
      refine lv_ldc hx hb hown (hts _ mK_X9_109) dX9_limit_18 ?_
      obtain ⟨r16, m15, h14, hF⟩ := ob2_some hF
      refine cV_Wi C0 eM_st hP hS hK pkX9_finding (As := [.int (-100001)]) (rest := []) (kX9_finding l g ad mem (-100001) r16 m15 h14) mL_X9_110 ⟨rfl, rfl, Nat.le_of_ble_eq_true rfl, Nat.le_of_ble_eq_true rfl, Nat.le_of_ble_eq_true rfl, Nat.le_of_ble_eq_true rfl⟩ 0 wM_0 rfl rfl rfl hl.1 rfl (Nat.le_of_ble_eq_true rfl) dX9_limit_20 (fun H locs _ hP hS => ?_)
      cases hF
      exact ret_Wi C0 hP hS trivial dX9_limit_23
theorem pkX9_vote : pkV yX9_vote cX9_vote 2 (some .int) RX9 0 := ⟨mI_X9_vote, mS_X9_vote, mN_X9, mC_X9_vote, by decide +kernel⟩
def fX9_vote_21 : Nat → Mem → Int32 → Option (Int32 × Mem)
  | 0, _, _ => none
  | n + 1, mem, x1 =>
    if 10 ≤ x1 then (some (1, mem)) else (gI x1 10 (fX9_vote_21 n (up2 mem 14 x1.toNatClampNeg 0) (x1 + 1)))
set_option maxHeartbeats 4000000 in
set_option maxRecDepth 100000 in
theorem lpX9_vote_21 {p : Program} {l : Launch} {e : Env} {s : State} {m : MethodId} {args : Array Value} {below : List Frame} {meth : Method} {c : Code} (g : gG) (ad : Nat → Nat) (r : Int32) (mem2 : Mem) (C0 : cxt (eM g ad) cX9_vote 2 RX9 (some .int) p s m args meth c) :
    ∀ (n : Nat) (mem : Mem) (x1 : Int32) (H : Heap) (locs : List Loc) (ls : Array Slot), fX9_vote_21 n mem x1 = some (r, mem2) → va_P g.1 vwCl (wM g ad mem) H → va_S (AW 29 ad) s.heap H locs → lv_has ls 2 [(0, .ref (ad 0)), (1, .int x1)] → W p l e { frames := 2, cells := 0, slots := 0, locals := 45 } s m args below meth c H locs 0 0 (MQ below (qW (wM g ad mem2) g (AW 29 ad) (some (.int r)) (True)) args s 0 0 (AW 29 ad)) (F0 m 21 ls []) := by
  obtain ⟨hx, hb, hml, hown, hts, hr, hlk, hE⟩ := id C0
  obtain ⟨hK, hA⟩ := id hE
  intro n
  induction n with
  | zero =>
    intro mem x1 H locs ls hF hP hS hl
    cases hF
  | succ n ih =>
    intro mem x1 H locs ls hF hP hS hl
    rw [fX9_vote_21] at hF
    refine lv_iload_n hx hb dX9_vote_21 rfl (lv_at hl 1 rfl) ?_
    refine lv_bipush (v := 10) hx hb dX9_vote_22 (by decide) ?_
    refine lv_icmp_ge (tgt := 40) hx hb dX9_vote_24 (by decide) (fun c2 => ?_) (fun c2 => ?_)
    · replace hF := (if_pos c2).symm.trans hF
      refine lv_iconst (v := 1) hx hb dX9_vote_40 (by decide) ?_
      cases hF
      exact ret_Wi C0 hP hS trivial dX9_vote_41
    · replace hF := (if_neg c2).symm.trans hF
      refine lv_aload_n hx hb dX9_vote_27 rfl (lv_at hl 0 rfl) ?_
      refine get_W C0 hK hP iwX9 0 wM_0 rfl 19 (by decide) mF_X9_54 rfl rfl dX9_vote_28 ?_
      refine lv_iload_n hx hb dX9_vote_31 rfl (lv_at hl 1 rfl) ?_
      refine lv_iconst (v := 0) hx hb dX9_vote_32 (by decide) ?_
      obtain ⟨g3, hF⟩ := gI_some hF
      refine iast_W C0 hK hP (wM_D hA) hS 14 wM_14 g3 wM_s14 dX9_vote_33 (fun H locs hP hS => ?_)
      refine lv_iinc (v := x1 + 1) (lv' := [(1, .int (x1 + 1)), (0, .ref (ad 0))]) hx hb dX9_vote_34 hl (k := 1) rfl rfl (by decide) rfl (fun ls hl => ?_)
      refine lv_goto (tgt := 21) hx hb dX9_vote_37 (by decide) ?_
      exact ih (up2 mem 14 x1.toNatClampNeg 0) (x1 + 1) _ _ ls hF hP hS (lv_sub hl [1, 0] rfl)
def fX9_vote (mem : Mem) : Option (Int32 × Mem) :=
  if mem 0 18 = 0 then (fX9_vote_21 fu (up2 mem 0 18 1) 0) else (ob2 (fX9_finding mem (-100007)) (fun r6 m5 => some (r6, m5)))
set_option maxHeartbeats 4000000 in
set_option maxRecDepth 100000 in
theorem kX9_vote (l : Launch) (g : gG) (ad : Nat → Nat) (mem : Mem) (r : Int32) (mem2 : Mem) (hF : fX9_vote mem = some (r, mem2)) : Met l yX9_vote (Cond.code yX9_vote cX9_vote 2 (some .int) :: gw) { frames := 2, cells := 0, slots := 0, locals := 45 } (pG (wM g ad mem) (eM g ad) g [.ref (ad 0)]) (qW (wM g ad mem2) g (AW 29 ad) (some (.int r)) (True)) 0 0 (AW 29 ad) := by
  refine met_of (by decide) (Nat.le_of_ble_eq_true rfl) ?_
  intro p e s m args below meth c ls C0 hP hl
  obtain ⟨hx, hb, hml, hown, hts, hr, hlk, hE⟩ := id C0
  obtain ⟨hK, hA⟩ := id hE
  have hl : lv_has ls 2 [(0, .ref (ad 0))] := hl
  have hS : va_S (AW 29 ad) s.heap s.heap [] := va_S.rf
  unfold fX9_vote at hF
  refine lv_aload_n hx hb dX9_vote_0 rfl (lv_at hl 0 rfl) ?_
  refine get_W C0 hK hP iwX9 0 wM_0 rfl 18 (by decide) mF_X9_188 rfl rfl dX9_vote_1 ?_
  refine lv_if_eq (tgt := 14) hx hb dX9_vote_4 (by decide) (fun c1 => ?_) (fun c1 => ?_)
  · replace hF := (if_pos c1).symm.trans hF
    refine lv_aload_n hx hb dX9_vote_14 rfl (lv_at hl 0 rfl) ?_
    refine lv_iconst (v := 1) hx hb dX9_vote_15 (by decide) ?_
    refine put_W (k := 18) C0 hK hP (wM_D hA) hS iwX9 tyX9_ok nmX9 0 wM_0 rfl (by decide) mF_X9_188 rfl rfl (isB_nar (Or.inr rfl)) (isB_fit (Or.inr rfl)) (Nat.le_of_ble_eq_true rfl) wM_s0_18 dX9_vote_16 (fun H locs hP hS => ?_)
    refine lv_iconst (v := 0) hx hb dX9_vote_19 (by decide) ?_
    refine lv_istore_n (lv' := [(1, .int 0), (0, .ref (ad 0))]) hx hb dX9_vote_20 rfl hl (by decide) rfl (fun ls hl => ?_)
    exact lpX9_vote_21 g ad r mem2 C0 fu (up2 mem 0 18 1) 0 _ _ ls hF hP hS (lv_sub hl [1, 0] rfl)
  · replace hF := (if_neg c1).symm.trans hF
    refine lv_aload_n hx hb dX9_vote_7 rfl (lv_at hl 0 rfl) ?_
    refine lv_ldc hx hb hown (hts _ mK_X9_181) dX9_vote_8 ?_
    obtain ⟨r6, m5, h4, hF⟩ := ob2_some hF
    refine cV_Wi C0 eM_st hP hS hK pkX9_finding (As := [.int (-100007)]) (rest := []) (kX9_finding l g ad mem (-100007) r6 m5 h4) mL_X9_110 ⟨rfl, rfl, Nat.le_of_ble_eq_true rfl, Nat.le_of_ble_eq_true rfl, Nat.le_of_ble_eq_true rfl, Nat.le_of_ble_eq_true rfl⟩ 0 wM_0 rfl rfl rfl hl.1 rfl (Nat.le_of_ble_eq_true rfl) dX9_vote_10 (fun H locs _ hP hS => ?_)
    cases hF
    exact ret_Wi C0 hP hS trivial dX9_vote_13
theorem pkX9_mayVote : pkV yX9_mayVote cX9_mayVote 2 (some .boolean) RX9 1 := ⟨mI_X9_mayVote, mS_X9_mayVote, mN_X9, mC_X9_mayVote, by decide +kernel⟩
def fX9_mayVote (mem : Mem) (a1 : Int32) : Option (Int32) :=
  gI a1 10 (if mem 3 a1.toNatClampNeg = 0 then (some 0) else (ob1 (fX9_isGuest mem a1) (fun r4 => if r4 = 0 then (some 1) else (some 0))))
set_option maxHeartbeats 4000000 in
set_option maxRecDepth 100000 in
theorem kX9_mayVote (l : Launch) (g : gG) (ad : Nat → Nat) (mem : Mem) (a1 : Int32) (r : Int32) (hF : fX9_mayVote mem a1 = some r) : Met l yX9_mayVote (Cond.code yX9_mayVote cX9_mayVote 2 (some .boolean) :: gw) { frames := 2, cells := 0, slots := 0, locals := 45 } (pG (wM g ad mem) (eM g ad) g [.ref (ad 0), .int a1]) (qR (some (.int r)) (isB r)) 0 0 noA := by
  refine met_of (by decide) (Nat.le_of_ble_eq_true rfl) ?_
  intro p e s m args below meth c ls C0 hP hl
  obtain ⟨hx, hb, hml, hown, hts, hr, hlk, hE⟩ := id C0
  obtain ⟨hK, hA⟩ := id hE
  have hl : lv_has ls 2 [(0, .ref (ad 0)), (1, .int a1)] := hl
  have hS : va_S (AW 29 ad) s.heap s.heap [] := va_S.rf
  unfold fX9_mayVote at hF
  refine lv_aload_n hx hb dX9_mayVote_0 rfl (lv_at hl 0 rfl) ?_
  refine get_W C0 hK hP iwX9 0 wM_0 rfl 3 (by decide) mF_X9_16 rfl rfl dX9_mayVote_1 ?_
  refine lv_iload_n hx hb dX9_mayVote_4 rfl (lv_at hl 1 rfl) ?_
  obtain ⟨g1, hF⟩ := gI_some hF
  refine va_zald hx hb hK hP 3 1 wM_3 rfl g1 dX9_mayVote_5 ?_
  refine lv_if_eq (tgt := 21) hx hb dX9_mayVote_6 (by decide) (fun c2 => ?_) (fun c2 => ?_)
  · replace hF := (if_pos c2).symm.trans hF
    refine lv_iconst (v := 0) hx hb dX9_mayVote_21 (by decide) ?_
    cases hF
    exact ret_Rz C0 (Or.inl rfl) (Or.inl rfl) dX9_mayVote_22
  · replace hF := (if_neg c2).symm.trans hF
    refine lv_aload_n hx hb dX9_mayVote_9 rfl (lv_at hl 0 rfl) ?_
    refine lv_iload_n hx hb dX9_mayVote_10 rfl (lv_at hl 1 rfl) ?_
    obtain ⟨r4, h3, hF⟩ := ob_some hF
    refine cV_Ri C0 eM_st hP hS hK pkX9_isGuest (As := [.int a1]) (rest := []) (kX9_isGuest l g ad mem a1 r4 h3) mL_X9_119 ⟨rfl, rfl, Nat.le_of_ble_eq_true rfl, Nat.le_of_ble_eq_true rfl, Nat.le_of_ble_eq_true rfl, Nat.le_of_ble_eq_true rfl⟩ 0 wM_0 rfl rfl rfl hl.1 rfl (Nat.le_of_ble_eq_true rfl) dX9_mayVote_11 (fun b5 => ?_)
    refine lv_if_ne (tgt := 21) hx hb dX9_mayVote_14 (by decide) (fun c6 => ?_) (fun c6 => ?_)
    · replace hF := (if_neg c6).symm.trans hF
      refine lv_iconst (v := 0) hx hb dX9_mayVote_21 (by decide) ?_
      cases hF
      exact ret_Rz C0 (Or.inl rfl) (Or.inl rfl) dX9_mayVote_22
    · replace hF := (if_pos c6).symm.trans hF
      refine lv_iconst (v := 1) hx hb dX9_mayVote_17 (by decide) ?_
      refine lv_goto (tgt := 22) hx hb dX9_mayVote_18 (by decide) ?_
      cases hF
      exact ret_Rz C0 (Or.inr rfl) (Or.inr rfl) dX9_mayVote_22
theorem pkX9_say : pkV yX9_say cX9_say 4 (some .int) RX9 2 := ⟨mI_X9_say, mS_X9_say, mN_X9, mC_X9_say, by decide +kernel⟩
def fX9_say (mem : Mem) (a1 : Int32) (a2 : Int32) : Option (Int32 × Mem) :=
  ob1 (fX9_isMember mem a1) (fun r2 => if r2 = 0 then (ob2 (fX9_finding mem (-100001)) (fun r7 m6 => some (r7, m6))) else (ob1 (fX9_isIn a2 0 2) (fun r9 => if r9 = 0 then (ob2 (fX9_finding mem (-100001)) (fun r27 m26 => some (r27, m26))) else (if mem 0 18 = 0 then (ob2 (fX9_finding mem (-100006)) (fun r24 m23 => some (r24, m23))) else (ob1 (fX9_mayVote mem a1) (fun r14 => if r14 = 0 then (ob2 (fX9_finding mem (-100004)) (fun r21 m20 => some (r21, m20))) else (gI a1 10 (gI a1 10 (some (mem 14 a1.toNatClampNeg, up2 mem 14 a1.toNatClampNeg a2))))))))))
set_option maxHeartbeats 4000000 in
set_option maxRecDepth 100000 in
theorem kX9_say (l : Launch) (g : gG) (ad : Nat → Nat) (mem : Mem) (a1 : Int32) (a2 : Int32) (r : Int32) (mem2 : Mem) (hF : fX9_say mem a1 a2 = some (r, mem2)) : Met l yX9_say (Cond.code yX9_say cX9_say 4 (some .int) :: gw) { frames := 3, cells := 0, slots := 0, locals := 66 } (pG (wM g ad mem) (eM g ad) g [.ref (ad 0), .int a1, .int a2]) (qW (wM g ad mem2) g (AW 29 ad) (some (.int r)) (True)) 0 0 (AW 29 ad) := by
  refine met_of (by decide) (Nat.le_of_ble_eq_true rfl) ?_
  intro p e s m args below meth c ls C0 hP hl
  obtain ⟨hx, hb, hml, hown, hts, hr, hlk, hE⟩ := id C0
  obtain ⟨hK, hA⟩ := id hE
  have hl : lv_has ls 4 [(0, .ref (ad 0)), (1, .int a1), (2, .int a2)] := hl
  have hS : va_S (AW 29 ad) s.heap s.heap [] := va_S.rf
  unfold fX9_say at hF
  refine lv_aload_n hx hb dX9_say_0 rfl (lv_at hl 0 rfl) ?_
  refine lv_iload_n hx hb dX9_say_1 rfl (lv_at hl 1 rfl) ?_
  obtain ⟨r2, h1, hF⟩ := ob_some hF
  refine cV_Ri C0 eM_st hP hS hK pkX9_isMember (As := [.int a1]) (rest := []) (kX9_isMember l g ad mem a1 r2 h1) mL_X9_115 ⟨rfl, rfl, Nat.le_of_ble_eq_true rfl, Nat.le_of_ble_eq_true rfl, Nat.le_of_ble_eq_true rfl, Nat.le_of_ble_eq_true rfl⟩ 0 wM_0 rfl rfl rfl hl.1 rfl (Nat.le_of_ble_eq_true rfl) dX9_say_2 (fun b3 => ?_)
  refine lv_if_eq (tgt := 17) hx hb dX9_say_5 (by decide) (fun c4 => ?_) (fun c4 => ?_)
  · replace hF := (if_pos c4).symm.trans hF
    refine lv_aload_n hx hb dX9_say_17 rfl (lv_at hl 0 rfl) ?_
    refine lv_ldc hx hb hown (hts _ mK_X9_109) dX9_say_18 ?_
    obtain ⟨r7, m6, h5, hF⟩ := ob2_some hF
    refine cV_Wi C0 eM_st hP hS hK pkX9_finding (As := [.int (-100001)]) (rest := []) (kX9_finding l g ad mem (-100001) r7 m6 h5) mL_X9_110 ⟨rfl, rfl, Nat.le_of_ble_eq_true rfl, Nat.le_of_ble_eq_true rfl, Nat.le_of_ble_eq_true rfl, Nat.le_of_ble_eq_true rfl⟩ 0 wM_0 rfl rfl rfl hl.1 rfl (Nat.le_of_ble_eq_true rfl) dX9_say_20 (fun H locs _ hP hS => ?_)
    cases hF
    exact ret_Wi C0 hP hS trivial dX9_say_23
  · replace hF := (if_neg c4).symm.trans hF
    refine lv_iload_n hx hb dX9_say_8 rfl (lv_at hl 2 rfl) ?_
    refine lv_iconst (v := 0) hx hb dX9_say_9 (by decide) ?_
    refine lv_iconst (v := 2) hx hb dX9_say_10 (by decide) ?_
    obtain ⟨r9, h8, hF⟩ := ob_some hF
    refine cS_Ri C0 pkX9_isIn (As := [.int a2, .int 0, .int 2]) (rest := []) (kX9_isIn l g a2 0 2 r9 h8) mL_X9_105 ⟨rfl, rfl, Nat.le_of_ble_eq_true rfl, Nat.le_of_ble_eq_true rfl, Nat.le_of_ble_eq_true rfl, Nat.le_of_ble_eq_true rfl⟩ rfl hl.1 rfl (Nat.le_of_ble_eq_true rfl) dX9_say_11 (fun b10 => ?_)
    refine lv_if_ne (tgt := 24) hx hb dX9_say_14 (by decide) (fun c11 => ?_) (fun c11 => ?_)
    · replace hF := (if_neg c11).symm.trans hF
      refine lv_aload_n hx hb dX9_say_24 rfl (lv_at hl 0 rfl) ?_
      refine get_W C0 hK hP iwX9 0 wM_0 rfl 18 (by decide) mF_X9_188 rfl rfl dX9_say_25 ?_
      refine lv_if_ne (tgt := 38) hx hb dX9_say_28 (by decide) (fun c12 => ?_) (fun c12 => ?_)
      · replace hF := (if_neg c12).symm.trans hF
        refine lv_aload_n hx hb dX9_say_38 rfl (lv_at hl 0 rfl) ?_
        refine lv_iload_n hx hb dX9_say_39 rfl (lv_at hl 1 rfl) ?_
        obtain ⟨r14, h13, hF⟩ := ob_some hF
        refine cV_Ri C0 eM_st hP hS hK pkX9_mayVote (As := [.int a1]) (rest := []) (kX9_mayVote l g ad mem a1 r14 h13) mL_X9_192 ⟨rfl, rfl, Nat.le_of_ble_eq_true rfl, Nat.le_of_ble_eq_true rfl, Nat.le_of_ble_eq_true rfl, Nat.le_of_ble_eq_true rfl⟩ 0 wM_0 rfl rfl rfl hl.1 rfl (Nat.le_of_ble_eq_true rfl) dX9_say_40 (fun b15 => ?_)
        refine lv_if_ne (tgt := 53) hx hb dX9_say_43 (by decide) (fun c16 => ?_) (fun c16 => ?_)
        · replace hF := (if_neg c16).symm.trans hF
          refine lv_aload_n hx hb dX9_say_53 rfl (lv_at hl 0 rfl) ?_
          refine get_W C0 hK hP iwX9 0 wM_0 rfl 19 (by decide) mF_X9_54 rfl rfl dX9_say_54 ?_
          refine lv_iload_n hx hb dX9_say_57 rfl (lv_at hl 1 rfl) ?_
          obtain ⟨g17, hF⟩ := gI_some hF
          refine va_iald hx hb hK hP 14 0 wM_14 rfl g17 dX9_say_58 ?_
          refine lv_istore_n (lv' := [(3, .int (mem 14 a1.toNatClampNeg)), (0, .ref (ad 0)), (1, .int a1), (2, .int a2)]) hx hb dX9_say_59 rfl hl (by decide) rfl (fun ls hl => ?_)
          refine lv_aload_n hx hb dX9_say_60 rfl (lv_at hl 1 rfl) ?_
          refine get_W C0 hK hP iwX9 0 wM_0 rfl 19 (by decide) mF_X9_54 rfl rfl dX9_say_61 ?_
          refine lv_iload_n hx hb dX9_say_64 rfl (lv_at hl 2 rfl) ?_
          refine lv_iload_n hx hb dX9_say_65 rfl (lv_at hl 3 rfl) ?_
          obtain ⟨g18, hF⟩ := gI_some hF
          refine iast_W C0 hK hP (wM_D hA) hS 14 wM_14 g18 wM_s14 dX9_say_66 (fun H locs hP hS => ?_)
          refine lv_iload_n hx hb dX9_say_67 rfl (lv_at hl 0 rfl) ?_
          cases hF
          exact ret_Wi C0 hP hS trivial dX9_say_68
        · replace hF := (if_pos c16).symm.trans hF
          refine lv_aload_n hx hb dX9_say_46 rfl (lv_at hl 0 rfl) ?_
          refine lv_ldc hx hb hown (hts _ mK_X9_122) dX9_say_47 ?_
          obtain ⟨r21, m20, h19, hF⟩ := ob2_some hF
          refine cV_Wi C0 eM_st hP hS hK pkX9_finding (As := [.int (-100004)]) (rest := []) (kX9_finding l g ad mem (-100004) r21 m20 h19) mL_X9_110 ⟨rfl, rfl, Nat.le_of_ble_eq_true rfl, Nat.le_of_ble_eq_true rfl, Nat.le_of_ble_eq_true rfl, Nat.le_of_ble_eq_true rfl⟩ 0 wM_0 rfl rfl rfl hl.1 rfl (Nat.le_of_ble_eq_true rfl) dX9_say_49 (fun H locs _ hP hS => ?_)
          cases hF
          exact ret_Wi C0 hP hS trivial dX9_say_52
      · replace hF := (if_pos c12).symm.trans hF
        refine lv_aload_n hx hb dX9_say_31 rfl (lv_at hl 0 rfl) ?_
        refine lv_ldc hx hb hown (hts _ mK_X9_141) dX9_say_32 ?_
        obtain ⟨r24, m23, h22, hF⟩ := ob2_some hF
        refine cV_Wi C0 eM_st hP hS hK pkX9_finding (As := [.int (-100006)]) (rest := []) (kX9_finding l g ad mem (-100006) r24 m23 h22) mL_X9_110 ⟨rfl, rfl, Nat.le_of_ble_eq_true rfl, Nat.le_of_ble_eq_true rfl, Nat.le_of_ble_eq_true rfl, Nat.le_of_ble_eq_true rfl⟩ 0 wM_0 rfl rfl rfl hl.1 rfl (Nat.le_of_ble_eq_true rfl) dX9_say_34 (fun H locs _ hP hS => ?_)
        cases hF
        exact ret_Wi C0 hP hS trivial dX9_say_37
    · replace hF := (if_pos c11).symm.trans hF
      refine lv_aload_n hx hb dX9_say_17 rfl (lv_at hl 0 rfl) ?_
      refine lv_ldc hx hb hown (hts _ mK_X9_109) dX9_say_18 ?_
      obtain ⟨r27, m26, h25, hF⟩ := ob2_some hF
      refine cV_Wi C0 eM_st hP hS hK pkX9_finding (As := [.int (-100001)]) (rest := []) (kX9_finding l g ad mem (-100001) r27 m26 h25) mL_X9_110 ⟨rfl, rfl, Nat.le_of_ble_eq_true rfl, Nat.le_of_ble_eq_true rfl, Nat.le_of_ble_eq_true rfl, Nat.le_of_ble_eq_true rfl⟩ 0 wM_0 rfl rfl rfl hl.1 rfl (Nat.le_of_ble_eq_true rfl) dX9_say_20 (fun H locs _ hP hS => ?_)
      cases hF
      exact ret_Wi C0 hP hS trivial dX9_say_23
theorem pkX9_votesOf : pkV yX9_votesOf cX9_votesOf 4 (some .int) RX9 1 := ⟨mI_X9_votesOf, mS_X9_votesOf, mN_X9, mC_X9_votesOf, by decide +kernel⟩
def fX9_votesOf_4 (mem : Mem) (z1 : Int32) : Nat → Int32 → Int32 → Option (Int32)
  | 0, _, _ => none
  | n + 1, x2, x3 =>
    if mem 0 0 ≤ x3 then (some x2) else (ob1 (fX9_mayVote mem x3) (fun r3 => if r3 = 0 then (fX9_votesOf_4 mem z1 n (x2 + 0) (x3 + 1)) else (gI x3 10 (if mem 14 x3.toNatClampNeg = z1 then (fX9_votesOf_4 mem z1 n (x2 + 1) (x3 + 1)) else (fX9_votesOf_4 mem z1 n (x2 + 0) (x3 + 1))))))
set_option maxHeartbeats 4000000 in
set_option maxRecDepth 100000 in
theorem lpX9_votesOf_4 {p : Program} {l : Launch} {e : Env} {s : State} {m : MethodId} {args : Array Value} {below : List Frame} {meth : Method} {c : Code} (g : gG) (ad : Nat → Nat) (mem : Mem) (z1 : Int32) (r : Int32) (C0 : cxt (eM g ad) cX9_votesOf 4 RX9 (some .int) p s m args meth c) (hP : va_P g.1 vwCl (wM g ad mem) s.heap) :
    ∀ (n : Nat) (x2 : Int32) (x3 : Int32) (ls : Array Slot), fX9_votesOf_4 mem z1 n x2 x3 = some r → lv_has ls 4 [(0, .ref (ad 0)), (1, .int z1), (2, .int x2), (3, .int x3)] → W p l e { frames := 3, cells := 0, slots := 0, locals := 66 } s m args below meth c s.heap [] 0 0 (MQ below (qR (some (.int r)) (True)) args s 0 0 noA) (F0 m 4 ls []) := by
  obtain ⟨hx, hb, hml, hown, hts, hr, hlk, hE⟩ := id C0
  obtain ⟨hK, hA⟩ := id hE
  intro n
  induction n with
  | zero =>
    intro x2 x3 ls hF hl
    cases hF
  | succ n ih =>
    intro x2 x3 ls hF hl
    rw [fX9_votesOf_4] at hF
    have hS : va_S (AW 29 ad) s.heap s.heap [] := va_S.rf
    refine lv_iload_n hx hb dX9_votesOf_4 rfl (lv_at hl 3 rfl) ?_
    refine lv_aload_n hx hb dX9_votesOf_5 rfl (lv_at hl 0 rfl) ?_
    refine get_W C0 hK hP iwX9 0 wM_0 rfl 0 (by decide) mF_X9_102 rfl rfl dX9_votesOf_6 ?_
    refine lv_icmp_ge (tgt := 44) hx hb dX9_votesOf_9 (by decide) (fun c1 => ?_) (fun c1 => ?_)
    · replace hF := (if_pos c1).symm.trans hF
      refine lv_iload_n hx hb dX9_votesOf_44 rfl (lv_at hl 2 rfl) ?_
      cases hF
      exact ret_Ri C0 trivial dX9_votesOf_45
    · replace hF := (if_neg c1).symm.trans hF
      refine lv_iload_n hx hb dX9_votesOf_12 rfl (lv_at hl 2 rfl) ?_
      refine lv_aload_n hx hb dX9_votesOf_13 rfl (lv_at hl 0 rfl) ?_
      refine lv_iload_n hx hb dX9_votesOf_14 rfl (lv_at hl 3 rfl) ?_
      obtain ⟨r3, h2, hF⟩ := ob_some hF
      refine cV_Ri C0 eM_st hP hS hK pkX9_mayVote (As := [.int x3]) (rest := [.int x2]) (kX9_mayVote l g ad mem x3 r3 h2) mL_X9_192 ⟨rfl, rfl, Nat.le_of_ble_eq_true rfl, Nat.le_of_ble_eq_true rfl, Nat.le_of_ble_eq_true rfl, Nat.le_of_ble_eq_true rfl⟩ 0 wM_0 rfl rfl rfl hl.1 rfl (Nat.le_of_ble_eq_true rfl) dX9_votesOf_15 (fun b4 => ?_)
      refine lv_if_eq (tgt := 35) hx hb dX9_votesOf_18 (by decide) (fun c5 => ?_) (fun c5 => ?_)
      · replace hF := (if_pos c5).symm.trans hF
        refine lv_iconst (v := 0) hx hb dX9_votesOf_35 (by decide) ?_
        refine lv_iadd hx hb dX9_votesOf_36 ?_
        refine lv_istore_n (lv' := [(2, .int (x2 + 0)), (0, .ref (ad 0)), (1, .int z1), (3, .int x3)]) hx hb dX9_votesOf_37 rfl hl (by decide) rfl (fun ls hl => ?_)
        refine lv_iinc (v := x3 + 1) (lv' := [(3, .int (x3 + 1)), (2, .int (x2 + 0)), (0, .ref (ad 0)), (1, .int z1)]) hx hb dX9_votesOf_38 hl (k := 3) rfl rfl (by decide) rfl (fun ls hl => ?_)
        refine lv_goto (tgt := 4) hx hb dX9_votesOf_41 (by decide) ?_
        exact ih (x2 + 0) (x3 + 1) ls hF (lv_sub hl [2, 3, 1, 0] rfl)
      · replace hF := (if_neg c5).symm.trans hF
        refine lv_aload_n hx hb dX9_votesOf_21 rfl (lv_at hl 0 rfl) ?_
        refine get_W C0 hK hP iwX9 0 wM_0 rfl 19 (by decide) mF_X9_54 rfl rfl dX9_votesOf_22 ?_
        refine lv_iload_n hx hb dX9_votesOf_25 rfl (lv_at hl 3 rfl) ?_
        obtain ⟨g6, hF⟩ := gI_some hF
        refine va_iald hx hb hK hP 14 0 wM_14 rfl g6 dX9_votesOf_26 ?_
        refine lv_iload_n hx hb dX9_votesOf_27 rfl (lv_at hl 1 rfl) ?_
        refine lv_icmp_ne (tgt := 35) hx hb dX9_votesOf_28 (by decide) (fun c7 => ?_) (fun c7 => ?_)
        · replace hF := (if_neg c7).symm.trans hF
          refine lv_iconst (v := 0) hx hb dX9_votesOf_35 (by decide) ?_
          refine lv_iadd hx hb dX9_votesOf_36 ?_
          refine lv_istore_n (lv' := [(2, .int (x2 + 0)), (0, .ref (ad 0)), (1, .int z1), (3, .int x3)]) hx hb dX9_votesOf_37 rfl hl (by decide) rfl (fun ls hl => ?_)
          refine lv_iinc (v := x3 + 1) (lv' := [(3, .int (x3 + 1)), (2, .int (x2 + 0)), (0, .ref (ad 0)), (1, .int z1)]) hx hb dX9_votesOf_38 hl (k := 3) rfl rfl (by decide) rfl (fun ls hl => ?_)
          refine lv_goto (tgt := 4) hx hb dX9_votesOf_41 (by decide) ?_
          exact ih (x2 + 0) (x3 + 1) ls hF (lv_sub hl [2, 3, 1, 0] rfl)
        · replace hF := (if_pos c7).symm.trans hF
          refine lv_iconst (v := 1) hx hb dX9_votesOf_31 (by decide) ?_
          refine lv_goto (tgt := 36) hx hb dX9_votesOf_32 (by decide) ?_
          refine lv_iadd hx hb dX9_votesOf_36 ?_
          refine lv_istore_n (lv' := [(2, .int (x2 + 1)), (0, .ref (ad 0)), (1, .int z1), (3, .int x3)]) hx hb dX9_votesOf_37 rfl hl (by decide) rfl (fun ls hl => ?_)
          refine lv_iinc (v := x3 + 1) (lv' := [(3, .int (x3 + 1)), (2, .int (x2 + 1)), (0, .ref (ad 0)), (1, .int z1)]) hx hb dX9_votesOf_38 hl (k := 3) rfl rfl (by decide) rfl (fun ls hl => ?_)
          refine lv_goto (tgt := 4) hx hb dX9_votesOf_41 (by decide) ?_
          exact ih (x2 + 1) (x3 + 1) ls hF (lv_sub hl [2, 3, 1, 0] rfl)
def fX9_votesOf (mem : Mem) (a1 : Int32) : Option (Int32) :=
  fX9_votesOf_4 mem a1 fu 0 0
set_option maxHeartbeats 4000000 in
set_option maxRecDepth 100000 in
theorem kX9_votesOf (l : Launch) (g : gG) (ad : Nat → Nat) (mem : Mem) (a1 : Int32) (r : Int32) (hF : fX9_votesOf mem a1 = some r) : Met l yX9_votesOf (Cond.code yX9_votesOf cX9_votesOf 4 (some .int) :: gw) { frames := 3, cells := 0, slots := 0, locals := 66 } (pG (wM g ad mem) (eM g ad) g [.ref (ad 0), .int a1]) (qR (some (.int r)) (True)) 0 0 noA := by
  refine met_of (by decide) (Nat.le_of_ble_eq_true rfl) ?_
  intro p e s m args below meth c ls C0 hP hl
  obtain ⟨hx, hb, hml, hown, hts, hr, hlk, hE⟩ := id C0
  obtain ⟨hK, hA⟩ := id hE
  have hl : lv_has ls 4 [(0, .ref (ad 0)), (1, .int a1)] := hl
  have hS : va_S (AW 29 ad) s.heap s.heap [] := va_S.rf
  unfold fX9_votesOf at hF
  refine lv_iconst (v := 0) hx hb dX9_votesOf_0 (by decide) ?_
  refine lv_istore_n (lv' := [(2, .int 0), (0, .ref (ad 0)), (1, .int a1)]) hx hb dX9_votesOf_1 rfl hl (by decide) rfl (fun ls hl => ?_)
  refine lv_iconst (v := 0) hx hb dX9_votesOf_2 (by decide) ?_
  refine lv_istore_n (lv' := [(3, .int 0), (2, .int 0), (0, .ref (ad 0)), (1, .int a1)]) hx hb dX9_votesOf_3 rfl hl (by decide) rfl (fun ls hl => ?_)
  exact lpX9_votesOf_4 g ad mem a1 r C0 hP fu 0 0 ls hF (lv_sub hl [2, 3, 1, 0] rfl)
theorem pkX9_votes : pkV yX9_votes cX9_votes 2 (some .int) RX9 1 := ⟨mI_X9_votes, mS_X9_votes, mN_X9, mC_X9_votes, by decide +kernel⟩
def fX9_votes (mem : Mem) (a1 : Int32) : Option (Int32 × Mem) :=
  ob1 (fX9_isIn a1 0 2) (fun r2 => if r2 = 0 then (ob2 (fX9_finding mem (-100001)) (fun r13 m12 => some (r13, m12))) else (if mem 0 18 = 0 then (ob2 (fX9_finding mem (-100006)) (fun r8 m7 => some (r8, m7))) else (ob1 (fX9_votesOf mem a1) (fun r10 => some (r10, mem)))))
set_option maxHeartbeats 4000000 in
set_option maxRecDepth 100000 in
theorem kX9_votes (l : Launch) (g : gG) (ad : Nat → Nat) (mem : Mem) (a1 : Int32) (r : Int32) (mem2 : Mem) (hF : fX9_votes mem a1 = some (r, mem2)) : Met l yX9_votes (Cond.code yX9_votes cX9_votes 2 (some .int) :: gw) { frames := 4, cells := 0, slots := 0, locals := 89 } (pG (wM g ad mem) (eM g ad) g [.ref (ad 0), .int a1]) (qW (wM g ad mem2) g (AW 29 ad) (some (.int r)) (True)) 0 0 (AW 29 ad) := by
  refine met_of (by decide) (Nat.le_of_ble_eq_true rfl) ?_
  intro p e s m args below meth c ls C0 hP hl
  obtain ⟨hx, hb, hml, hown, hts, hr, hlk, hE⟩ := id C0
  obtain ⟨hK, hA⟩ := id hE
  have hl : lv_has ls 2 [(0, .ref (ad 0)), (1, .int a1)] := hl
  have hS : va_S (AW 29 ad) s.heap s.heap [] := va_S.rf
  unfold fX9_votes at hF
  refine lv_iload_n hx hb dX9_votes_0 rfl (lv_at hl 1 rfl) ?_
  refine lv_iconst (v := 0) hx hb dX9_votes_1 (by decide) ?_
  refine lv_iconst (v := 2) hx hb dX9_votes_2 (by decide) ?_
  obtain ⟨r2, h1, hF⟩ := ob_some hF
  refine cS_Ri C0 pkX9_isIn (As := [.int a1, .int 0, .int 2]) (rest := []) (kX9_isIn l g a1 0 2 r2 h1) mL_X9_105 ⟨rfl, rfl, Nat.le_of_ble_eq_true rfl, Nat.le_of_ble_eq_true rfl, Nat.le_of_ble_eq_true rfl, Nat.le_of_ble_eq_true rfl⟩ rfl hl.1 rfl (Nat.le_of_ble_eq_true rfl) dX9_votes_3 (fun b3 => ?_)
  refine lv_if_ne (tgt := 16) hx hb dX9_votes_6 (by decide) (fun c4 => ?_) (fun c4 => ?_)
  · replace hF := (if_neg c4).symm.trans hF
    refine lv_aload_n hx hb dX9_votes_16 rfl (lv_at hl 0 rfl) ?_
    refine get_W C0 hK hP iwX9 0 wM_0 rfl 18 (by decide) mF_X9_188 rfl rfl dX9_votes_17 ?_
    refine lv_if_eq (tgt := 31) hx hb dX9_votes_20 (by decide) (fun c5 => ?_) (fun c5 => ?_)
    · replace hF := (if_pos c5).symm.trans hF
      refine lv_aload_n hx hb dX9_votes_31 rfl (lv_at hl 0 rfl) ?_
      refine lv_ldc hx hb hown (hts _ mK_X9_141) dX9_votes_32 ?_
      obtain ⟨r8, m7, h6, hF⟩ := ob2_some hF
      refine cV_Wi C0 eM_st hP hS hK pkX9_finding (As := [.int (-100006)]) (rest := []) (kX9_finding l g ad mem (-100006) r8 m7 h6) mL_X9_110 ⟨rfl, rfl, Nat.le_of_ble_eq_true rfl, Nat.le_of_ble_eq_true rfl, Nat.le_of_ble_eq_true rfl, Nat.le_of_ble_eq_true rfl⟩ 0 wM_0 rfl rfl rfl hl.1 rfl (Nat.le_of_ble_eq_true rfl) dX9_votes_34 (fun H locs _ hP hS => ?_)
      cases hF
      exact ret_Wi C0 hP hS trivial dX9_votes_37
    · replace hF := (if_neg c5).symm.trans hF
      refine lv_aload_n hx hb dX9_votes_23 rfl (lv_at hl 0 rfl) ?_
      refine lv_iload_n hx hb dX9_votes_24 rfl (lv_at hl 1 rfl) ?_
      obtain ⟨r10, h9, hF⟩ := ob_some hF
      refine cV_Ri C0 eM_st hP hS hK pkX9_votesOf (As := [.int a1]) (rest := []) (kX9_votesOf l g ad mem a1 r10 h9) mL_X9_195 ⟨rfl, rfl, Nat.le_of_ble_eq_true rfl, Nat.le_of_ble_eq_true rfl, Nat.le_of_ble_eq_true rfl, Nat.le_of_ble_eq_true rfl⟩ 0 wM_0 rfl rfl rfl hl.1 rfl (Nat.le_of_ble_eq_true rfl) dX9_votes_25 (fun _ => ?_)
      refine lv_goto (tgt := 37) hx hb dX9_votes_28 (by decide) ?_
      cases hF
      exact ret_Wi C0 hP hS trivial dX9_votes_37
  · replace hF := (if_pos c4).symm.trans hF
    refine lv_aload_n hx hb dX9_votes_9 rfl (lv_at hl 0 rfl) ?_
    refine lv_ldc hx hb hown (hts _ mK_X9_109) dX9_votes_10 ?_
    obtain ⟨r13, m12, h11, hF⟩ := ob2_some hF
    refine cV_Wi C0 eM_st hP hS hK pkX9_finding (As := [.int (-100001)]) (rest := []) (kX9_finding l g ad mem (-100001) r13 m12 h11) mL_X9_110 ⟨rfl, rfl, Nat.le_of_ble_eq_true rfl, Nat.le_of_ble_eq_true rfl, Nat.le_of_ble_eq_true rfl, Nat.le_of_ble_eq_true rfl⟩ 0 wM_0 rfl rfl rfl hl.1 rfl (Nat.le_of_ble_eq_true rfl) dX9_votes_12 (fun H locs _ hP hS => ?_)
    cases hF
    exact ret_Wi C0 hP hS trivial dX9_votes_15
theorem pkX9_passes : pkS yX9_passes cX9_passes 3 (some .boolean) 3 := ⟨mT_X9_passes, mN_X9, mC_X9_passes, by decide +kernel⟩
def fX9_passes (a0 : Int32) (a1 : Int32) (a2 : Int32) : Option (Int32) :=
  if a0 = 1 then (if a1 ≤ a2 then (some 0) else (some 1)) else (if a1 ≤ 0 then (some 0) else (if a0 = 2 then (if 3 * a1 < 2 * (a1 + a2) then (some 0) else (some 1)) else (if a2 = 0 then (some 1) else (some 0))))
set_option maxHeartbeats 4000000 in
set_option maxRecDepth 100000 in
theorem kX9_passes (l : Launch) (g : gG) (a0 : Int32) (a1 : Int32) (a2 : Int32) (r : Int32) (hF : fX9_passes a0 a1 a2 = some r) : Met l yX9_passes (Cond.code yX9_passes cX9_passes 3 (some .boolean) :: gw) { frames := 1, cells := 0, slots := 0, locals := 24 } (pG [] (fun _ => True) g [.int a0, .int a1, .int a2]) (qR (some (.int r)) (isB r)) 0 0 noA := by
  refine met_of (by decide) (Nat.le_of_ble_eq_true rfl) ?_
  intro p e s m args below meth c ls C0 hP hl
  obtain ⟨hx, hb, hml, hown, hts, hr, hlk, hE⟩ := id C0
  have hl : lv_has ls 3 [(0, .int a0), (1, .int a1), (2, .int a2)] := hl
  unfold fX9_passes at hF
  refine lv_iload_n hx hb dX9_passes_0 rfl (lv_at hl 0 rfl) ?_
  refine lv_iconst (v := 1) hx hb dX9_passes_1 (by decide) ?_
  refine lv_icmp_ne (tgt := 18) hx hb dX9_passes_2 (by decide) (fun c1 => ?_) (fun c1 => ?_)
  · replace hF := (if_neg c1).symm.trans hF
    refine lv_iload_n hx hb dX9_passes_18 rfl (lv_at hl 1 rfl) ?_
    refine lv_if_le (tgt := 49) hx hb dX9_passes_19 (by decide) (fun c2 => ?_) (fun c2 => ?_)
    · replace hF := (if_pos c2).symm.trans hF
      refine lv_iconst (v := 0) hx hb dX9_passes_49 (by decide) ?_
      cases hF
      exact ret_Rz C0 (Or.inl rfl) (Or.inl rfl) dX9_passes_50
    · replace hF := (if_neg c2).symm.trans hF
      refine lv_iload_n hx hb dX9_passes_22 rfl (lv_at hl 0 rfl) ?_
      refine lv_iconst (v := 2) hx hb dX9_passes_23 (by decide) ?_
      refine lv_icmp_ne (tgt := 41) hx hb dX9_passes_24 (by decide) (fun c3 => ?_) (fun c3 => ?_)
      · replace hF := (if_neg c3).symm.trans hF
        refine lv_iload_n hx hb dX9_passes_41 rfl (lv_at hl 2 rfl) ?_
        refine lv_if_ne (tgt := 49) hx hb dX9_passes_42 (by decide) (fun c4 => ?_) (fun c4 => ?_)
        · replace hF := (if_neg c4).symm.trans hF
          refine lv_iconst (v := 0) hx hb dX9_passes_49 (by decide) ?_
          cases hF
          exact ret_Rz C0 (Or.inl rfl) (Or.inl rfl) dX9_passes_50
        · replace hF := (if_pos c4).symm.trans hF
          refine lv_iconst (v := 1) hx hb dX9_passes_45 (by decide) ?_
          refine lv_goto (tgt := 50) hx hb dX9_passes_46 (by decide) ?_
          cases hF
          exact ret_Rz C0 (Or.inr rfl) (Or.inr rfl) dX9_passes_50
      · replace hF := (if_pos c3).symm.trans hF
        refine lv_iconst (v := 3) hx hb dX9_passes_27 (by decide) ?_
        refine lv_iload_n hx hb dX9_passes_28 rfl (lv_at hl 1 rfl) ?_
        refine lv_imul hx hb dX9_passes_29 ?_
        refine lv_iconst (v := 2) hx hb dX9_passes_30 (by decide) ?_
        refine lv_iload_n hx hb dX9_passes_31 rfl (lv_at hl 1 rfl) ?_
        refine lv_iload_n hx hb dX9_passes_32 rfl (lv_at hl 2 rfl) ?_
        refine lv_iadd hx hb dX9_passes_33 ?_
        refine lv_imul hx hb dX9_passes_34 ?_
        refine lv_icmp_lt (tgt := 49) hx hb dX9_passes_35 (by decide) (fun c5 => ?_) (fun c5 => ?_)
        · replace hF := (if_pos c5).symm.trans hF
          refine lv_iconst (v := 0) hx hb dX9_passes_49 (by decide) ?_
          cases hF
          exact ret_Rz C0 (Or.inl rfl) (Or.inl rfl) dX9_passes_50
        · replace hF := (if_neg c5).symm.trans hF
          refine lv_goto (tgt := 45) hx hb dX9_passes_38 (by decide) ?_
          refine lv_iconst (v := 1) hx hb dX9_passes_45 (by decide) ?_
          refine lv_goto (tgt := 50) hx hb dX9_passes_46 (by decide) ?_
          cases hF
          exact ret_Rz C0 (Or.inr rfl) (Or.inr rfl) dX9_passes_50
  · replace hF := (if_pos c1).symm.trans hF
    refine lv_iload_n hx hb dX9_passes_5 rfl (lv_at hl 1 rfl) ?_
    refine lv_iload_n hx hb dX9_passes_6 rfl (lv_at hl 2 rfl) ?_
    refine lv_icmp_le (tgt := 14) hx hb dX9_passes_7 (by decide) (fun c6 => ?_) (fun c6 => ?_)
    · replace hF := (if_pos c6).symm.trans hF
      refine lv_iconst (v := 0) hx hb dX9_passes_14 (by decide) ?_
      refine lv_goto (tgt := 50) hx hb dX9_passes_15 (by decide) ?_
      cases hF
      exact ret_Rz C0 (Or.inl rfl) (Or.inl rfl) dX9_passes_50
    · replace hF := (if_neg c6).symm.trans hF
      refine lv_iconst (v := 1) hx hb dX9_passes_10 (by decide) ?_
      refine lv_goto (tgt := 50) hx hb dX9_passes_11 (by decide) ?_
      cases hF
      exact ret_Rz C0 (Or.inr rfl) (Or.inr rfl) dX9_passes_50
theorem pkX9_close : pkV yX9_close cX9_close 2 (some .int) RX9 1 := ⟨mI_X9_close, mS_X9_close, mN_X9, mC_X9_close, by decide +kernel⟩
def fX9_close (mem : Mem) (a1 : Int32) : Option (Int32 × Mem) :=
  ob1 (fX9_isIn a1 1 3) (fun r2 => if r2 = 0 then (ob2 (fX9_finding mem (-100001)) (fun r19 m18 => some (r19, m18))) else (if mem 0 18 = 0 then (ob2 (fX9_finding mem (-100006)) (fun r16 m15 => some (r16, m15))) else (ob1 (fX9_votesOf (up2 mem 0 18 0) 1) (fun r7 => ob1 (fX9_votesOf (up2 mem 0 18 0) 2) (fun r9 => ob1 (fX9_passes a1 r7 r9) (fun r11 => if r11 = 0 then (some (0, up2 mem 0 18 0)) else (some (1, up2 mem 0 18 0))))))))
set_option maxHeartbeats 4000000 in
set_option maxRecDepth 100000 in
theorem kX9_close (l : Launch) (g : gG) (ad : Nat → Nat) (mem : Mem) (a1 : Int32) (r : Int32) (mem2 : Mem) (hF : fX9_close mem a1 = some (r, mem2)) : Met l yX9_close (Cond.code yX9_close cX9_close 2 (some .int) :: gw) { frames := 4, cells := 0, slots := 0, locals := 89 } (pG (wM g ad mem) (eM g ad) g [.ref (ad 0), .int a1]) (qW (wM g ad mem2) g (AW 29 ad) (some (.int r)) (True)) 0 0 (AW 29 ad) := by
  refine met_of (by decide) (Nat.le_of_ble_eq_true rfl) ?_
  intro p e s m args below meth c ls C0 hP hl
  obtain ⟨hx, hb, hml, hown, hts, hr, hlk, hE⟩ := id C0
  obtain ⟨hK, hA⟩ := id hE
  have hl : lv_has ls 2 [(0, .ref (ad 0)), (1, .int a1)] := hl
  have hS : va_S (AW 29 ad) s.heap s.heap [] := va_S.rf
  unfold fX9_close at hF
  refine lv_iload_n hx hb dX9_close_0 rfl (lv_at hl 1 rfl) ?_
  refine lv_iconst (v := 1) hx hb dX9_close_1 (by decide) ?_
  refine lv_iconst (v := 3) hx hb dX9_close_2 (by decide) ?_
  obtain ⟨r2, h1, hF⟩ := ob_some hF
  refine cS_Ri C0 pkX9_isIn (As := [.int a1, .int 1, .int 3]) (rest := []) (kX9_isIn l g a1 1 3 r2 h1) mL_X9_105 ⟨rfl, rfl, Nat.le_of_ble_eq_true rfl, Nat.le_of_ble_eq_true rfl, Nat.le_of_ble_eq_true rfl, Nat.le_of_ble_eq_true rfl⟩ rfl hl.1 rfl (Nat.le_of_ble_eq_true rfl) dX9_close_3 (fun b3 => ?_)
  refine lv_if_ne (tgt := 16) hx hb dX9_close_6 (by decide) (fun c4 => ?_) (fun c4 => ?_)
  · replace hF := (if_neg c4).symm.trans hF
    refine lv_aload_n hx hb dX9_close_16 rfl (lv_at hl 0 rfl) ?_
    refine get_W C0 hK hP iwX9 0 wM_0 rfl 18 (by decide) mF_X9_188 rfl rfl dX9_close_17 ?_
    refine lv_if_ne (tgt := 30) hx hb dX9_close_20 (by decide) (fun c5 => ?_) (fun c5 => ?_)
    · replace hF := (if_neg c5).symm.trans hF
      refine lv_aload_n hx hb dX9_close_30 rfl (lv_at hl 0 rfl) ?_
      refine lv_iconst (v := 0) hx hb dX9_close_31 (by decide) ?_
      refine put_W (k := 18) C0 hK hP (wM_D hA) hS iwX9 tyX9_ok nmX9 0 wM_0 rfl (by decide) mF_X9_188 rfl rfl (isB_nar (Or.inl rfl)) (isB_fit (Or.inl rfl)) (Nat.le_of_ble_eq_true rfl) wM_s0_18 dX9_close_32 (fun H locs hP hS => ?_)
      refine lv_iload_n hx hb dX9_close_35 rfl (lv_at hl 1 rfl) ?_
      refine lv_aload_n hx hb dX9_close_36 rfl (lv_at hl 0 rfl) ?_
      refine lv_iconst (v := 1) hx hb dX9_close_37 (by decide) ?_
      obtain ⟨r7, h6, hF⟩ := ob_some hF
      refine cV_Ri C0 eM_st hP hS hK pkX9_votesOf (As := [.int 1]) (rest := [.int a1]) (kX9_votesOf l g ad (up2 mem 0 18 0) 1 r7 h6) mL_X9_195 ⟨rfl, rfl, Nat.le_of_ble_eq_true rfl, Nat.le_of_ble_eq_true rfl, Nat.le_of_ble_eq_true rfl, Nat.le_of_ble_eq_true rfl⟩ 0 wM_0 rfl rfl rfl hl.1 rfl (Nat.le_of_ble_eq_true rfl) dX9_close_38 (fun _ => ?_)
      refine lv_aload_n hx hb dX9_close_41 rfl (lv_at hl 0 rfl) ?_
      refine lv_iconst (v := 2) hx hb dX9_close_42 (by decide) ?_
      obtain ⟨r9, h8, hF⟩ := ob_some hF
      refine cV_Ri C0 eM_st hP hS hK pkX9_votesOf (As := [.int 2]) (rest := [.int r7, .int a1]) (kX9_votesOf l g ad (up2 mem 0 18 0) 2 r9 h8) mL_X9_195 ⟨rfl, rfl, Nat.le_of_ble_eq_true rfl, Nat.le_of_ble_eq_true rfl, Nat.le_of_ble_eq_true rfl, Nat.le_of_ble_eq_true rfl⟩ 0 wM_0 rfl rfl rfl hl.1 rfl (Nat.le_of_ble_eq_true rfl) dX9_close_43 (fun _ => ?_)
      obtain ⟨r11, h10, hF⟩ := ob_some hF
      refine cS_Ri C0 pkX9_passes (As := [.int a1, .int r7, .int r9]) (rest := []) (kX9_passes l g a1 r7 r9 r11 h10) mL_X9_198 ⟨rfl, rfl, Nat.le_of_ble_eq_true rfl, Nat.le_of_ble_eq_true rfl, Nat.le_of_ble_eq_true rfl, Nat.le_of_ble_eq_true rfl⟩ rfl hl.1 rfl (Nat.le_of_ble_eq_true rfl) dX9_close_46 (fun b12 => ?_)
      refine lv_if_eq (tgt := 56) hx hb dX9_close_49 (by decide) (fun c13 => ?_) (fun c13 => ?_)
      · replace hF := (if_pos c13).symm.trans hF
        refine lv_iconst (v := 0) hx hb dX9_close_56 (by decide) ?_
        cases hF
        exact ret_Wi C0 hP hS trivial dX9_close_57
      · replace hF := (if_neg c13).symm.trans hF
        refine lv_iconst (v := 1) hx hb dX9_close_52 (by decide) ?_
        refine lv_goto (tgt := 57) hx hb dX9_close_53 (by decide) ?_
        cases hF
        exact ret_Wi C0 hP hS trivial dX9_close_57
    · replace hF := (if_pos c5).symm.trans hF
      refine lv_aload_n hx hb dX9_close_23 rfl (lv_at hl 0 rfl) ?_
      refine lv_ldc hx hb hown (hts _ mK_X9_141) dX9_close_24 ?_
      obtain ⟨r16, m15, h14, hF⟩ := ob2_some hF
      refine cV_Wi C0 eM_st hP hS hK pkX9_finding (As := [.int (-100006)]) (rest := []) (kX9_finding l g ad mem (-100006) r16 m15 h14) mL_X9_110 ⟨rfl, rfl, Nat.le_of_ble_eq_true rfl, Nat.le_of_ble_eq_true rfl, Nat.le_of_ble_eq_true rfl, Nat.le_of_ble_eq_true rfl⟩ 0 wM_0 rfl rfl rfl hl.1 rfl (Nat.le_of_ble_eq_true rfl) dX9_close_26 (fun H locs _ hP hS => ?_)
      cases hF
      exact ret_Wi C0 hP hS trivial dX9_close_29
  · replace hF := (if_pos c4).symm.trans hF
    refine lv_aload_n hx hb dX9_close_9 rfl (lv_at hl 0 rfl) ?_
    refine lv_ldc hx hb hown (hts _ mK_X9_109) dX9_close_10 ?_
    obtain ⟨r19, m18, h17, hF⟩ := ob2_some hF
    refine cV_Wi C0 eM_st hP hS hK pkX9_finding (As := [.int (-100001)]) (rest := []) (kX9_finding l g ad mem (-100001) r19 m18 h17) mL_X9_110 ⟨rfl, rfl, Nat.le_of_ble_eq_true rfl, Nat.le_of_ble_eq_true rfl, Nat.le_of_ble_eq_true rfl, Nat.le_of_ble_eq_true rfl⟩ 0 wM_0 rfl rfl rfl hl.1 rfl (Nat.le_of_ble_eq_true rfl) dX9_close_12 (fun H locs _ hP hS => ?_)
    cases hF
    exact ret_Wi C0 hP hS trivial dX9_close_15
theorem pkX9_hands : pkV yX9_hands cX9_hands 10 (some .int) RX9 4 := ⟨mI_X9_hands, mS_X9_hands, mN_X9, mC_X9_hands, by decide +kernel⟩
def fX9_hands_96 (mem : Mem) (z1 : Int32) (z2 : Int32) (z3 : Int32) (z4 : Int32) (z7 : Int32) (kc : Int32 → Int32 → Int32 → Option (Int32 × Mem)) : Nat → Int32 → Int32 → Int32 → Option (Int32 × Mem)
  | 0, _, _, _ => none
  | n + 1, x5, x6, x8 =>
    if z3 + z4 < x8 then (kc x5 x6 (z7 + 1)) else (ob1 (fX9_passes z1 z7 x8) (fun r33 => fX9_hands_96 mem z1 z2 z3 z4 z7 kc n (x5 &&& r33) (x6 ||| r33) (x8 + 1)))
set_option maxHeartbeats 4000000 in
set_option maxRecDepth 100000 in
theorem lpX9_hands_96 {p : Program} {l : Launch} {e : Env} {s : State} {m : MethodId} {args : Array Value} {below : List Frame} {meth : Method} {c : Code} (g : gG) (ad : Nat → Nat) (mem : Mem) (z1 : Int32) (z2 : Int32) (z3 : Int32) (z4 : Int32) (z7 : Int32) (kc : Int32 → Int32 → Int32 → Option (Int32 × Mem)) (r : Int32) (mem2 : Mem) (C0 : cxt (eM g ad) cX9_hands 10 RX9 (some .int) p s m args meth c)
    (hkc : ∀ (x5 : Int32) (x6 : Int32) (x7 : Int32) (H : Heap) (locs : List Loc) (ls : Array Slot), kc x5 x6 x7 = some (r, mem2) → va_P g.1 vwCl (wM g ad mem) H → va_S (AW 29 ad) s.heap H locs → lv_has ls 10 [(0, .ref (ad 0)), (1, .int z1), (2, .int z2), (3, .int z3), (4, .int z4), (5, .int x5), (6, .int x6), (7, .int x7)] → W p l e { frames := 2, cells := 0, slots := 0, locals := 46 } s m args below meth c H locs 0 0 (MQ below (qW (wM g ad mem2) g (AW 29 ad) (some (.int r)) (True)) args s 0 0 (AW 29 ad)) (F0 m 71 ls [])) :
    ∀ (n : Nat) (x5 : Int32) (x6 : Int32) (x8 : Int32) (H : Heap) (locs : List Loc) (ls : Array Slot), fX9_hands_96 mem z1 z2 z3 z4 z7 kc n x5 x6 x8 = some (r, mem2) → va_P g.1 vwCl (wM g ad mem) H → va_S (AW 29 ad) s.heap H locs → lv_has ls 10 [(0, .ref (ad 0)), (1, .int z1), (2, .int z2), (3, .int z3), (4, .int z4), (5, .int x5), (6, .int x6), (7, .int z7), (8, .int x8)] → W p l e { frames := 2, cells := 0, slots := 0, locals := 46 } s m args below meth c H locs 0 0 (MQ below (qW (wM g ad mem2) g (AW 29 ad) (some (.int r)) (True)) args s 0 0 (AW 29 ad)) (F0 m 96 ls []) := by
  obtain ⟨hx, hb, hml, hown, hts, hr, hlk, hE⟩ := id C0
  obtain ⟨hK, hA⟩ := id hE
  intro n
  induction n with
  | zero =>
    intro x5 x6 x8 H locs ls hF hP hS hl
    cases hF
  | succ n ih =>
    intro x5 x6 x8 H locs ls hF hP hS hl
    rw [fX9_hands_96] at hF
    refine lv_iload hx hb dX9_hands_96 (lv_at hl 8 rfl) ?_
    refine lv_iload_n hx hb dX9_hands_98 rfl (lv_at hl 3 rfl) ?_
    refine lv_iload hx hb dX9_hands_99 (lv_at hl 4 rfl) ?_
    refine lv_iadd hx hb dX9_hands_101 ?_
    refine lv_icmp_gt (tgt := 135) hx hb dX9_hands_102 (by decide) (fun c31 => ?_) (fun c31 => ?_)
    · replace hF := (if_pos c31).symm.trans hF
      refine lv_iinc (v := z7 + 1) (lv' := [(7, .int (z7 + 1)), (0, .ref (ad 0)), (1, .int z1), (2, .int z2), (3, .int z3), (4, .int z4), (5, .int x5), (6, .int x6), (8, .int x8)]) hx hb dX9_hands_135 hl (k := 7) rfl rfl (by decide) rfl (fun ls hl => ?_)
      refine lv_goto (tgt := 71) hx hb dX9_hands_138 (by decide) ?_
      exact hkc x5 x6 (z7 + 1) _ _ ls hF hP hS (lv_sub hl [1, 2, 3, 4, 5, 6, 7, 0] rfl)
    · replace hF := (if_neg c31).symm.trans hF
      refine lv_iload_n hx hb dX9_hands_105 rfl (lv_at hl 1 rfl) ?_
      refine lv_iload hx hb dX9_hands_106 (lv_at hl 7 rfl) ?_
      refine lv_iload hx hb dX9_hands_108 (lv_at hl 8 rfl) ?_
      obtain ⟨r33, h32, hF⟩ := ob_some hF
      refine cS_Ri C0 pkX9_passes (As := [.int z1, .int z7, .int x8]) (rest := []) (kX9_passes l g z1 z7 x8 r33 h32) mL_X9_198 ⟨rfl, rfl, Nat.le_of_ble_eq_true rfl, Nat.le_of_ble_eq_true rfl, Nat.le_of_ble_eq_true rfl, Nat.le_of_ble_eq_true rfl⟩ rfl hl.1 rfl (Nat.le_of_ble_eq_true rfl) dX9_hands_110 (fun b34 => ?_)
      refine lv_istore (lv' := [(9, .int r33), (0, .ref (ad 0)), (1, .int z1), (2, .int z2), (3, .int z3), (4, .int z4), (5, .int x5), (6, .int x6), (7, .int z7), (8, .int x8)]) hx hb dX9_hands_113 hl (by decide) rfl (fun ls hl => ?_)
      refine lv_iload hx hb dX9_hands_115 (lv_at hl 6 rfl) ?_
      refine lv_iload hx hb dX9_hands_117 (lv_at hl 0 rfl) ?_
      refine lv_iand hx hb dX9_hands_119 ?_
      refine lv_istore (lv' := [(5, .int (x5 &&& r33)), (9, .int r33), (0, .ref (ad 0)), (1, .int z1), (2, .int z2), (3, .int z3), (4, .int z4), (6, .int x6), (7, .int z7), (8, .int x8)]) hx hb dX9_hands_120 hl (by decide) rfl (fun ls hl => ?_)
      refine lv_iload hx hb dX9_hands_122 (lv_at hl 7 rfl) ?_
      refine lv_iload hx hb dX9_hands_124 (lv_at hl 1 rfl) ?_
      refine lv_ior hx hb dX9_hands_126 ?_
      refine lv_istore (lv' := [(6, .int (x6 ||| r33)), (5, .int (x5 &&& r33)), (9, .int r33), (0, .ref (ad 0)), (1, .int z1), (2, .int z2), (3, .int z3), (4, .int z4), (7, .int z7), (8, .int x8)]) hx hb dX9_hands_127 hl (by decide) rfl (fun ls hl => ?_)
      refine lv_iinc (v := x8 + 1) (lv' := [(8, .int (x8 + 1)), (6, .int (x6 ||| r33)), (5, .int (x5 &&& r33)), (9, .int r33), (0, .ref (ad 0)), (1, .int z1), (2, .int z2), (3, .int z3), (4, .int z4), (7, .int z7)]) hx hb dX9_hands_129 hl (k := 9) rfl rfl (by decide) rfl (fun ls hl => ?_)
      refine lv_goto (tgt := 96) hx hb dX9_hands_132 (by decide) ?_
      exact ih (x5 &&& r33) (x6 ||| r33) (x8 + 1) _ _ ls hF hP hS (lv_sub hl [4, 5, 6, 7, 8, 2, 1, 9, 0] rfl)
def fX9_hands_71 (mem : Mem) (z1 : Int32) (z2 : Int32) (z3 : Int32) (z4 : Int32) : Nat → Int32 → Int32 → Int32 → Option (Int32 × Mem)
  | 0, _, _, _ => none
  | n + 1, x5, x6, x7 =>
    if z2 + z4 < x7 then (if x5 = 0 then (if x6 = 0 then (some (0, mem)) else (some (2, mem))) else (some (1, mem))) else (if z4 ≤ z3 then (fX9_hands_96 mem z1 z2 z3 z4 x7 (fX9_hands_71 mem z1 z2 z3 z4 n) fu x5 x6 (z3 - z4)) else (fX9_hands_96 mem z1 z2 z3 z4 x7 (fX9_hands_71 mem z1 z2 z3 z4 n) fu x5 x6 0))
set_option maxHeartbeats 4000000 in
set_option maxRecDepth 100000 in
theorem lpX9_hands_71 {p : Program} {l : Launch} {e : Env} {s : State} {m : MethodId} {args : Array Value} {below : List Frame} {meth : Method} {c : Code} (g : gG) (ad : Nat → Nat) (mem : Mem) (z1 : Int32) (z2 : Int32) (z3 : Int32) (z4 : Int32) (r : Int32) (mem2 : Mem) (C0 : cxt (eM g ad) cX9_hands 10 RX9 (some .int) p s m args meth c) :
    ∀ (n : Nat) (x5 : Int32) (x6 : Int32) (x7 : Int32) (H : Heap) (locs : List Loc) (ls : Array Slot), fX9_hands_71 mem z1 z2 z3 z4 n x5 x6 x7 = some (r, mem2) → va_P g.1 vwCl (wM g ad mem) H → va_S (AW 29 ad) s.heap H locs → lv_has ls 10 [(0, .ref (ad 0)), (1, .int z1), (2, .int z2), (3, .int z3), (4, .int z4), (5, .int x5), (6, .int x6), (7, .int x7)] → W p l e { frames := 2, cells := 0, slots := 0, locals := 46 } s m args below meth c H locs 0 0 (MQ below (qW (wM g ad mem2) g (AW 29 ad) (some (.int r)) (True)) args s 0 0 (AW 29 ad)) (F0 m 71 ls []) := by
  obtain ⟨hx, hb, hml, hown, hts, hr, hlk, hE⟩ := id C0
  obtain ⟨hK, hA⟩ := id hE
  intro n
  induction n with
  | zero =>
    intro x5 x6 x7 H locs ls hF hP hS hl
    cases hF
  | succ n ih =>
    intro x5 x6 x7 H locs ls hF hP hS hl
    rw [fX9_hands_71] at hF
    refine lv_iload hx hb dX9_hands_71 (lv_at hl 7 rfl) ?_
    refine lv_iload_n hx hb dX9_hands_73 rfl (lv_at hl 2 rfl) ?_
    refine lv_iload hx hb dX9_hands_74 (lv_at hl 4 rfl) ?_
    refine lv_iadd hx hb dX9_hands_76 ?_
    refine lv_icmp_gt (tgt := 141) hx hb dX9_hands_77 (by decide) (fun c27 => ?_) (fun c27 => ?_)
    · replace hF := (if_pos c27).symm.trans hF
      refine lv_iload hx hb dX9_hands_141 (lv_at hl 5 rfl) ?_
      refine lv_if_eq (tgt := 150) hx hb dX9_hands_143 (by decide) (fun c28 => ?_) (fun c28 => ?_)
      · replace hF := (if_pos c28).symm.trans hF
        refine lv_iload hx hb dX9_hands_150 (lv_at hl 6 rfl) ?_
        refine lv_if_eq (tgt := 159) hx hb dX9_hands_152 (by decide) (fun c29 => ?_) (fun c29 => ?_)
        · replace hF := (if_pos c29).symm.trans hF
          refine lv_iconst (v := 0) hx hb dX9_hands_159 (by decide) ?_
          cases hF
          exact ret_Wi C0 hP hS trivial dX9_hands_160
        · replace hF := (if_neg c29).symm.trans hF
          refine lv_iconst (v := 2) hx hb dX9_hands_155 (by decide) ?_
          refine lv_goto (tgt := 160) hx hb dX9_hands_156 (by decide) ?_
          cases hF
          exact ret_Wi C0 hP hS trivial dX9_hands_160
      · replace hF := (if_neg c28).symm.trans hF
        refine lv_iconst (v := 1) hx hb dX9_hands_146 (by decide) ?_
        refine lv_goto (tgt := 160) hx hb dX9_hands_147 (by decide) ?_
        cases hF
        exact ret_Wi C0 hP hS trivial dX9_hands_160
    · replace hF := (if_neg c27).symm.trans hF
      refine lv_iload_n hx hb dX9_hands_80 rfl (lv_at hl 3 rfl) ?_
      refine lv_iload hx hb dX9_hands_81 (lv_at hl 4 rfl) ?_
      refine lv_icmp_ge (tgt := 90) hx hb dX9_hands_83 (by decide) (fun c30 => ?_) (fun c30 => ?_)
      · replace hF := (if_pos c30).symm.trans hF
        refine lv_iload_n hx hb dX9_hands_90 rfl (lv_at hl 3 rfl) ?_
        refine lv_iload hx hb dX9_hands_91 (lv_at hl 4 rfl) ?_
        refine lv_isub hx hb dX9_hands_93 ?_
        refine lv_istore (lv' := [(8, .int (z3 - z4)), (0, .ref (ad 0)), (1, .int z1), (2, .int z2), (3, .int z3), (4, .int z4), (5, .int x5), (6, .int x6), (7, .int x7)]) hx hb dX9_hands_94 hl (by decide) rfl (fun ls hl => ?_)
        exact lpX9_hands_96 g ad mem z1 z2 z3 z4 x7 (fX9_hands_71 mem z1 z2 z3 z4 n) r mem2 C0 ih fu x5 x6 (z3 - z4) _ _ ls hF hP hS (lv_sub hl [1, 2, 3, 4, 5, 6, 7, 8, 0] rfl)
      · replace hF := (if_neg c30).symm.trans hF
        refine lv_iconst (v := 0) hx hb dX9_hands_86 (by decide) ?_
        refine lv_goto (tgt := 94) hx hb dX9_hands_87 (by decide) ?_
        refine lv_istore (lv' := [(8, .int 0), (0, .ref (ad 0)), (1, .int z1), (2, .int z2), (3, .int z3), (4, .int z4), (5, .int x5), (6, .int x6), (7, .int x7)]) hx hb dX9_hands_94 hl (by decide) rfl (fun ls hl => ?_)
        exact lpX9_hands_96 g ad mem z1 z2 z3 z4 x7 (fX9_hands_71 mem z1 z2 z3 z4 n) r mem2 C0 ih fu x5 x6 0 _ _ ls hF hP hS (lv_sub hl [1, 2, 3, 4, 5, 6, 7, 8, 0] rfl)
def fX9_hands (mem : Mem) (a1 : Int32) (a2 : Int32) (a3 : Int32) (a4 : Int32) : Option (Int32 × Mem) :=
  ob1 (fX9_isIn a1 1 3) (fun r2 => if r2 = 0 then (ob2 (fX9_finding mem (-100001)) (fun r7 m6 => some (r7, m6))) else (ob1 (fX9_isIn a2 0 1000) (fun r9 => if r9 = 0 then (ob2 (fX9_finding mem (-100001)) (fun r14 m13 => some (r14, m13))) else (ob1 (fX9_isIn a3 0 1000) (fun r16 => if r16 = 0 then (ob2 (fX9_finding mem (-100001)) (fun r21 m20 => some (r21, m20))) else (ob1 (fX9_isIn a4 0 100) (fun r23 => if r23 = 0 then (ob2 (fX9_finding mem (-100001)) (fun r37 m36 => some (r37, m36))) else (if a4 ≤ a2 then (fX9_hands_71 mem a1 a2 a3 a4 fu 1 0 (a2 - a4)) else (fX9_hands_71 mem a1 a2 a3 a4 fu 1 0 0)))))))))
set_option maxHeartbeats 4000000 in
set_option maxRecDepth 100000 in
theorem kX9_hands (l : Launch) (g : gG) (ad : Nat → Nat) (mem : Mem) (a1 : Int32) (a2 : Int32) (a3 : Int32) (a4 : Int32) (r : Int32) (mem2 : Mem) (hF : fX9_hands mem a1 a2 a3 a4 = some (r, mem2)) : Met l yX9_hands (Cond.code yX9_hands cX9_hands 10 (some .int) :: gw) { frames := 2, cells := 0, slots := 0, locals := 46 } (pG (wM g ad mem) (eM g ad) g [.ref (ad 0), .int a1, .int a2, .int a3, .int a4]) (qW (wM g ad mem2) g (AW 29 ad) (some (.int r)) (True)) 0 0 (AW 29 ad) := by
  refine met_of (by decide) (Nat.le_of_ble_eq_true rfl) ?_
  intro p e s m args below meth c ls C0 hP hl
  obtain ⟨hx, hb, hml, hown, hts, hr, hlk, hE⟩ := id C0
  obtain ⟨hK, hA⟩ := id hE
  have hl : lv_has ls 10 [(0, .ref (ad 0)), (1, .int a1), (2, .int a2), (3, .int a3), (4, .int a4)] := hl
  have hS : va_S (AW 29 ad) s.heap s.heap [] := va_S.rf
  unfold fX9_hands at hF
  refine lv_iload_n hx hb dX9_hands_0 rfl (lv_at hl 1 rfl) ?_
  refine lv_iconst (v := 1) hx hb dX9_hands_1 (by decide) ?_
  refine lv_iconst (v := 3) hx hb dX9_hands_2 (by decide) ?_
  obtain ⟨r2, h1, hF⟩ := ob_some hF
  refine cS_Ri C0 pkX9_isIn (As := [.int a1, .int 1, .int 3]) (rest := []) (kX9_isIn l g a1 1 3 r2 h1) mL_X9_105 ⟨rfl, rfl, Nat.le_of_ble_eq_true rfl, Nat.le_of_ble_eq_true rfl, Nat.le_of_ble_eq_true rfl, Nat.le_of_ble_eq_true rfl⟩ rfl hl.1 rfl (Nat.le_of_ble_eq_true rfl) dX9_hands_3 (fun b3 => ?_)
  refine lv_if_eq (tgt := 42) hx hb dX9_hands_6 (by decide) (fun c4 => ?_) (fun c4 => ?_)
  · replace hF := (if_pos c4).symm.trans hF
    refine lv_aload_n hx hb dX9_hands_42 rfl (lv_at hl 0 rfl) ?_
    refine lv_ldc hx hb hown (hts _ mK_X9_109) dX9_hands_43 ?_
    obtain ⟨r7, m6, h5, hF⟩ := ob2_some hF
    refine cV_Wi C0 eM_st hP hS hK pkX9_finding (As := [.int (-100001)]) (rest := []) (kX9_finding l g ad mem (-100001) r7 m6 h5) mL_X9_110 ⟨rfl, rfl, Nat.le_of_ble_eq_true rfl, Nat.le_of_ble_eq_true rfl, Nat.le_of_ble_eq_true rfl, Nat.le_of_ble_eq_true rfl⟩ 0 wM_0 rfl rfl rfl hl.1 rfl (Nat.le_of_ble_eq_true rfl) dX9_hands_45 (fun H locs _ hP hS => ?_)
    cases hF
    exact ret_Wi C0 hP hS trivial dX9_hands_48
  · replace hF := (if_neg c4).symm.trans hF
    refine lv_iload_n hx hb dX9_hands_9 rfl (lv_at hl 2 rfl) ?_
    refine lv_iconst (v := 0) hx hb dX9_hands_10 (by decide) ?_
    refine lv_sipush (v := 1000) hx hb dX9_hands_11 (by decide) ?_
    obtain ⟨r9, h8, hF⟩ := ob_some hF
    refine cS_Ri C0 pkX9_isIn (As := [.int a2, .int 0, .int 1000]) (rest := []) (kX9_isIn l g a2 0 1000 r9 h8) mL_X9_105 ⟨rfl, rfl, Nat.le_of_ble_eq_true rfl, Nat.le_of_ble_eq_true rfl, Nat.le_of_ble_eq_true rfl, Nat.le_of_ble_eq_true rfl⟩ rfl hl.1 rfl (Nat.le_of_ble_eq_true rfl) dX9_hands_14 (fun b10 => ?_)
    refine lv_if_eq (tgt := 42) hx hb dX9_hands_17 (by decide) (fun c11 => ?_) (fun c11 => ?_)
    · replace hF := (if_pos c11).symm.trans hF
      refine lv_aload_n hx hb dX9_hands_42 rfl (lv_at hl 0 rfl) ?_
      refine lv_ldc hx hb hown (hts _ mK_X9_109) dX9_hands_43 ?_
      obtain ⟨r14, m13, h12, hF⟩ := ob2_some hF
      refine cV_Wi C0 eM_st hP hS hK pkX9_finding (As := [.int (-100001)]) (rest := []) (kX9_finding l g ad mem (-100001) r14 m13 h12) mL_X9_110 ⟨rfl, rfl, Nat.le_of_ble_eq_true rfl, Nat.le_of_ble_eq_true rfl, Nat.le_of_ble_eq_true rfl, Nat.le_of_ble_eq_true rfl⟩ 0 wM_0 rfl rfl rfl hl.1 rfl (Nat.le_of_ble_eq_true rfl) dX9_hands_45 (fun H locs _ hP hS => ?_)
      cases hF
      exact ret_Wi C0 hP hS trivial dX9_hands_48
    · replace hF := (if_neg c11).symm.trans hF
      refine lv_iload_n hx hb dX9_hands_20 rfl (lv_at hl 3 rfl) ?_
      refine lv_iconst (v := 0) hx hb dX9_hands_21 (by decide) ?_
      refine lv_sipush (v := 1000) hx hb dX9_hands_22 (by decide) ?_
      obtain ⟨r16, h15, hF⟩ := ob_some hF
      refine cS_Ri C0 pkX9_isIn (As := [.int a3, .int 0, .int 1000]) (rest := []) (kX9_isIn l g a3 0 1000 r16 h15) mL_X9_105 ⟨rfl, rfl, Nat.le_of_ble_eq_true rfl, Nat.le_of_ble_eq_true rfl, Nat.le_of_ble_eq_true rfl, Nat.le_of_ble_eq_true rfl⟩ rfl hl.1 rfl (Nat.le_of_ble_eq_true rfl) dX9_hands_25 (fun b17 => ?_)
      refine lv_if_eq (tgt := 42) hx hb dX9_hands_28 (by decide) (fun c18 => ?_) (fun c18 => ?_)
      · replace hF := (if_pos c18).symm.trans hF
        refine lv_aload_n hx hb dX9_hands_42 rfl (lv_at hl 0 rfl) ?_
        refine lv_ldc hx hb hown (hts _ mK_X9_109) dX9_hands_43 ?_
        obtain ⟨r21, m20, h19, hF⟩ := ob2_some hF
        refine cV_Wi C0 eM_st hP hS hK pkX9_finding (As := [.int (-100001)]) (rest := []) (kX9_finding l g ad mem (-100001) r21 m20 h19) mL_X9_110 ⟨rfl, rfl, Nat.le_of_ble_eq_true rfl, Nat.le_of_ble_eq_true rfl, Nat.le_of_ble_eq_true rfl, Nat.le_of_ble_eq_true rfl⟩ 0 wM_0 rfl rfl rfl hl.1 rfl (Nat.le_of_ble_eq_true rfl) dX9_hands_45 (fun H locs _ hP hS => ?_)
        cases hF
        exact ret_Wi C0 hP hS trivial dX9_hands_48
      · replace hF := (if_neg c18).symm.trans hF
        refine lv_iload hx hb dX9_hands_31 (lv_at hl 4 rfl) ?_
        refine lv_iconst (v := 0) hx hb dX9_hands_33 (by decide) ?_
        refine lv_bipush (v := 100) hx hb dX9_hands_34 (by decide) ?_
        obtain ⟨r23, h22, hF⟩ := ob_some hF
        refine cS_Ri C0 pkX9_isIn (As := [.int a4, .int 0, .int 100]) (rest := []) (kX9_isIn l g a4 0 100 r23 h22) mL_X9_105 ⟨rfl, rfl, Nat.le_of_ble_eq_true rfl, Nat.le_of_ble_eq_true rfl, Nat.le_of_ble_eq_true rfl, Nat.le_of_ble_eq_true rfl⟩ rfl hl.1 rfl (Nat.le_of_ble_eq_true rfl) dX9_hands_36 (fun b24 => ?_)
        refine lv_if_ne (tgt := 49) hx hb dX9_hands_39 (by decide) (fun c25 => ?_) (fun c25 => ?_)
        · replace hF := (if_neg c25).symm.trans hF
          refine lv_iconst (v := 1) hx hb dX9_hands_49 (by decide) ?_
          refine lv_istore (lv' := [(5, .int 1), (0, .ref (ad 0)), (1, .int a1), (2, .int a2), (3, .int a3), (4, .int a4)]) hx hb dX9_hands_50 hl (by decide) rfl (fun ls hl => ?_)
          refine lv_iconst (v := 0) hx hb dX9_hands_52 (by decide) ?_
          refine lv_istore (lv' := [(6, .int 0), (5, .int 1), (0, .ref (ad 0)), (1, .int a1), (2, .int a2), (3, .int a3), (4, .int a4)]) hx hb dX9_hands_53 hl (by decide) rfl (fun ls hl => ?_)
          refine lv_iload_n hx hb dX9_hands_55 rfl (lv_at hl 4 rfl) ?_
          refine lv_iload hx hb dX9_hands_56 (lv_at hl 6 rfl) ?_
          refine lv_icmp_ge (tgt := 65) hx hb dX9_hands_58 (by decide) (fun c26 => ?_) (fun c26 => ?_)
          · replace hF := (if_pos c26).symm.trans hF
            refine lv_iload_n hx hb dX9_hands_65 rfl (lv_at hl 4 rfl) ?_
            refine lv_iload hx hb dX9_hands_66 (lv_at hl 6 rfl) ?_
            refine lv_isub hx hb dX9_hands_68 ?_
            refine lv_istore (lv' := [(7, .int (a2 - a4)), (6, .int 0), (5, .int 1), (0, .ref (ad 0)), (1, .int a1), (2, .int a2), (3, .int a3), (4, .int a4)]) hx hb dX9_hands_69 hl (by decide) rfl (fun ls hl => ?_)
            exact lpX9_hands_71 g ad mem a1 a2 a3 a4 r mem2 C0 fu 1 0 (a2 - a4) _ _ ls hF hP hS (lv_sub hl [3, 4, 5, 6, 7, 2, 1, 0] rfl)
          · replace hF := (if_neg c26).symm.trans hF
            refine lv_iconst (v := 0) hx hb dX9_hands_61 (by decide) ?_
            refine lv_goto (tgt := 69) hx hb dX9_hands_62 (by decide) ?_
            refine lv_istore (lv' := [(7, .int 0), (6, .int 0), (5, .int 1), (0, .ref (ad 0)), (1, .int a1), (2, .int a2), (3, .int a3), (4, .int a4)]) hx hb dX9_hands_69 hl (by decide) rfl (fun ls hl => ?_)
            exact lpX9_hands_71 g ad mem a1 a2 a3 a4 r mem2 C0 fu 1 0 0 _ _ ls hF hP hS (lv_sub hl [3, 4, 5, 6, 7, 2, 1, 0] rfl)
        · replace hF := (if_pos c25).symm.trans hF
          refine lv_aload_n hx hb dX9_hands_42 rfl (lv_at hl 0 rfl) ?_
          refine lv_ldc hx hb hown (hts _ mK_X9_109) dX9_hands_43 ?_
          obtain ⟨r37, m36, h35, hF⟩ := ob2_some hF
          refine cV_Wi C0 eM_st hP hS hK pkX9_finding (As := [.int (-100001)]) (rest := []) (kX9_finding l g ad mem (-100001) r37 m36 h35) mL_X9_110 ⟨rfl, rfl, Nat.le_of_ble_eq_true rfl, Nat.le_of_ble_eq_true rfl, Nat.le_of_ble_eq_true rfl, Nat.le_of_ble_eq_true rfl⟩ 0 wM_0 rfl rfl rfl hl.1 rfl (Nat.le_of_ble_eq_true rfl) dX9_hands_45 (fun H locs _ hP hS => ?_)
          cases hF
          exact ret_Wi C0 hP hS trivial dX9_hands_48
theorem pkX9_hasMember : pkV yX9_hasMember cX9_hasMember 4 (some .boolean) RX9 1 := ⟨mI_X9_hasMember, mS_X9_hasMember, mN_X9, mC_X9_hasMember, by decide +kernel⟩
def fX9_hasMember_4 (mem : Mem) (z1 : Int32) : Nat → Int32 → Int32 → Option (Int32)
  | 0, _, _ => none
  | n + 1, x2, x3 =>
    if mem 0 0 ≤ x3 then (gB x2 (some x2)) else (gI x3 10 (if mem 2 x3.toNatClampNeg = z1 then (fX9_hasMember_4 mem z1 n (x2 ||| 1) (x3 + 1)) else (fX9_hasMember_4 mem z1 n (x2 ||| 0) (x3 + 1))))
set_option maxHeartbeats 4000000 in
set_option maxRecDepth 100000 in
theorem lpX9_hasMember_4 {p : Program} {l : Launch} {e : Env} {s : State} {m : MethodId} {args : Array Value} {below : List Frame} {meth : Method} {c : Code} (g : gG) (ad : Nat → Nat) (mem : Mem) (z1 : Int32) (r : Int32) (C0 : cxt (eM g ad) cX9_hasMember 4 RX9 (some .boolean) p s m args meth c) (hP : va_P g.1 vwCl (wM g ad mem) s.heap) :
    ∀ (n : Nat) (x2 : Int32) (x3 : Int32) (ls : Array Slot), fX9_hasMember_4 mem z1 n x2 x3 = some r → lv_has ls 4 [(0, .ref (ad 0)), (1, .int z1), (2, .int x2), (3, .int x3)] → W p l e { frames := 1, cells := 0, slots := 0, locals := 24 } s m args below meth c s.heap [] 0 0 (MQ below (qR (some (.int r)) (isB r)) args s 0 0 noA) (F0 m 4 ls []) := by
  obtain ⟨hx, hb, hml, hown, hts, hr, hlk, hE⟩ := id C0
  obtain ⟨hK, hA⟩ := id hE
  intro n
  induction n with
  | zero =>
    intro x2 x3 ls hF hl
    cases hF
  | succ n ih =>
    intro x2 x3 ls hF hl
    rw [fX9_hasMember_4] at hF
    have hS : va_S (AW 29 ad) s.heap s.heap [] := va_S.rf
    refine lv_iload_n hx hb dX9_hasMember_4 rfl (lv_at hl 3 rfl) ?_
    refine lv_aload_n hx hb dX9_hasMember_5 rfl (lv_at hl 0 rfl) ?_
    refine get_W C0 hK hP iwX9 0 wM_0 rfl 0 (by decide) mF_X9_102 rfl rfl dX9_hasMember_6 ?_
    refine lv_icmp_ge (tgt := 36) hx hb dX9_hasMember_9 (by decide) (fun c1 => ?_) (fun c1 => ?_)
    · replace hF := (if_pos c1).symm.trans hF
      refine lv_iload_n hx hb dX9_hasMember_36 rfl (lv_at hl 2 rfl) ?_
      obtain ⟨b2, hF⟩ := gB_some hF
      cases hF
      exact ret_Rz C0 b2 b2 dX9_hasMember_37
    · replace hF := (if_neg c1).symm.trans hF
      refine lv_iload_n hx hb dX9_hasMember_12 rfl (lv_at hl 2 rfl) ?_
      refine lv_aload_n hx hb dX9_hasMember_13 rfl (lv_at hl 0 rfl) ?_
      refine get_W C0 hK hP iwX9 0 wM_0 rfl 2 (by decide) mF_X9_13 rfl rfl dX9_hasMember_14 ?_
      refine lv_iload_n hx hb dX9_hasMember_17 rfl (lv_at hl 3 rfl) ?_
      obtain ⟨g3, hF⟩ := gI_some hF
      refine va_iald hx hb hK hP 2 0 wM_2 rfl g3 dX9_hasMember_18 ?_
      refine lv_iload_n hx hb dX9_hasMember_19 rfl (lv_at hl 1 rfl) ?_
      refine lv_icmp_ne (tgt := 27) hx hb dX9_hasMember_20 (by decide) (fun c4 => ?_) (fun c4 => ?_)
      · replace hF := (if_neg c4).symm.trans hF
        refine lv_iconst (v := 0) hx hb dX9_hasMember_27 (by decide) ?_
        refine lv_ior hx hb dX9_hasMember_28 ?_
        refine lv_istore_n (lv' := [(2, .int (x2 ||| 0)), (0, .ref (ad 0)), (1, .int z1), (3, .int x3)]) hx hb dX9_hasMember_29 rfl hl (by decide) rfl (fun ls hl => ?_)
        refine lv_iinc (v := x3 + 1) (lv' := [(3, .int (x3 + 1)), (2, .int (x2 ||| 0)), (0, .ref (ad 0)), (1, .int z1)]) hx hb dX9_hasMember_30 hl (k := 3) rfl rfl (by decide) rfl (fun ls hl => ?_)
        refine lv_goto (tgt := 4) hx hb dX9_hasMember_33 (by decide) ?_
        exact ih (x2 ||| 0) (x3 + 1) ls hF (lv_sub hl [2, 3, 1, 0] rfl)
      · replace hF := (if_pos c4).symm.trans hF
        refine lv_iconst (v := 1) hx hb dX9_hasMember_23 (by decide) ?_
        refine lv_goto (tgt := 28) hx hb dX9_hasMember_24 (by decide) ?_
        refine lv_ior hx hb dX9_hasMember_28 ?_
        refine lv_istore_n (lv' := [(2, .int (x2 ||| 1)), (0, .ref (ad 0)), (1, .int z1), (3, .int x3)]) hx hb dX9_hasMember_29 rfl hl (by decide) rfl (fun ls hl => ?_)
        refine lv_iinc (v := x3 + 1) (lv' := [(3, .int (x3 + 1)), (2, .int (x2 ||| 1)), (0, .ref (ad 0)), (1, .int z1)]) hx hb dX9_hasMember_30 hl (k := 3) rfl rfl (by decide) rfl (fun ls hl => ?_)
        refine lv_goto (tgt := 4) hx hb dX9_hasMember_33 (by decide) ?_
        exact ih (x2 ||| 1) (x3 + 1) ls hF (lv_sub hl [2, 3, 1, 0] rfl)
def fX9_hasMember (mem : Mem) (a1 : Int32) : Option (Int32) :=
  fX9_hasMember_4 mem a1 fu 0 0
set_option maxHeartbeats 4000000 in
set_option maxRecDepth 100000 in
theorem kX9_hasMember (l : Launch) (g : gG) (ad : Nat → Nat) (mem : Mem) (a1 : Int32) (r : Int32) (hF : fX9_hasMember mem a1 = some r) : Met l yX9_hasMember (Cond.code yX9_hasMember cX9_hasMember 4 (some .boolean) :: gw) { frames := 1, cells := 0, slots := 0, locals := 24 } (pG (wM g ad mem) (eM g ad) g [.ref (ad 0), .int a1]) (qR (some (.int r)) (isB r)) 0 0 noA := by
  refine met_of (by decide) (Nat.le_of_ble_eq_true rfl) ?_
  intro p e s m args below meth c ls C0 hP hl
  obtain ⟨hx, hb, hml, hown, hts, hr, hlk, hE⟩ := id C0
  obtain ⟨hK, hA⟩ := id hE
  have hl : lv_has ls 4 [(0, .ref (ad 0)), (1, .int a1)] := hl
  have hS : va_S (AW 29 ad) s.heap s.heap [] := va_S.rf
  unfold fX9_hasMember at hF
  refine lv_iconst (v := 0) hx hb dX9_hasMember_0 (by decide) ?_
  refine lv_istore_n (lv' := [(2, .int 0), (0, .ref (ad 0)), (1, .int a1)]) hx hb dX9_hasMember_1 rfl hl (by decide) rfl (fun ls hl => ?_)
  refine lv_iconst (v := 0) hx hb dX9_hasMember_2 (by decide) ?_
  refine lv_istore_n (lv' := [(3, .int 0), (2, .int 0), (0, .ref (ad 0)), (1, .int a1)]) hx hb dX9_hasMember_3 rfl hl (by decide) rfl (fun ls hl => ?_)
  exact lpX9_hasMember_4 g ad mem a1 r C0 hP fu 0 0 ls hF (lv_sub hl [2, 3, 1, 0] rfl)
