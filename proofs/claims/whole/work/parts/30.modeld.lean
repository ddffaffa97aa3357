theorem pkX9_apart : pkV yX9_apart cX9_apart 5 (some .int) RX9 0 := ⟨mI_X9_apart, mS_X9_apart, mN_X9, mC_X9_apart, by decide +kernel⟩
def fX9_apart_6 (mem : Mem) : Nat → Int32 → Int32 → Int32 → Option (Int32)
  | 0, _, _, _ => none
  | n + 1, x1, x2, x3 =>
    if 5 ≤ x3 then (if 0 ≤ x1 then (some (x2 - x1)) else (some 0)) else (ob1 (fX9_hasMember mem x3) (fun r4 => if r4 = 0 then (fX9_apart_6 mem n x1 x2 (x3 + 1)) else (ob1 (fX9_timeOf mem x3) (fun r8 => if x1 < 0 then (if r8 ≤ x2 then (fX9_apart_6 mem n r8 x2 (x3 + 1)) else (fX9_apart_6 mem n r8 r8 (x3 + 1))) else (if x1 ≤ r8 then (if r8 ≤ x2 then (fX9_apart_6 mem n x1 x2 (x3 + 1)) else (fX9_apart_6 mem n x1 r8 (x3 + 1))) else (if r8 ≤ x2 then (fX9_apart_6 mem n r8 x2 (x3 + 1)) else (fX9_apart_6 mem n r8 r8 (x3 + 1))))))))
set_option maxHeartbeats 4000000 in
set_option maxRecDepth 100000 in
theorem lpX9_apart_6 {p : Program} {l : Launch} {e : Env} {s : State} {m : MethodId} {args : Array Value} {below : List Frame} {meth : Method} {c : Code} (g : gG) (ad : Nat → Nat) (mem : Mem) (r : Int32) (C0 : cxt (eM g ad) cX9_apart 5 RX9 (some .int) p s m args meth c) (hP : va_P g.1 vwCl (wM g ad mem) s.heap) :
    ∀ (n : Nat) (x1 : Int32) (x2 : Int32) (x3 : Int32) (ls : Array Slot), fX9_apart_6 mem n x1 x2 x3 = some r → lv_has ls 5 [(0, .ref (ad 0)), (1, .int x1), (2, .int x2), (3, .int x3)] → W p l e { frames := 2, cells := 0, slots := 0, locals := 47 } s m args below meth c s.heap [] 0 0 (MQ below (qR (some (.int r)) (True)) args s 0 0 noA) (F0 m 6 ls []) := by
  obtain ⟨hx, hb, hml, hown, hts, hr, hlk, hE⟩ := id C0
  obtain ⟨hK, hA⟩ := id hE
  intro n
  induction n with
  | zero =>
    intro x1 x2 x3 ls hF hl
    cases hF
  | succ n ih =>
    intro x1 x2 x3 ls hF hl
    rw [fX9_apart_6] at hF
    have hS : va_S (AW 29 ad) s.heap s.heap [] := va_S.rf
    refine lv_iload_n hx hb dX9_apart_6 rfl (lv_at hl 3 rfl) ?_
    refine lv_iconst (v := 5) hx hb dX9_apart_7 (by decide) ?_
    refine lv_icmp_ge (tgt := 62) hx hb dX9_apart_8 (by decide) (fun c1 => ?_) (fun c1 => ?_)
    · replace hF := (if_pos c1).symm.trans hF
      refine lv_iload_n hx hb dX9_apart_62 rfl (lv_at hl 1 rfl) ?_
      refine lv_if_ge (tgt := 70) hx hb dX9_apart_63 (by decide) (fun c2 => ?_) (fun c2 => ?_)
      · replace hF := (if_pos c2).symm.trans hF
        refine lv_iload_n hx hb dX9_apart_70 rfl (lv_at hl 2 rfl) ?_
        refine lv_iload_n hx hb dX9_apart_71 rfl (lv_at hl 1 rfl) ?_
        refine lv_isub hx hb dX9_apart_72 ?_
        cases hF
        exact ret_Ri C0 trivial dX9_apart_73
      · replace hF := (if_neg c2).symm.trans hF
        refine lv_iconst (v := 0) hx hb dX9_apart_66 (by decide) ?_
        refine lv_goto (tgt := 73) hx hb dX9_apart_67 (by decide) ?_
        cases hF
        exact ret_Ri C0 trivial dX9_apart_73
    · replace hF := (if_neg c1).symm.trans hF
      refine lv_aload_n hx hb dX9_apart_11 rfl (lv_at hl 0 rfl) ?_
      refine lv_iload_n hx hb dX9_apart_12 rfl (lv_at hl 3 rfl) ?_
      obtain ⟨r4, h3, hF⟩ := ob_some hF
      refine cV_Ri C0 eM_st hP hS hK pkX9_hasMember (As := [.int x3]) (rest := []) (kX9_hasMember l g ad mem x3 r4 h3) mL_X9_201 ⟨rfl, rfl, Nat.le_of_ble_eq_true rfl, Nat.le_of_ble_eq_true rfl, Nat.le_of_ble_eq_true rfl, Nat.le_of_ble_eq_true rfl⟩ 0 wM_0 rfl rfl rfl hl.1 rfl (Nat.le_of_ble_eq_true rfl) dX9_apart_13 (fun b5 => ?_)
      refine lv_if_eq (tgt := 56) hx hb dX9_apart_16 (by decide) (fun c6 => ?_) (fun c6 => ?_)
      · replace hF := (if_pos c6).symm.trans hF
        refine lv_iinc (v := x3 + 1) (lv' := [(3, .int (x3 + 1)), (0, .ref (ad 0)), (1, .int x1), (2, .int x2)]) hx hb dX9_apart_56 hl (k := 3) rfl rfl (by decide) rfl (fun ls hl => ?_)
        refine lv_goto (tgt := 6) hx hb dX9_apart_59 (by decide) ?_
        exact ih x1 x2 (x3 + 1) ls hF (lv_sub hl [1, 2, 3, 0] rfl)
      · replace hF := (if_neg c6).symm.trans hF
        refine lv_aload_n hx hb dX9_apart_19 rfl (lv_at hl 0 rfl) ?_
        refine lv_iload_n hx hb dX9_apart_20 rfl (lv_at hl 3 rfl) ?_
        obtain ⟨r8, h7, hF⟩ := ob_some hF
        refine cV_Ri C0 eM_st hP hS hK pkX9_timeOf (As := [.int x3]) (rest := []) (kX9_timeOf l g ad mem x3 r8 h7) mL_X9_123 ⟨rfl, rfl, Nat.le_of_ble_eq_true rfl, Nat.le_of_ble_eq_true rfl, Nat.le_of_ble_eq_true rfl, Nat.le_of_ble_eq_true rfl⟩ 0 wM_0 rfl rfl rfl hl.1 rfl (Nat.le_of_ble_eq_true rfl) dX9_apart_21 (fun _ => ?_)
        refine lv_istore (lv' := [(4, .int r8), (0, .ref (ad 0)), (1, .int x1), (2, .int x2), (3, .int x3)]) hx hb dX9_apart_24 hl (by decide) rfl (fun ls hl => ?_)
        refine lv_iload_n hx hb dX9_apart_26 rfl (lv_at hl 2 rfl) ?_
        refine lv_if_lt (tgt := 36) hx hb dX9_apart_27 (by decide) (fun c9 => ?_) (fun c9 => ?_)
        · replace hF := (if_pos c9).symm.trans hF
          refine lv_iload hx hb dX9_apart_36 (lv_at hl 0 rfl) ?_
          refine lv_goto (tgt := 42) hx hb dX9_apart_38 (by decide) ?_
          refine lv_istore_n (lv' := [(1, .int r8), (4, .int r8), (0, .ref (ad 0)), (2, .int x2), (3, .int x3)]) hx hb dX9_apart_42 rfl hl (by decide) rfl (fun ls hl => ?_)
          refine lv_iload hx hb dX9_apart_43 (lv_at hl 1 rfl) ?_
          refine lv_iload_n hx hb dX9_apart_45 rfl (lv_at hl 3 rfl) ?_
          refine lv_icmp_le (tgt := 54) hx hb dX9_apart_46 (by decide) (fun c10 => ?_) (fun c10 => ?_)
          · replace hF := (if_pos c10).symm.trans hF
            refine lv_iload_n hx hb dX9_apart_54 rfl (lv_at hl 3 rfl) ?_
            refine lv_istore_n (lv' := [(2, .int x2), (1, .int r8), (4, .int r8), (0, .ref (ad 0)), (3, .int x3)]) hx hb dX9_apart_55 rfl hl (by decide) rfl (fun ls hl => ?_)
            refine lv_iinc (v := x3 + 1) (lv' := [(3, .int (x3 + 1)), (2, .int x2), (1, .int r8), (4, .int r8), (0, .ref (ad 0))]) hx hb dX9_apart_56 hl (k := 4) rfl rfl (by decide) rfl (fun ls hl => ?_)
            refine lv_goto (tgt := 6) hx hb dX9_apart_59 (by decide) ?_
            exact ih r8 x2 (x3 + 1) ls hF (lv_sub hl [4, 2, 1, 0] rfl)
          · replace hF := (if_neg c10).symm.trans hF
            refine lv_iload hx hb dX9_apart_49 (lv_at hl 1 rfl) ?_
            refine lv_goto (tgt := 55) hx hb dX9_apart_51 (by decide) ?_
            refine lv_istore_n (lv' := [(2, .int r8), (1, .int r8), (4, .int r8), (0, .ref (ad 0)), (3, .int x3)]) hx hb dX9_apart_55 rfl hl (by decide) rfl (fun ls hl => ?_)
            refine lv_iinc (v := x3 + 1) (lv' := [(3, .int (x3 + 1)), (2, .int r8), (1, .int r8), (4, .int r8), (0, .ref (ad 0))]) hx hb dX9_apart_56 hl (k := 4) rfl rfl (by decide) rfl (fun ls hl => ?_)
            refine lv_goto (tgt := 6) hx hb dX9_apart_59 (by decide) ?_
            exact ih r8 r8 (x3 + 1) ls hF (lv_sub hl [4, 2, 1, 0] rfl)
        · replace hF := (if_neg c9).symm.trans hF
          refine lv_iload hx hb dX9_apart_30 (lv_at hl 0 rfl) ?_
          refine lv_iload_n hx hb dX9_apart_32 rfl (lv_at hl 2 rfl) ?_
          refine lv_icmp_ge (tgt := 41) hx hb dX9_apart_33 (by decide) (fun c11 => ?_) (fun c11 => ?_)
          · replace hF := (if_pos c11).symm.trans hF
            refine lv_iload_n hx hb dX9_apart_41 rfl (lv_at hl 2 rfl) ?_
            refine lv_istore_n (lv' := [(1, .int x1), (4, .int r8), (0, .ref (ad 0)), (2, .int x2), (3, .int x3)]) hx hb dX9_apart_42 rfl hl (by decide) rfl (fun ls hl => ?_)
            refine lv_iload hx hb dX9_apart_43 (lv_at hl 1 rfl) ?_
            refine lv_iload_n hx hb dX9_apart_45 rfl (lv_at hl 3 rfl) ?_
            refine lv_icmp_le (tgt := 54) hx hb dX9_apart_46 (by decide) (fun c12 => ?_) (fun c12 => ?_)
            · replace hF := (if_pos c12).symm.trans hF
              refine lv_iload_n hx hb dX9_apart_54 rfl (lv_at hl 3 rfl) ?_
              refine lv_istore_n (lv' := [(2, .int x2), (1, .int x1), (4, .int r8), (0, .ref (ad 0)), (3, .int x3)]) hx hb dX9_apart_55 rfl hl (by decide) rfl (fun ls hl => ?_)
              refine lv_iinc (v := x3 + 1) (lv' := [(3, .int (x3 + 1)), (2, .int x2), (1, .int x1), (4, .int r8), (0, .ref (ad 0))]) hx hb dX9_apart_56 hl (k := 4) rfl rfl (by decide) rfl (fun ls hl => ?_)
              refine lv_goto (tgt := 6) hx hb dX9_apart_59 (by decide) ?_
              exact ih x1 x2 (x3 + 1) ls hF (lv_sub hl [4, 2, 1, 0] rfl)
            · replace hF := (if_neg c12).symm.trans hF
              refine lv_iload hx hb dX9_apart_49 (lv_at hl 1 rfl) ?_
              refine lv_goto (tgt := 55) hx hb dX9_apart_51 (by decide) ?_
              refine lv_istore_n (lv' := [(2, .int r8), (1, .int x1), (4, .int r8), (0, .ref (ad 0)), (3, .int x3)]) hx hb dX9_apart_55 rfl hl (by decide) rfl (fun ls hl => ?_)
              refine lv_iinc (v := x3 + 1) (lv' := [(3, .int (x3 + 1)), (2, .int r8), (1, .int x1), (4, .int r8), (0, .ref (ad 0))]) hx hb dX9_apart_56 hl (k := 4) rfl rfl (by decide) rfl (fun ls hl => ?_)
              refine lv_goto (tgt := 6) hx hb dX9_apart_59 (by decide) ?_
              exact ih x1 r8 (x3 + 1) ls hF (lv_sub hl [4, 2, 1, 0] rfl)
          · replace hF := (if_neg c11).symm.trans hF
            refine lv_iload hx hb dX9_apart_36 (lv_at hl 0 rfl) ?_
            refine lv_goto (tgt := 42) hx hb dX9_apart_38 (by decide) ?_
            refine lv_istore_n (lv' := [(1, .int r8), (4, .int r8), (0, .ref (ad 0)), (2, .int x2), (3, .int x3)]) hx hb dX9_apart_42 rfl hl (by decide) rfl (fun ls hl => ?_)
            refine lv_iload hx hb dX9_apart_43 (lv_at hl 1 rfl) ?_
            refine lv_iload_n hx hb dX9_apart_45 rfl (lv_at hl 3 rfl) ?_
            refine lv_icmp_le (tgt := 54) hx hb dX9_apart_46 (by decide) (fun c13 => ?_) (fun c13 => ?_)
            · replace hF := (if_pos c13).symm.trans hF
              refine lv_iload_n hx hb dX9_apart_54 rfl (lv_at hl 3 rfl) ?_
              refine lv_istore_n (lv' := [(2, .int x2), (1, .int r8), (4, .int r8), (0, .ref (ad 0)), (3, .int x3)]) hx hb dX9_apart_55 rfl hl (by decide) rfl (fun ls hl => ?_)
              refine lv_iinc (v := x3 + 1) (lv' := [(3, .int (x3 + 1)), (2, .int x2), (1, .int r8), (4, .int r8), (0, .ref (ad 0))]) hx hb dX9_apart_56 hl (k := 4) rfl rfl (by decide) rfl (fun ls hl => ?_)
              refine lv_goto (tgt := 6) hx hb dX9_apart_59 (by decide) ?_
              exact ih r8 x2 (x3 + 1) ls hF (lv_sub hl [4, 2, 1, 0] rfl)
            · replace hF := (if_neg c13).symm.trans hF
              refine lv_iload hx hb dX9_apart_49 (lv_at hl 1 rfl) ?_
              refine lv_goto (tgt := 55) hx hb dX9_apart_51 (by decide) ?_
              refine lv_istore_n (lv' := [(2, .int r8), (1, .int r8), (4, .int r8), (0, .ref (ad 0)), (3, .int x3)]) hx hb dX9_apart_55 rfl hl (by decide) rfl (fun ls hl => ?_)
              refine lv_iinc (v := x3 + 1) (lv' := [(3, .int (x3 + 1)), (2, .int r8), (1, .int r8), (4, .int r8), (0, .ref (ad 0))]) hx hb dX9_apart_56 hl (k := 4) rfl rfl (by decide) rfl (fun ls hl => ?_)
              refine lv_goto (tgt := 6) hx hb dX9_apart_59 (by decide) ?_
              exact ih r8 r8 (x3 + 1) ls hF (lv_sub hl [4, 2, 1, 0] rfl)
def fX9_apart (mem : Mem) : Option (Int32) :=
  fX9_apart_6 mem fu (-1) 0 0
set_option maxHeartbeats 4000000 in
set_option maxRecDepth 100000 in
theorem kX9_apart (l : Launch) (g : gG) (ad : Nat → Nat) (mem : Mem) (r : Int32) (hF : fX9_apart mem = some r) : Met l yX9_apart (Cond.code yX9_apart cX9_apart 5 (some .int) :: gw) { frames := 2, cells := 0, slots := 0, locals := 47 } (pG (wM g ad mem) (eM g ad) g [.ref (ad 0)]) (qR (some (.int r)) (True)) 0 0 noA := by
  refine met_of (by decide) (Nat.le_of_ble_eq_true rfl) ?_
  intro p e s m args below meth c ls C0 hP hl
  obtain ⟨hx, hb, hml, hown, hts, hr, hlk, hE⟩ := id C0
  obtain ⟨hK, hA⟩ := id hE
  have hl : lv_has ls 5 [(0, .ref (ad 0))] := hl
  have hS : va_S (AW 29 ad) s.heap s.heap [] := va_S.rf
  unfold fX9_apart at hF
  refine lv_iconst (v := (-1)) hx hb dX9_apart_0 (by decide) ?_
  refine lv_istore_n (lv' := [(1, .int (-1)), (0, .ref (ad 0))]) hx hb dX9_apart_1 rfl hl (by decide) rfl (fun ls hl => ?_)
  refine lv_iconst (v := 0) hx hb dX9_apart_2 (by decide) ?_
  refine lv_istore_n (lv' := [(2, .int 0), (1, .int (-1)), (0, .ref (ad 0))]) hx hb dX9_apart_3 rfl hl (by decide) rfl (fun ls hl => ?_)
  refine lv_iconst (v := 0) hx hb dX9_apart_4 (by decide) ?_
  refine lv_istore_n (lv' := [(3, .int 0), (2, .int 0), (1, .int (-1)), (0, .ref (ad 0))]) hx hb dX9_apart_5 rfl hl (by decide) rfl (fun ls hl => ?_)
  exact lpX9_apart_6 g ad mem r C0 hP fu (-1) 0 0 ls hF (lv_sub hl [3, 2, 1, 0] rfl)
theorem pkX9_common : pkS yX9_common cX9_common 5 (some .int) 2 := ⟨mT_X9_common, mN_X9, mC_X9_common, by decide +kernel⟩
def fX9_common_4 (z0 : Int32) (z1 : Int32) : Nat → Int32 → Int32 → Option (Int32)
  | 0, _, _ => none
  | n + 1, x2, x3 =>
    if x3 = 0 then (some x2) else (gZ x3 (fX9_common_4 z0 z1 n x3 (x2 - x2 / x3 * x3)))
set_option maxHeartbeats 4000000 in
set_option maxRecDepth 100000 in
theorem lpX9_common_4 {p : Program} {l : Launch} {e : Env} {s : State} {m : MethodId} {args : Array Value} {below : List Frame} {meth : Method} {c : Code} (z0 : Int32) (z1 : Int32) (r : Int32) (C0 : cxt (fun _ => True) cX9_common 5 RX9 (some .int) p s m args meth c) :
    ∀ (n : Nat) (x2 : Int32) (x3 : Int32) (ls : Array Slot), fX9_common_4 z0 z1 n x2 x3 = some r → lv_has ls 5 [(0, .int z0), (1, .int z1), (2, .int x2), (3, .int x3)] → W p l e { frames := 1, cells := 0, slots := 0, locals := 24 } s m args below meth c s.heap [] 0 0 (MQ below (qR (some (.int r)) (True)) args s 0 0 noA) (F0 m 4 ls []) := by
  obtain ⟨hx, hb, hml, hown, hts, hr, hlk, hE⟩ := id C0
  intro n
  induction n with
  | zero =>
    intro x2 x3 ls hF hl
    cases hF
  | succ n ih =>
    intro x2 x3 ls hF hl
    rw [fX9_common_4] at hF
    refine lv_iload_n hx hb dX9_common_4 rfl (lv_at hl 3 rfl) ?_
    refine lv_if_eq (tgt := 21) hx hb dX9_common_5 (by decide) (fun c1 => ?_) (fun c1 => ?_)
    · replace hF := (if_pos c1).symm.trans hF
      refine lv_iload_n hx hb dX9_common_21 rfl (lv_at hl 2 rfl) ?_
      cases hF
      exact ret_Ri C0 trivial dX9_common_22
    · replace hF := (if_neg c1).symm.trans hF
      refine lv_iload_n hx hb dX9_common_8 rfl (lv_at hl 2 rfl) ?_
      refine lv_iload_n hx hb dX9_common_9 rfl (lv_at hl 3 rfl) ?_
      obtain ⟨z2, hF⟩ := gZ_some hF
      refine lv_irem hx hb dX9_common_10 z2 ?_
      refine lv_istore (lv' := [(4, .int (x2 - x2 / x3 * x3)), (0, .int z0), (1, .int z1), (2, .int x2), (3, .int x3)]) hx hb dX9_common_11 hl (by decide) rfl (fun ls hl => ?_)
      refine lv_iload_n hx hb dX9_common_13 rfl (lv_at hl 4 rfl) ?_
      refine lv_istore_n (lv' := [(2, .int x3), (4, .int (x2 - x2 / x3 * x3)), (0, .int z0), (1, .int z1), (3, .int x3)]) hx hb dX9_common_14 rfl hl (by decide) rfl (fun ls hl => ?_)
      refine lv_iload hx hb dX9_common_15 (lv_at hl 1 rfl) ?_
      refine lv_istore_n (lv' := [(3, .int (x2 - x2 / x3 * x3)), (2, .int x3), (4, .int (x2 - x2 / x3 * x3)), (0, .int z0), (1, .int z1)]) hx hb dX9_common_17 rfl hl (by decide) rfl (fun ls hl => ?_)
      refine lv_goto (tgt := 4) hx hb dX9_common_18 (by decide) ?_
      exact ih x3 (x2 - x2 / x3 * x3) ls hF (lv_sub hl [3, 4, 1, 0] rfl)
def fX9_common (a0 : Int32) (a1 : Int32) : Option (Int32) :=
  fX9_common_4 a0 a1 fu a0 a1
set_option maxHeartbeats 4000000 in
set_option maxRecDepth 100000 in
theorem kX9_common (l : Launch) (g : gG) (a0 : Int32) (a1 : Int32) (r : Int32) (hF : fX9_common a0 a1 = some r) : Met l yX9_common (Cond.code yX9_common cX9_common 5 (some .int) :: gw) { frames := 1, cells := 0, slots := 0, locals := 24 } (pG [] (fun _ => True) g [.int a0, .int a1]) (qR (some (.int r)) (True)) 0 0 noA := by
  refine met_of (by decide) (Nat.le_of_ble_eq_true rfl) ?_
  intro p e s m args below meth c ls C0 hP hl
  obtain ⟨hx, hb, hml, hown, hts, hr, hlk, hE⟩ := id C0
  have hl : lv_has ls 5 [(0, .int a0), (1, .int a1)] := hl
  unfold fX9_common at hF
  refine lv_iload_n hx hb dX9_common_0 rfl (lv_at hl 0 rfl) ?_
  refine lv_istore_n (lv' := [(2, .int a0), (0, .int a0), (1, .int a1)]) hx hb dX9_common_1 rfl hl (by decide) rfl (fun ls hl => ?_)
  refine lv_iload_n hx hb dX9_common_2 rfl (lv_at hl 2 rfl) ?_
  refine lv_istore_n (lv' := [(3, .int a1), (2, .int a0), (0, .int a0), (1, .int a1)]) hx hb dX9_common_3 rfl hl (by decide) rfl (fun ls hl => ?_)
  exact lpX9_common_4 a0 a1 r C0 fu a0 a1 ls hF (lv_sub hl [2, 3, 1, 0] rfl)
theorem pkX9_uneven : pkV yX9_uneven cX9_uneven 8 (some .int) RX9 1 := ⟨mI_X9_uneven, mS_X9_uneven, mN_X9, mC_X9_uneven, by decide +kernel⟩
def fX9_uneven_45 (mem : Mem) (z1 : Int32) (z2 : Int32) (z3 : Int32) (z5 : Int32) (kc : Int32 → Int32 → Int32 → Int32 → Option (Int32)) : Nat → Int32 → Int32 → Option (Int32)
  | 0, _, _ => none
  | n + 1, x4, x6 =>
    if z5 ≤ x6 then (kc z2 z3 x4 (z5 + 1)) else (ob1 (fX9_timeOf mem x6) (fun r17 => ob1 (fX9_timeOf mem z5) (fun r19 => ob1 (fX9_hasMember mem x6) (fun r21 => if r21 = 0 then (fX9_uneven_45 mem z1 z2 z3 z5 kc n (x4 + 0) (x6 + 1)) else (ob1 (fX9_hasMember mem z5) (fun r25 => if r25 = 0 then (fX9_uneven_45 mem z1 z2 z3 z5 kc n (x4 + 0) (x6 + 1)) else (if 0 ≤ r17 - r19 then (fX9_uneven_45 mem z1 z2 z3 z5 kc n (x4 + (r17 - r19)) (x6 + 1)) else (fX9_uneven_45 mem z1 z2 z3 z5 kc n (x4 + (-(r17 - r19))) (x6 + 1)))))))))
set_option maxHeartbeats 4000000 in
set_option maxRecDepth 100000 in
theorem lpX9_uneven_45 {p : Program} {l : Launch} {e : Env} {s : State} {m : MethodId} {args : Array Value} {below : List Frame} {meth : Method} {c : Code} (g : gG) (ad : Nat → Nat) (mem : Mem) (z1 : Int32) (z2 : Int32) (z3 : Int32) (z5 : Int32) (kc : Int32 → Int32 → Int32 → Int32 → Option (Int32)) (r : Int32) (C0 : cxt (eM g ad) cX9_uneven 8 RX9 (some .int) p s m args meth c) (hP : va_P g.1 vwCl (wM g ad mem) s.heap)
    (hkc : ∀ (x2 : Int32) (x3 : Int32) (x4 : Int32) (x5 : Int32) (ls : Array Slot), kc x2 x3 x4 x5 = some r → lv_has ls 8 [(0, .ref (ad 0)), (1, .int z1), (2, .int x2), (3, .int x3), (4, .int x4), (5, .int x5)] → W p l e { frames := 2, cells := 0, slots := 0, locals := 48 } s m args below meth c s.heap [] 0 0 (MQ below (qR (some (.int r)) (True)) args s 0 0 noA) (F0 m 10 ls [])) :
    ∀ (n : Nat) (x4 : Int32) (x6 : Int32) (ls : Array Slot), fX9_uneven_45 mem z1 z2 z3 z5 kc n x4 x6 = some r → lv_has ls 8 [(0, .ref (ad 0)), (1, .int z1), (2, .int z2), (3, .int z3), (4, .int x4), (5, .int z5), (6, .int x6)] → W p l e { frames := 2, cells := 0, slots := 0, locals := 48 } s m args below meth c s.heap [] 0 0 (MQ below (qR (some (.int r)) (True)) args s 0 0 noA) (F0 m 45 ls []) := by
  obtain ⟨hx, hb, hml, hown, hts, hr, hlk, hE⟩ := id C0
  obtain ⟨hK, hA⟩ := id hE
  intro n
  induction n with
  | zero =>
    intro x4 x6 ls hF hl
    cases hF
  | succ n ih =>
    intro x4 x6 ls hF hl
    rw [fX9_uneven_45] at hF
    have hS : va_S (AW 29 ad) s.heap s.heap [] := va_S.rf
    refine lv_iload hx hb dX9_uneven_45 (lv_at hl 6 rfl) ?_
    refine lv_iload hx hb dX9_uneven_47 (lv_at hl 5 rfl) ?_
    refine lv_icmp_ge (tgt := 113) hx hb dX9_uneven_49 (by decide) (fun c15 => ?_) (fun c15 => ?_)
    · replace hF := (if_pos c15).symm.trans hF
      refine lv_iinc (v := z5 + 1) (lv' := [(5, .int (z5 + 1)), (0, .ref (ad 0)), (1, .int z1), (2, .int z2), (3, .int z3), (4, .int x4), (6, .int x6)]) hx hb dX9_uneven_113 hl (k := 5) rfl rfl (by decide) rfl (fun ls hl => ?_)
      refine lv_goto (tgt := 10) hx hb dX9_uneven_116 (by decide) ?_
      exact hkc z2 z3 x4 (z5 + 1) ls hF (lv_sub hl [1, 2, 3, 4, 5, 0] rfl)
    · replace hF := (if_neg c15).symm.trans hF
      refine lv_aload_n hx hb dX9_uneven_52 rfl (lv_at hl 0 rfl) ?_
      refine lv_iload hx hb dX9_uneven_53 (lv_at hl 6 rfl) ?_
      obtain ⟨r17, h16, hF⟩ := ob_some hF
      refine cV_Ri C0 eM_st hP hS hK pkX9_timeOf (As := [.int x6]) (rest := []) (kX9_timeOf l g ad mem x6 r17 h16) mL_X9_123 ⟨rfl, rfl, Nat.le_of_ble_eq_true rfl, Nat.le_of_ble_eq_true rfl, Nat.le_of_ble_eq_true rfl, Nat.le_of_ble_eq_true rfl⟩ 0 wM_0 rfl rfl rfl hl.1 rfl (Nat.le_of_ble_eq_true rfl) dX9_uneven_55 (fun _ => ?_)
      refine lv_aload_n hx hb dX9_uneven_58 rfl (lv_at hl 0 rfl) ?_
      refine lv_iload hx hb dX9_uneven_59 (lv_at hl 5 rfl) ?_
      obtain ⟨r19, h18, hF⟩ := ob_some hF
      refine cV_Ri C0 eM_st hP hS hK pkX9_timeOf (As := [.int z5]) (rest := [.int r17]) (kX9_timeOf l g ad mem z5 r19 h18) mL_X9_123 ⟨rfl, rfl, Nat.le_of_ble_eq_true rfl, Nat.le_of_ble_eq_true rfl, Nat.le_of_ble_eq_true rfl, Nat.le_of_ble_eq_true rfl⟩ 0 wM_0 rfl rfl rfl hl.1 rfl (Nat.le_of_ble_eq_true rfl) dX9_uneven_61 (fun _ => ?_)
      refine lv_isub hx hb dX9_uneven_64 ?_
      refine lv_istore (lv' := [(7, .int (r17 - r19)), (0, .ref (ad 0)), (1, .int z1), (2, .int z2), (3, .int z3), (4, .int x4), (5, .int z5), (6, .int x6)]) hx hb dX9_uneven_65 hl (by decide) rfl (fun ls hl => ?_)
      refine lv_iload hx hb dX9_uneven_67 (lv_at hl 5 rfl) ?_
      refine lv_aload_n hx hb dX9_uneven_69 rfl (lv_at hl 1 rfl) ?_
      refine lv_iload hx hb dX9_uneven_70 (lv_at hl 7 rfl) ?_
      obtain ⟨r21, h20, hF⟩ := ob_some hF
      refine cV_Ri C0 eM_st hP hS hK pkX9_hasMember (As := [.int x6]) (rest := [.int x4]) (kX9_hasMember l g ad mem x6 r21 h20) mL_X9_201 ⟨rfl, rfl, Nat.le_of_ble_eq_true rfl, Nat.le_of_ble_eq_true rfl, Nat.le_of_ble_eq_true rfl, Nat.le_of_ble_eq_true rfl⟩ 0 wM_0 rfl rfl rfl hl.1 rfl (Nat.le_of_ble_eq_true rfl) dX9_uneven_72 (fun b22 => ?_)
      refine lv_if_eq (tgt := 87) hx hb dX9_uneven_75 (by decide) (fun c23 => ?_) (fun c23 => ?_)
      · replace hF := (if_pos c23).symm.trans hF
        refine lv_iconst (v := 0) hx hb dX9_uneven_87 (by decide) ?_
        refine lv_goto (tgt := 104) hx hb dX9_uneven_88 (by decide) ?_
        refine lv_iadd hx hb dX9_uneven_104 ?_
        refine lv_istore (lv' := [(4, .int (x4 + 0)), (7, .int (r17 - r19)), (0, .ref (ad 0)), (1, .int z1), (2, .int z2), (3, .int z3), (5, .int z5), (6, .int x6)]) hx hb dX9_uneven_105 hl (by decide) rfl (fun ls hl => ?_)
        refine lv_iinc (v := x6 + 1) (lv' := [(6, .int (x6 + 1)), (4, .int (x4 + 0)), (7, .int (r17 - r19)), (0, .ref (ad 0)), (1, .int z1), (2, .int z2), (3, .int z3), (5, .int z5)]) hx hb dX9_uneven_107 hl (k := 7) rfl rfl (by decide) rfl (fun ls hl => ?_)
        refine lv_goto (tgt := 45) hx hb dX9_uneven_110 (by decide) ?_
        exact ih (x4 + 0) (x6 + 1) ls hF (lv_sub hl [3, 4, 5, 6, 1, 7, 0] rfl)
      · replace hF := (if_neg c23).symm.trans hF
        refine lv_aload_n hx hb dX9_uneven_78 rfl (lv_at hl 1 rfl) ?_
        refine lv_iload hx hb dX9_uneven_79 (lv_at hl 6 rfl) ?_
        obtain ⟨r25, h24, hF⟩ := ob_some hF
        refine cV_Ri C0 eM_st hP hS hK pkX9_hasMember (As := [.int z5]) (rest := [.int x4]) (kX9_hasMember l g ad mem z5 r25 h24) mL_X9_201 ⟨rfl, rfl, Nat.le_of_ble_eq_true rfl, Nat.le_of_ble_eq_true rfl, Nat.le_of_ble_eq_true rfl, Nat.le_of_ble_eq_true rfl⟩ 0 wM_0 rfl rfl rfl hl.1 rfl (Nat.le_of_ble_eq_true rfl) dX9_uneven_81 (fun b26 => ?_)
        refine lv_if_ne (tgt := 91) hx hb dX9_uneven_84 (by decide) (fun c27 => ?_) (fun c27 => ?_)
        · replace hF := (if_neg c27).symm.trans hF
          refine lv_iload hx hb dX9_uneven_91 (lv_at hl 0 rfl) ?_
          refine lv_if_ge (tgt := 102) hx hb dX9_uneven_93 (by decide) (fun c28 => ?_) (fun c28 => ?_)
          · replace hF := (if_pos c28).symm.trans hF
            refine lv_iload hx hb dX9_uneven_102 (lv_at hl 0 rfl) ?_
            refine lv_iadd hx hb dX9_uneven_104 ?_
            refine lv_istore (lv' := [(4, .int (x4 + (r17 - r19))), (7, .int (r17 - r19)), (0, .ref (ad 0)), (1, .int z1), (2, .int z2), (3, .int z3), (5, .int z5), (6, .int x6)]) hx hb dX9_uneven_105 hl (by decide) rfl (fun ls hl => ?_)
            refine lv_iinc (v := x6 + 1) (lv' := [(6, .int (x6 + 1)), (4, .int (x4 + (r17 - r19))), (7, .int (r17 - r19)), (0, .ref (ad 0)), (1, .int z1), (2, .int z2), (3, .int z3), (5, .int z5)]) hx hb dX9_uneven_107 hl (k := 7) rfl rfl (by decide) rfl (fun ls hl => ?_)
            refine lv_goto (tgt := 45) hx hb dX9_uneven_110 (by decide) ?_
            exact ih (x4 + (r17 - r19)) (x6 + 1) ls hF (lv_sub hl [3, 4, 5, 6, 1, 7, 0] rfl)
          · replace hF := (if_neg c28).symm.trans hF
            refine lv_iload hx hb dX9_uneven_96 (lv_at hl 0 rfl) ?_
            refine lv_ineg hx hb dX9_uneven_98 ?_
            refine lv_goto (tgt := 104) hx hb dX9_uneven_99 (by decide) ?_
            refine lv_iadd hx hb dX9_uneven_104 ?_
            refine lv_istore (lv' := [(4, .int (x4 + (-(r17 - r19)))), (7, .int (r17 - r19)), (0, .ref (ad 0)), (1, .int z1), (2, .int z2), (3, .int z3), (5, .int z5), (6, .int x6)]) hx hb dX9_uneven_105 hl (by decide) rfl (fun ls hl => ?_)
            refine lv_iinc (v := x6 + 1) (lv' := [(6, .int (x6 + 1)), (4, .int (x4 + (-(r17 - r19)))), (7, .int (r17 - r19)), (0, .ref (ad 0)), (1, .int z1), (2, .int z2), (3, .int z3), (5, .int z5)]) hx hb dX9_uneven_107 hl (k := 7) rfl rfl (by decide) rfl (fun ls hl => ?_)
            refine lv_goto (tgt := 45) hx hb dX9_uneven_110 (by decide) ?_
            exact ih (x4 + (-(r17 - r19))) (x6 + 1) ls hF (lv_sub hl [3, 4, 5, 6, 1, 7, 0] rfl)
        · replace hF := (if_pos c27).symm.trans hF
          refine lv_iconst (v := 0) hx hb dX9_uneven_87 (by decide) ?_
          refine lv_goto (tgt := 104) hx hb dX9_uneven_88 (by decide) ?_
          refine lv_iadd hx hb dX9_uneven_104 ?_
          refine lv_istore (lv' := [(4, .int (x4 + 0)), (7, .int (r17 - r19)), (0, .ref (ad 0)), (1, .int z1), (2, .int z2), (3, .int z3), (5, .int z5), (6, .int x6)]) hx hb dX9_uneven_105 hl (by decide) rfl (fun ls hl => ?_)
          refine lv_iinc (v := x6 + 1) (lv' := [(6, .int (x6 + 1)), (4, .int (x4 + 0)), (7, .int (r17 - r19)), (0, .ref (ad 0)), (1, .int z1), (2, .int z2), (3, .int z3), (5, .int z5)]) hx hb dX9_uneven_107 hl (k := 7) rfl rfl (by decide) rfl (fun ls hl => ?_)
          refine lv_goto (tgt := 45) hx hb dX9_uneven_110 (by decide) ?_
          exact ih (x4 + 0) (x6 + 1) ls hF (lv_sub hl [3, 4, 5, 6, 1, 7, 0] rfl)
def fX9_uneven_10 (mem : Mem) (z1 : Int32) : Nat → Int32 → Int32 → Int32 → Int32 → Option (Int32)
  | 0, _, _, _, _ => none
  | n + 1, x2, x3, x4, x5 =>
    if 5 ≤ x5 then (if x3 = 0 then (if z1 = 0 then (some 0) else (some 1)) else (ob1 (fX9_common x4 (x2 * x3)) (fun r4 => if z1 = 0 then (gZ r4 (some (x4 / r4))) else (gZ r4 (some ((x2 * x3) / r4)))))) else (ob1 (fX9_hasMember mem x5) (fun r10 => if r10 = 0 then (ob1 (fX9_timeOf mem x5) (fun r14 => fX9_uneven_45 mem z1 (x2 + 0) (x3 + r14) x5 (fX9_uneven_10 mem z1 n) fu x4 0)) else (ob1 (fX9_timeOf mem x5) (fun r30 => fX9_uneven_45 mem z1 (x2 + 1) (x3 + r30) x5 (fX9_uneven_10 mem z1 n) fu x4 0))))
set_option maxHeartbeats 4000000 in
set_option maxRecDepth 100000 in
theorem lpX9_uneven_10 {p : Program} {l : Launch} {e : Env} {s : State} {m : MethodId} {args : Array Value} {below : List Frame} {meth : Method} {c : Code} (g : gG) (ad : Nat → Nat) (mem : Mem) (z1 : Int32) (r : Int32) (C0 : cxt (eM g ad) cX9_uneven 8 RX9 (some .int) p s m args meth c) (hP : va_P g.1 vwCl (wM g ad mem) s.heap) :
    ∀ (n : Nat) (x2 : Int32) (x3 : Int32) (x4 : Int32) (x5 : Int32) (ls : Array Slot), fX9_uneven_10 mem z1 n x2 x3 x4 x5 = some r → lv_has ls 8 [(0, .ref (ad 0)), (1, .int z1), (2, .int x2), (3, .int x3), (4, .int x4), (5, .int x5)] → W p l e { frames := 2, cells := 0, slots := 0, locals := 48 } s m args below meth c s.heap [] 0 0 (MQ below (qR (some (.int r)) (True)) args s 0 0 noA) (F0 m 10 ls []) := by
  obtain ⟨hx, hb, hml, hown, hts, hr, hlk, hE⟩ := id C0
  obtain ⟨hK, hA⟩ := id hE
  intro n
  induction n with
  | zero =>
    intro x2 x3 x4 x5 ls hF hl
    cases hF
  | succ n ih =>
    intro x2 x3 x4 x5 ls hF hl
    rw [fX9_uneven_10] at hF
    have hS : va_S (AW 29 ad) s.heap s.heap [] := va_S.rf
    refine lv_iload hx hb dX9_uneven_10 (lv_at hl 5 rfl) ?_
    refine lv_iconst (v := 5) hx hb dX9_uneven_12 (by decide) ?_
    refine lv_icmp_ge (tgt := 119) hx hb dX9_uneven_13 (by decide) (fun c1 => ?_) (fun c1 => ?_)
    · replace hF := (if_pos c1).symm.trans hF
      refine lv_iload_n hx hb dX9_uneven_119 rfl (lv_at hl 3 rfl) ?_
      refine lv_if_ne (tgt := 133) hx hb dX9_uneven_120 (by decide) (fun c2 => ?_) (fun c2 => ?_)
      · replace hF := (if_neg c2).symm.trans hF
        refine lv_iload hx hb dX9_uneven_133 (lv_at hl 4 rfl) ?_
        refine lv_iload_n hx hb dX9_uneven_135 rfl (lv_at hl 2 rfl) ?_
        refine lv_iload_n hx hb dX9_uneven_136 rfl (lv_at hl 3 rfl) ?_
        refine lv_imul hx hb dX9_uneven_137 ?_
        obtain ⟨r4, h3, hF⟩ := ob_some hF
        refine cS_Ri C0 pkX9_common (As := [.int x4, .int (x2 * x3)]) (rest := []) (kX9_common l g x4 (x2 * x3) r4 h3) mL_X9_204 ⟨rfl, rfl, Nat.le_of_ble_eq_true rfl, Nat.le_of_ble_eq_true rfl, Nat.le_of_ble_eq_true rfl, Nat.le_of_ble_eq_true rfl⟩ rfl hl.1 rfl (Nat.le_of_ble_eq_true rfl) dX9_uneven_138 (fun _ => ?_)
        refine lv_istore (lv' := [(5, .int r4), (0, .ref (ad 0)), (1, .int z1), (2, .int x2), (3, .int x3), (4, .int x4)]) hx hb dX9_uneven_141 hl (by decide) rfl (fun ls hl => ?_)
        refine lv_iload_n hx hb dX9_uneven_143 rfl (lv_at hl 2 rfl) ?_
        refine lv_if_eq (tgt := 156) hx hb dX9_uneven_144 (by decide) (fun c5 => ?_) (fun c5 => ?_)
        · replace hF := (if_pos c5).symm.trans hF
          refine lv_iload hx hb dX9_uneven_156 (lv_at hl 5 rfl) ?_
          refine lv_iload hx hb dX9_uneven_158 (lv_at hl 0 rfl) ?_
          obtain ⟨z6, hF⟩ := gZ_some hF
          refine lv_idiv hx hb dX9_uneven_160 z6 ?_
          cases hF
          exact ret_Ri C0 trivial dX9_uneven_161
        · replace hF := (if_neg c5).symm.trans hF
          refine lv_iload_n hx hb dX9_uneven_147 rfl (lv_at hl 3 rfl) ?_
          refine lv_iload_n hx hb dX9_uneven_148 rfl (lv_at hl 4 rfl) ?_
          refine lv_imul hx hb dX9_uneven_149 ?_
          refine lv_iload hx hb dX9_uneven_150 (lv_at hl 0 rfl) ?_
          obtain ⟨z7, hF⟩ := gZ_some hF
          refine lv_idiv hx hb dX9_uneven_152 z7 ?_
          refine lv_goto (tgt := 161) hx hb dX9_uneven_153 (by decide) ?_
          cases hF
          exact ret_Ri C0 trivial dX9_uneven_161
      · replace hF := (if_pos c2).symm.trans hF
        refine lv_iload_n hx hb dX9_uneven_123 rfl (lv_at hl 1 rfl) ?_
        refine lv_if_eq (tgt := 131) hx hb dX9_uneven_124 (by decide) (fun c8 => ?_) (fun c8 => ?_)
        · replace hF := (if_pos c8).symm.trans hF
          refine lv_iconst (v := 0) hx hb dX9_uneven_131 (by decide) ?_
          cases hF
          exact ret_Ri C0 trivial dX9_uneven_132
        · replace hF := (if_neg c8).symm.trans hF
          refine lv_iconst (v := 1) hx hb dX9_uneven_127 (by decide) ?_
          refine lv_goto (tgt := 132) hx hb dX9_uneven_128 (by decide) ?_
          cases hF
          exact ret_Ri C0 trivial dX9_uneven_132
    · replace hF := (if_neg c1).symm.trans hF
      refine lv_iload_n hx hb dX9_uneven_16 rfl (lv_at hl 2 rfl) ?_
      refine lv_aload_n hx hb dX9_uneven_17 rfl (lv_at hl 0 rfl) ?_
      refine lv_iload hx hb dX9_uneven_18 (lv_at hl 5 rfl) ?_
      obtain ⟨r10, h9, hF⟩ := ob_some hF
      refine cV_Ri C0 eM_st hP hS hK pkX9_hasMember (As := [.int x5]) (rest := [.int x2]) (kX9_hasMember l g ad mem x5 r10 h9) mL_X9_201 ⟨rfl, rfl, Nat.le_of_ble_eq_true rfl, Nat.le_of_ble_eq_true rfl, Nat.le_of_ble_eq_true rfl, Nat.le_of_ble_eq_true rfl⟩ 0 wM_0 rfl rfl rfl hl.1 rfl (Nat.le_of_ble_eq_true rfl) dX9_uneven_20 (fun b11 => ?_)
      refine lv_if_eq (tgt := 30) hx hb dX9_uneven_23 (by decide) (fun c12 => ?_) (fun c12 => ?_)
      · replace hF := (if_pos c12).symm.trans hF
        refine lv_iconst (v := 0) hx hb dX9_uneven_30 (by decide) ?_
        refine lv_iadd hx hb dX9_uneven_31 ?_
        refine lv_istore_n (lv' := [(2, .int (x2 + 0)), (0, .ref (ad 0)), (1, .int z1), (3, .int x3), (4, .int x4), (5, .int x5)]) hx hb dX9_uneven_32 rfl hl (by decide) rfl (fun ls hl => ?_)
        refine lv_iload_n hx hb dX9_uneven_33 rfl (lv_at hl 3 rfl) ?_
        refine lv_aload_n hx hb dX9_uneven_34 rfl (lv_at hl 1 rfl) ?_
        refine lv_iload hx hb dX9_uneven_35 (lv_at hl 5 rfl) ?_
        obtain ⟨r14, h13, hF⟩ := ob_some hF
        refine cV_Ri C0 eM_st hP hS hK pkX9_timeOf (As := [.int x5]) (rest := [.int x3]) (kX9_timeOf l g ad mem x5 r14 h13) mL_X9_123 ⟨rfl, rfl, Nat.le_of_ble_eq_true rfl, Nat.le_of_ble_eq_true rfl, Nat.le_of_ble_eq_true rfl, Nat.le_of_ble_eq_true rfl⟩ 0 wM_0 rfl rfl rfl hl.1 rfl (Nat.le_of_ble_eq_true rfl) dX9_uneven_37 (fun _ => ?_)
        refine lv_iadd hx hb dX9_uneven_40 ?_
        refine lv_istore_n (lv' := [(3, .int (x3 + r14)), (2, .int (x2 + 0)), (0, .ref (ad 0)), (1, .int z1), (4, .int x4), (5, .int x5)]) hx hb dX9_uneven_41 rfl hl (by decide) rfl (fun ls hl => ?_)
        refine lv_iconst (v := 0) hx hb dX9_uneven_42 (by decide) ?_
        refine lv_istore (lv' := [(6, .int 0), (3, .int (x3 + r14)), (2, .int (x2 + 0)), (0, .ref (ad 0)), (1, .int z1), (4, .int x4), (5, .int x5)]) hx hb dX9_uneven_43 hl (by decide) rfl (fun ls hl => ?_)
        exact lpX9_uneven_45 g ad mem z1 (x2 + 0) (x3 + r14) x5 (fX9_uneven_10 mem z1 n) r C0 hP ih fu x4 0 ls hF (lv_sub hl [3, 4, 2, 1, 5, 6, 0] rfl)
      · replace hF := (if_neg c12).symm.trans hF
        refine lv_iconst (v := 1) hx hb dX9_uneven_26 (by decide) ?_
        refine lv_goto (tgt := 31) hx hb dX9_uneven_27 (by decide) ?_
        refine lv_iadd hx hb dX9_uneven_31 ?_
        refine lv_istore_n (lv' := [(2, .int (x2 + 1)), (0, .ref (ad 0)), (1, .int z1), (3, .int x3), (4, .int x4), (5, .int x5)]) hx hb dX9_uneven_32 rfl hl (by decide) rfl (fun ls hl => ?_)
        refine lv_iload_n hx hb dX9_uneven_33 rfl (lv_at hl 3 rfl) ?_
        refine lv_aload_n hx hb dX9_uneven_34 rfl (lv_at hl 1 rfl) ?_
        refine lv_iload hx hb dX9_uneven_35 (lv_at hl 5 rfl) ?_
        obtain ⟨r30, h29, hF⟩ := ob_some hF
        refine cV_Ri C0 eM_st hP hS hK pkX9_timeOf (As := [.int x5]) (rest := [.int x3]) (kX9_timeOf l g ad mem x5 r30 h29) mL_X9_123 ⟨rfl, rfl, Nat.le_of_ble_eq_true rfl, Nat.le_of_ble_eq_true rfl, Nat.le_of_ble_eq_true rfl, Nat.le_of_ble_eq_true rfl⟩ 0 wM_0 rfl rfl rfl hl.1 rfl (Nat.le_of_ble_eq_true rfl) dX9_uneven_37 (fun _ => ?_)
        refine lv_iadd hx hb dX9_uneven_40 ?_
        refine lv_istore_n (lv' := [(3, .int (x3 + r30)), (2, .int (x2 + 1)), (0, .ref (ad 0)), (1, .int z1), (4, .int x4), (5, .int x5)]) hx hb dX9_uneven_41 rfl hl (by decide) rfl (fun ls hl => ?_)
        refine lv_iconst (v := 0) hx hb dX9_uneven_42 (by decide) ?_
        refine lv_istore (lv' := [(6, .int 0), (3, .int (x3 + r30)), (2, .int (x2 + 1)), (0, .ref (ad 0)), (1, .int z1), (4, .int x4), (5, .int x5)]) hx hb dX9_uneven_43 hl (by decide) rfl (fun ls hl => ?_)
        exact lpX9_uneven_45 g ad mem z1 (x2 + 1) (x3 + r30) x5 (fX9_uneven_10 mem z1 n) r C0 hP ih fu x4 0 ls hF (lv_sub hl [3, 4, 2, 1, 5, 6, 0] rfl)
def fX9_uneven (mem : Mem) (a1 : Int32) : Option (Int32) :=
  fX9_uneven_10 mem a1 fu 0 0 0 0
set_option maxHeartbeats 4000000 in
set_option maxRecDepth 100000 in
theorem kX9_uneven (l : Launch) (g : gG) (ad : Nat → Nat) (mem : Mem) (a1 : Int32) (r : Int32) (hF : fX9_uneven mem a1 = some r) : Met l yX9_uneven (Cond.code yX9_uneven cX9_uneven 8 (some .int) :: gw) { frames := 2, cells := 0, slots := 0, locals := 48 } (pG (wM g ad mem) (eM g ad) g [.ref (ad 0), .int a1]) (qR (some (.int r)) (True)) 0 0 noA := by
  refine met_of (by decide) (Nat.le_of_ble_eq_true rfl) ?_
  intro p e s m args below meth c ls C0 hP hl
  obtain ⟨hx, hb, hml, hown, hts, hr, hlk, hE⟩ := id C0
  obtain ⟨hK, hA⟩ := id hE
  have hl : lv_has ls 8 [(0, .ref (ad 0)), (1, .int a1)] := hl
  have hS : va_S (AW 29 ad) s.heap s.heap [] := va_S.rf
  unfold fX9_uneven at hF
  refine lv_iconst (v := 0) hx hb dX9_uneven_0 (by decide) ?_
  refine lv_istore_n (lv' := [(2, .int 0), (0, .ref (ad 0)), (1, .int a1)]) hx hb dX9_uneven_1 rfl hl (by decide) rfl (fun ls hl => ?_)
  refine lv_iconst (v := 0) hx hb dX9_uneven_2 (by decide) ?_
  refine lv_istore_n (lv' := [(3, .int 0), (2, .int 0), (0, .ref (ad 0)), (1, .int a1)]) hx hb dX9_uneven_3 rfl hl (by decide) rfl (fun ls hl => ?_)
  refine lv_iconst (v := 0) hx hb dX9_uneven_4 (by decide) ?_
  refine lv_istore (lv' := [(4, .int 0), (3, .int 0), (2, .int 0), (0, .ref (ad 0)), (1, .int a1)]) hx hb dX9_uneven_5 hl (by decide) rfl (fun ls hl => ?_)
  refine lv_iconst (v := 0) hx hb dX9_uneven_7 (by decide) ?_
  refine lv_istore (lv' := [(5, .int 0), (4, .int 0), (3, .int 0), (2, .int 0), (0, .ref (ad 0)), (1, .int a1)]) hx hb dX9_uneven_8 hl (by decide) rfl (fun ls hl => ?_)
  exact lpX9_uneven_10 g ad mem a1 r C0 hP fu 0 0 0 0 ls hF (lv_sub hl [4, 5, 3, 2, 1, 0] rfl)
theorem pkX9_ticksOf : pkV yX9_ticksOf cX9_ticksOf 5 (some .int) RX9 2 := ⟨mI_X9_ticksOf, mS_X9_ticksOf, mN_X9, mC_X9_ticksOf, by decide +kernel⟩
def fX9_ticksOf_10 (mem : Mem) (z1 : Int32) (z2 : Int32) : Nat → Int32 → Int32 → Option (Int32)
  | 0, _, _ => none
  | n + 1, x3, x4 =>
    if z2 < x4 then (some x3) else (gI x4 41 (if mem 18 x4.toNatClampNeg = (mem 0 21) + z1 then (gI x4 41 (fX9_ticksOf_10 mem z1 z2 n (mem 19 x4.toNatClampNeg) (x4 + 1))) else (fX9_ticksOf_10 mem z1 z2 n x3 (x4 + 1))))
set_option maxHeartbeats 4000000 in
set_option maxRecDepth 100000 in
theorem lpX9_ticksOf_10 {p : Program} {l : Launch} {e : Env} {s : State} {m : MethodId} {args : Array Value} {below : List Frame} {meth : Method} {c : Code} (g : gG) (ad : Nat → Nat) (mem : Mem) (z1 : Int32) (z2 : Int32) (r : Int32) (C0 : cxt (eM g ad) cX9_ticksOf 5 RX9 (some .int) p s m args meth c) (hP : va_P g.1 vwCl (wM g ad mem) s.heap) :
    ∀ (n : Nat) (x3 : Int32) (x4 : Int32) (ls : Array Slot), fX9_ticksOf_10 mem z1 z2 n x3 x4 = some r → lv_has ls 5 [(0, .ref (ad 0)), (1, .int z1), (2, .int z2), (3, .int x3), (4, .int x4)] → W p l e { frames := 1, cells := 0, slots := 0, locals := 24 } s m args below meth c s.heap [] 0 0 (MQ below (qR (some (.int r)) (True)) args s 0 0 noA) (F0 m 10 ls []) := by
  obtain ⟨hx, hb, hml, hown, hts, hr, hlk, hE⟩ := id C0
  obtain ⟨hK, hA⟩ := id hE
  intro n
  induction n with
  | zero =>
    intro x3 x4 ls hF hl
    cases hF
  | succ n ih =>
    intro x3 x4 ls hF hl
    rw [fX9_ticksOf_10] at hF
    have hS : va_S (AW 29 ad) s.heap s.heap [] := va_S.rf
    refine lv_iload hx hb dX9_ticksOf_10 (lv_at hl 4 rfl) ?_
    refine lv_iload_n hx hb dX9_ticksOf_12 rfl (lv_at hl 2 rfl) ?_
    refine lv_icmp_gt (tgt := 50) hx hb dX9_ticksOf_13 (by decide) (fun c2 => ?_) (fun c2 => ?_)
    · replace hF := (if_pos c2).symm.trans hF
      refine lv_iload_n hx hb dX9_ticksOf_50 rfl (lv_at hl 3 rfl) ?_
      cases hF
      exact ret_Ri C0 trivial dX9_ticksOf_51
    · replace hF := (if_neg c2).symm.trans hF
      refine lv_aload_n hx hb dX9_ticksOf_16 rfl (lv_at hl 0 rfl) ?_
      refine get_W C0 hK hP iwX9 0 wM_0 rfl 26 (by decide) mF_X9_66 rfl rfl dX9_ticksOf_17 ?_
      refine lv_iload hx hb dX9_ticksOf_20 (lv_at hl 4 rfl) ?_
      obtain ⟨g3, hF⟩ := gI_some hF
      refine va_iald hx hb hK hP 18 0 wM_18 rfl g3 dX9_ticksOf_22 ?_
      refine lv_aload_n hx hb dX9_ticksOf_23 rfl (lv_at hl 0 rfl) ?_
      refine get_W C0 hK hP iwX9 0 wM_0 rfl 21 (by decide) mF_X9_178 rfl rfl dX9_ticksOf_24 ?_
      refine lv_iload_n hx hb dX9_ticksOf_27 rfl (lv_at hl 1 rfl) ?_
      refine lv_iadd hx hb dX9_ticksOf_28 ?_
      refine lv_icmp_ne (tgt := 42) hx hb dX9_ticksOf_29 (by decide) (fun c4 => ?_) (fun c4 => ?_)
      · replace hF := (if_neg c4).symm.trans hF
        refine lv_iload_n hx hb dX9_ticksOf_42 rfl (lv_at hl 3 rfl) ?_
        refine lv_istore_n (lv' := [(3, .int x3), (0, .ref (ad 0)), (1, .int z1), (2, .int z2), (4, .int x4)]) hx hb dX9_ticksOf_43 rfl hl (by decide) rfl (fun ls hl => ?_)
        refine lv_iinc (v := x4 + 1) (lv' := [(4, .int (x4 + 1)), (3, .int x3), (0, .ref (ad 0)), (1, .int z1), (2, .int z2)]) hx hb dX9_ticksOf_44 hl (k := 4) rfl rfl (by decide) rfl (fun ls hl => ?_)
        refine lv_goto (tgt := 10) hx hb dX9_ticksOf_47 (by decide) ?_
        exact ih x3 (x4 + 1) ls hF (lv_sub hl [2, 3, 4, 1, 0] rfl)
      · replace hF := (if_pos c4).symm.trans hF
        refine lv_aload_n hx hb dX9_ticksOf_32 rfl (lv_at hl 0 rfl) ?_
        refine get_W C0 hK hP iwX9 0 wM_0 rfl 27 (by decide) mF_X9_69 rfl rfl dX9_ticksOf_33 ?_
        refine lv_iload hx hb dX9_ticksOf_36 (lv_at hl 4 rfl) ?_
        obtain ⟨g5, hF⟩ := gI_some hF
        refine va_iald hx hb hK hP 19 0 wM_19 rfl g5 dX9_ticksOf_38 ?_
        refine lv_goto (tgt := 43) hx hb dX9_ticksOf_39 (by decide) ?_
        refine lv_istore_n (lv' := [(3, .int (mem 19 x4.toNatClampNeg)), (0, .ref (ad 0)), (1, .int z1), (2, .int z2), (4, .int x4)]) hx hb dX9_ticksOf_43 rfl hl (by decide) rfl (fun ls hl => ?_)
        refine lv_iinc (v := x4 + 1) (lv' := [(4, .int (x4 + 1)), (3, .int (mem 19 x4.toNatClampNeg)), (0, .ref (ad 0)), (1, .int z1), (2, .int z2)]) hx hb dX9_ticksOf_44 hl (k := 4) rfl rfl (by decide) rfl (fun ls hl => ?_)
        refine lv_goto (tgt := 10) hx hb dX9_ticksOf_47 (by decide) ?_
        exact ih (mem 19 x4.toNatClampNeg) (x4 + 1) ls hF (lv_sub hl [2, 3, 4, 1, 0] rfl)
def fX9_ticksOf (mem : Mem) (a1 : Int32) (a2 : Int32) : Option (Int32) :=
  gI a1 100 (fX9_ticksOf_10 mem a1 a2 fu (mem 17 a1.toNatClampNeg) 1)
set_option maxHeartbeats 4000000 in
set_option maxRecDepth 100000 in
theorem kX9_ticksOf (l : Launch) (g : gG) (ad : Nat → Nat) (mem : Mem) (a1 : Int32) (a2 : Int32) (r : Int32) (hF : fX9_ticksOf mem a1 a2 = some r) : Met l yX9_ticksOf (Cond.code yX9_ticksOf cX9_ticksOf 5 (some .int) :: gw) { frames := 1, cells := 0, slots := 0, locals := 24 } (pG (wM g ad mem) (eM g ad) g [.ref (ad 0), .int a1, .int a2]) (qR (some (.int r)) (True)) 0 0 noA := by
  refine met_of (by decide) (Nat.le_of_ble_eq_true rfl) ?_
  intro p e s m args below meth c ls C0 hP hl
  obtain ⟨hx, hb, hml, hown, hts, hr, hlk, hE⟩ := id C0
  obtain ⟨hK, hA⟩ := id hE
  have hl : lv_has ls 5 [(0, .ref (ad 0)), (1, .int a1), (2, .int a2)] := hl
  have hS : va_S (AW 29 ad) s.heap s.heap [] := va_S.rf
  unfold fX9_ticksOf at hF
  refine lv_aload_n hx hb dX9_ticksOf_0 rfl (lv_at hl 0 rfl) ?_
  refine get_W C0 hK hP iwX9 0 wM_0 rfl 24 (by decide) mF_X9_63 rfl rfl dX9_ticksOf_1 ?_
  refine lv_iload_n hx hb dX9_ticksOf_4 rfl (lv_at hl 1 rfl) ?_
  obtain ⟨g1, hF⟩ := gI_some hF
  refine va_iald hx hb hK hP 17 0 wM_17 rfl g1 dX9_ticksOf_5 ?_
  refine lv_istore_n (lv' := [(3, .int (mem 17 a1.toNatClampNeg)), (0, .ref (ad 0)), (1, .int a1), (2, .int a2)]) hx hb dX9_ticksOf_6 rfl hl (by decide) rfl (fun ls hl => ?_)
  refine lv_iconst (v := 1) hx hb dX9_ticksOf_7 (by decide) ?_
  refine lv_istore (lv' := [(4, .int 1), (3, .int (mem 17 a1.toNatClampNeg)), (0, .ref (ad 0)), (1, .int a1), (2, .int a2)]) hx hb dX9_ticksOf_8 hl (by decide) rfl (fun ls hl => ?_)
  exact lpX9_ticksOf_10 g ad mem a1 a2 r C0 hP fu (mem 17 a1.toNatClampNeg) 1 ls hF (lv_sub hl [2, 3, 4, 1, 0] rfl)
theorem pkX9_minutes : pkV yX9_minutes cX9_minutes 3 (some .int) RX9 2 := ⟨mI_X9_minutes, mS_X9_minutes, mN_X9, mC_X9_minutes, by decide +kernel⟩
def fX9_minutes (mem : Mem) (a1 : Int32) (a2 : Int32) : Option (Int32 × Mem) :=
  if a1 < 0 then (ob2 (fX9_finding mem (-100001)) (fun r4 m3 => some (r4, m3))) else (if mem 0 20 ≤ a1 then (ob2 (fX9_finding mem (-100001)) (fun r8 m7 => some (r8, m7))) else (ob1 (fX9_isIn a2 0 3) (fun r10 => if r10 = 0 then (ob2 (fX9_finding mem (-100001)) (fun r23 m22 => some (r23, m22))) else (if a2 = 0 then (gI a1 100 (some (mem 15 a1.toNatClampNeg, mem))) else (if a2 = 1 then (gI a1 100 (some (mem 16 a1.toNatClampNeg, mem))) else (if a2 = 2 then (ob1 (fX9_ticksOf mem a1 (mem 0 25)) (fun r18 => some (r18, mem))) else (gI a1 100 (some (mem 17 a1.toNatClampNeg, mem)))))))))
set_option maxHeartbeats 4000000 in
set_option maxRecDepth 100000 in
theorem kX9_minutes (l : Launch) (g : gG) (ad : Nat → Nat) (mem : Mem) (a1 : Int32) (a2 : Int32) (r : Int32) (mem2 : Mem) (hF : fX9_minutes mem a1 a2 = some (r, mem2)) : Met l yX9_minutes (Cond.code yX9_minutes cX9_minutes 3 (some .int) :: gw) { frames := 2, cells := 0, slots := 0, locals := 48 } (pG (wM g ad mem) (eM g ad) g [.ref (ad 0), .int a1, .int a2]) (qW (wM g ad mem2) g (AW 29 ad) (some (.int r)) (True)) 0 0 (AW 29 ad) := by
  refine met_of (by decide) (Nat.le_of_ble_eq_true rfl) ?_
  intro p e s m args below meth c ls C0 hP hl
  obtain ⟨hx, hb, hml, hown, hts, hr, hlk, hE⟩ := id C0
  obtain ⟨hK, hA⟩ := id hE
  have hl : lv_has ls 3 [(0, .ref (ad 0)), (1, .int a1), (2, .int a2)] := hl
  have hS : va_S (AW 29 ad) s.heap s.heap [] := va_S.rf
  unfold fX9_minutes at hF
  refine lv_iload_n hx hb dX9_minutes_0 rfl (lv_at hl 1 rfl) ?_
  refine lv_if_lt (tgt := 21) hx hb dX9_minutes_1 (by decide) (fun c1 => ?_) (fun c1 => ?_)
  · replace hF := (if_pos c1).symm.trans hF
    refine lv_aload_n hx hb dX9_minutes_21 rfl (lv_at hl 0 rfl) ?_
    refine lv_ldc hx hb hown (hts _ mK_X9_109) dX9_minutes_22 ?_
    obtain ⟨r4, m3, h2, hF⟩ := ob2_some hF
    refine cV_Wi C0 eM_st hP hS hK pkX9_finding (As := [.int (-100001)]) (rest := []) (kX9_finding l g ad mem (-100001) r4 m3 h2) mL_X9_110 ⟨rfl, rfl, Nat.le_of_ble_eq_true rfl, Nat.le_of_ble_eq_true rfl, Nat.le_of_ble_eq_true rfl, Nat.le_of_ble_eq_true rfl⟩ 0 wM_0 rfl rfl rfl hl.1 rfl (Nat.le_of_ble_eq_true rfl) dX9_minutes_24 (fun H locs _ hP hS => ?_)
    cases hF
    exact ret_Wi C0 hP hS trivial dX9_minutes_27
  · replace hF := (if_neg c1).symm.trans hF
    refine lv_iload_n hx hb dX9_minutes_4 rfl (lv_at hl 1 rfl) ?_
    refine lv_aload_n hx hb dX9_minutes_5 rfl (lv_at hl 0 rfl) ?_
    refine get_W C0 hK hP iwX9 0 wM_0 rfl 20 (by decide) mF_X9_175 rfl rfl dX9_minutes_6 ?_
    refine lv_icmp_ge (tgt := 21) hx hb dX9_minutes_9 (by decide) (fun c5 => ?_) (fun c5 => ?_)
    · replace hF := (if_pos c5).symm.trans hF
      refine lv_aload_n hx hb dX9_minutes_21 rfl (lv_at hl 0 rfl) ?_
      refine lv_ldc hx hb hown (hts _ mK_X9_109) dX9_minutes_22 ?_
      obtain ⟨r8, m7, h6, hF⟩ := ob2_some hF
      refine cV_Wi C0 eM_st hP hS hK pkX9_finding (As := [.int (-100001)]) (rest := []) (kX9_finding l g ad mem (-100001) r8 m7 h6) mL_X9_110 ⟨rfl, rfl, Nat.le_of_ble_eq_true rfl, Nat.le_of_ble_eq_true rfl, Nat.le_of_ble_eq_true rfl, Nat.le_of_ble_eq_true rfl⟩ 0 wM_0 rfl rfl rfl hl.1 rfl (Nat.le_of_ble_eq_true rfl) dX9_minutes_24 (fun H locs _ hP hS => ?_)
      cases hF
      exact ret_Wi C0 hP hS trivial dX9_minutes_27
    · replace hF := (if_neg c5).symm.trans hF
      refine lv_iload_n hx hb dX9_minutes_12 rfl (lv_at hl 2 rfl) ?_
      refine lv_iconst (v := 0) hx hb dX9_minutes_13 (by decide) ?_
      refine lv_iconst (v := 3) hx hb dX9_minutes_14 (by decide) ?_
      obtain ⟨r10, h9, hF⟩ := ob_some hF
      refine cS_Ri C0 pkX9_isIn (As := [.int a2, .int 0, .int 3]) (rest := []) (kX9_isIn l g a2 0 3 r10 h9) mL_X9_105 ⟨rfl, rfl, Nat.le_of_ble_eq_true rfl, Nat.le_of_ble_eq_true rfl, Nat.le_of_ble_eq_true rfl, Nat.le_of_ble_eq_true rfl⟩ rfl hl.1 rfl (Nat.le_of_ble_eq_true rfl) dX9_minutes_15 (fun b11 => ?_)
      refine lv_if_ne (tgt := 28) hx hb dX9_minutes_18 (by decide) (fun c12 => ?_) (fun c12 => ?_)
      · replace hF := (if_neg c12).symm.trans hF
        refine lv_iload_n hx hb dX9_minutes_28 rfl (lv_at hl 2 rfl) ?_
        refine lv_if_ne (tgt := 41) hx hb dX9_minutes_29 (by decide) (fun c13 => ?_) (fun c13 => ?_)
        · replace hF := (if_neg c13).symm.trans hF
          refine lv_iload_n hx hb dX9_minutes_41 rfl (lv_at hl 2 rfl) ?_
          refine lv_iconst (v := 1) hx hb dX9_minutes_42 (by decide) ?_
          refine lv_icmp_ne (tgt := 55) hx hb dX9_minutes_43 (by decide) (fun c14 => ?_) (fun c14 => ?_)
          · replace hF := (if_neg c14).symm.trans hF
            refine lv_iload_n hx hb dX9_minutes_55 rfl (lv_at hl 2 rfl) ?_
            refine lv_iconst (v := 2) hx hb dX9_minutes_56 (by decide) ?_
            refine lv_icmp_ne (tgt := 72) hx hb dX9_minutes_57 (by decide) (fun c15 => ?_) (fun c15 => ?_)
            · replace hF := (if_neg c15).symm.trans hF
              refine lv_aload_n hx hb dX9_minutes_72 rfl (lv_at hl 0 rfl) ?_
              refine get_W C0 hK hP iwX9 0 wM_0 rfl 24 (by decide) mF_X9_63 rfl rfl dX9_minutes_73 ?_
              refine lv_iload_n hx hb dX9_minutes_76 rfl (lv_at hl 1 rfl) ?_
              obtain ⟨g16, hF⟩ := gI_some hF
              refine va_iald hx hb hK hP 17 0 wM_17 rfl g16 dX9_minutes_77 ?_
              cases hF
              exact ret_Wi C0 hP hS trivial dX9_minutes_78
            · replace hF := (if_pos c15).symm.trans hF
              refine lv_aload_n hx hb dX9_minutes_60 rfl (lv_at hl 0 rfl) ?_
              refine lv_iload_n hx hb dX9_minutes_61 rfl (lv_at hl 1 rfl) ?_
              refine lv_aload_n hx hb dX9_minutes_62 rfl (lv_at hl 0 rfl) ?_
              refine get_W C0 hK hP iwX9 0 wM_0 rfl 25 (by decide) mF_X9_207 rfl rfl dX9_minutes_63 ?_
              obtain ⟨r18, h17, hF⟩ := ob_some hF
              refine cV_Ri C0 eM_st hP hS hK pkX9_ticksOf (As := [.int a1, .int (mem 0 25)]) (rest := []) (kX9_ticksOf l g ad mem a1 (mem 0 25) r18 h17) mL_X9_210 ⟨rfl, rfl, Nat.le_of_ble_eq_true rfl, Nat.le_of_ble_eq_true rfl, Nat.le_of_ble_eq_true rfl, Nat.le_of_ble_eq_true rfl⟩ 0 wM_0 rfl rfl rfl hl.1 rfl (Nat.le_of_ble_eq_true rfl) dX9_minutes_66 (fun _ => ?_)
              refine lv_goto (tgt := 78) hx hb dX9_minutes_69 (by decide) ?_
              cases hF
              exact ret_Wi C0 hP hS trivial dX9_minutes_78
          · replace hF := (if_pos c14).symm.trans hF
            refine lv_aload_n hx hb dX9_minutes_46 rfl (lv_at hl 0 rfl) ?_
            refine get_W C0 hK hP iwX9 0 wM_0 rfl 23 (by decide) mF_X9_60 rfl rfl dX9_minutes_47 ?_
            refine lv_iload_n hx hb dX9_minutes_50 rfl (lv_at hl 1 rfl) ?_
            obtain ⟨g19, hF⟩ := gI_some hF
            refine va_iald hx hb hK hP 16 0 wM_16 rfl g19 dX9_minutes_51 ?_
            refine lv_goto (tgt := 78) hx hb dX9_minutes_52 (by decide) ?_
            cases hF
            exact ret_Wi C0 hP hS trivial dX9_minutes_78
        · replace hF := (if_pos c13).symm.trans hF
          refine lv_aload_n hx hb dX9_minutes_32 rfl (lv_at hl 0 rfl) ?_
          refine get_W C0 hK hP iwX9 0 wM_0 rfl 22 (by decide) mF_X9_57 rfl rfl dX9_minutes_33 ?_
          refine lv_iload_n hx hb dX9_minutes_36 rfl (lv_at hl 1 rfl) ?_
          obtain ⟨g20, hF⟩ := gI_some hF
          refine va_iald hx hb hK hP 15 0 wM_15 rfl g20 dX9_minutes_37 ?_
          refine lv_goto (tgt := 78) hx hb dX9_minutes_38 (by decide) ?_
          cases hF
          exact ret_Wi C0 hP hS trivial dX9_minutes_78
      · replace hF := (if_pos c12).symm.trans hF
        refine lv_aload_n hx hb dX9_minutes_21 rfl (lv_at hl 0 rfl) ?_
        refine lv_ldc hx hb hown (hts _ mK_X9_109) dX9_minutes_22 ?_
        obtain ⟨r23, m22, h21, hF⟩ := ob2_some hF
        refine cV_Wi C0 eM_st hP hS hK pkX9_finding (As := [.int (-100001)]) (rest := []) (kX9_finding l g ad mem (-100001) r23 m22 h21) mL_X9_110 ⟨rfl, rfl, Nat.le_of_ble_eq_true rfl, Nat.le_of_ble_eq_true rfl, Nat.le_of_ble_eq_true rfl, Nat.le_of_ble_eq_true rfl⟩ 0 wM_0 rfl rfl rfl hl.1 rfl (Nat.le_of_ble_eq_true rfl) dX9_minutes_24 (fun H locs _ hP hS => ?_)
        cases hF
        exact ret_Wi C0 hP hS trivial dX9_minutes_27
theorem pkX9_right : pkV yX9_right cX9_right 3 (some .int) RX9 2 := ⟨mI_X9_right, mS_X9_right, mN_X9, mC_X9_right, by decide +kernel⟩
def fX9_right (mem : Mem) (a1 : Int32) (a2 : Int32) : Option (Int32 × Mem) :=
  if a1 < 0 then (ob2 (fX9_finding mem (-100001)) (fun r4 m3 => some (r4, m3))) else (if mem 0 20 ≤ a1 then (ob2 (fX9_finding mem (-100001)) (fun r8 m7 => some (r8, m7))) else (ob1 (fX9_isIn a2 0 200) (fun r10 => if r10 = 0 then (ob2 (fX9_finding mem (-100001)) (fun r21 m20 => some (r21, m20))) else (if mem 0 25 = 40 then (ob2 (fX9_finding mem (-100005)) (fun r18 m17 => some (r18, m17))) else (gI ((up2 mem 0 25 ((mem 0 25) + 1)) 0 25) 41 (gI ((up2 (up2 mem 0 25 ((mem 0 25) + 1)) 18 ((up2 mem 0 25 ((mem 0 25) + 1)) 0 25).toNatClampNeg (((up2 mem 0 25 ((mem 0 25) + 1)) 0 21) + a1)) 0 25) 41 (some ((up2 (up2 (up2 mem 0 25 ((mem 0 25) + 1)) 18 ((up2 mem 0 25 ((mem 0 25) + 1)) 0 25).toNatClampNeg (((up2 mem 0 25 ((mem 0 25) + 1)) 0 21) + a1)) 19 ((up2 (up2 mem 0 25 ((mem 0 25) + 1)) 18 ((up2 mem 0 25 ((mem 0 25) + 1)) 0 25).toNatClampNeg (((up2 mem 0 25 ((mem 0 25) + 1)) 0 21) + a1)) 0 25).toNatClampNeg a2) 0 25, up2 (up2 (up2 mem 0 25 ((mem 0 25) + 1)) 18 ((up2 mem 0 25 ((mem 0 25) + 1)) 0 25).toNatClampNeg (((up2 mem 0 25 ((mem 0 25) + 1)) 0 21) + a1)) 19 ((up2 (up2 mem 0 25 ((mem 0 25) + 1)) 18 ((up2 mem 0 25 ((mem 0 25) + 1)) 0 25).toNatClampNeg (((up2 mem 0 25 ((mem 0 25) + 1)) 0 21) + a1)) 0 25).toNatClampNeg a2))))))))
set_option maxHeartbeats 4000000 in
set_option maxRecDepth 100000 in
theorem kX9_right (l : Launch) (g : gG) (ad : Nat → Nat) (mem : Mem) (a1 : Int32) (a2 : Int32) (r : Int32) (mem2 : Mem) (hF : fX9_right mem a1 a2 = some (r, mem2)) : Met l yX9_right (Cond.code yX9_right cX9_right 3 (some .int) :: gw) { frames := 2, cells := 0, slots := 0, locals := 46 } (pG (wM g ad mem) (eM g ad) g [.ref (ad 0), .int a1, .int a2]) (qW (wM g ad mem2) g (AW 29 ad) (some (.int r)) (True)) 0 0 (AW 29 ad) := by
  refine met_of (by decide) (Nat.le_of_ble_eq_true rfl) ?_
  intro p e s m args below meth c ls C0 hP hl
  obtain ⟨hx, hb, hml, hown, hts, hr, hlk, hE⟩ := id C0
  obtain ⟨hK, hA⟩ := id hE
  have hl : lv_has ls 3 [(0, .ref (ad 0)), (1, .int a1), (2, .int a2)] := hl
  have hS : va_S (AW 29 ad) s.heap s.heap [] := va_S.rf
  unfold fX9_right at hF
  refine lv_iload_n hx hb dX9_right_0 rfl (lv_at hl 1 rfl) ?_
  refine lv_if_lt (tgt := 23) hx hb dX9_right_1 (by decide) (fun c1 => ?_) (fun c1 => ?_)
  · replace hF := (if_pos c1).symm.trans hF
    refine lv_aload_n hx hb dX9_right_23 rfl (lv_at hl 0 rfl) ?_
    refine lv_ldc hx hb hown (hts _ mK_X9_109) dX9_right_24 ?_
    obtain ⟨r4, m3, h2, hF⟩ := ob2_some hF
    refine cV_Wi C0 eM_st hP hS hK pkX9_finding (As := [.int (-100001)]) (rest := []) (kX9_finding l g ad mem (-100001) r4 m3 h2) mL_X9_110 ⟨rfl, rfl, Nat.le_of_ble_eq_true rfl, Nat.le_of_ble_eq_true rfl, Nat.le_of_ble_eq_true rfl, Nat.le_of_ble_eq_true rfl⟩ 0 wM_0 rfl rfl rfl hl.1 rfl (Nat.le_of_ble_eq_true rfl) dX9_right_26 (fun H locs _ hP hS => ?_)
    cases hF
    exact ret_Wi C0 hP hS trivial dX9_right_29
  · replace hF := (if_neg c1).symm.trans hF
    refine lv_iload_n hx hb dX9_right_4 rfl (lv_at hl 1 rfl) ?_
    refine lv_aload_n hx hb dX9_right_5 rfl (lv_at hl 0 rfl) ?_
    refine get_W C0 hK hP iwX9 0 wM_0 rfl 20 (by decide) mF_X9_175 rfl rfl dX9_right_6 ?_
    refine lv_icmp_ge (tgt := 23) hx hb dX9_right_9 (by decide) (fun c5 => ?_) (fun c5 => ?_)
    · replace hF := (if_pos c5).symm.trans hF
      refine lv_aload_n hx hb dX9_right_23 rfl (lv_at hl 0 rfl) ?_
      refine lv_ldc hx hb hown (hts _ mK_X9_109) dX9_right_24 ?_
      obtain ⟨r8, m7, h6, hF⟩ := ob2_some hF
      refine cV_Wi C0 eM_st hP hS hK pkX9_finding (As := [.int (-100001)]) (rest := []) (kX9_finding l g ad mem (-100001) r8 m7 h6) mL_X9_110 ⟨rfl, rfl, Nat.le_of_ble_eq_true rfl, Nat.le_of_ble_eq_true rfl, Nat.le_of_ble_eq_true rfl, Nat.le_of_ble_eq_true rfl⟩ 0 wM_0 rfl rfl rfl hl.1 rfl (Nat.le_of_ble_eq_true rfl) dX9_right_26 (fun H locs _ hP hS => ?_)
      cases hF
      exact ret_Wi C0 hP hS trivial dX9_right_29
    · replace hF := (if_neg c5).symm.trans hF
      refine lv_iload_n hx hb dX9_right_12 rfl (lv_at hl 2 rfl) ?_
      refine lv_iconst (v := 0) hx hb dX9_right_13 (by decide) ?_
      refine lv_sipush (v := 200) hx hb dX9_right_14 (by decide) ?_
      obtain ⟨r10, h9, hF⟩ := ob_some hF
      refine cS_Ri C0 pkX9_isIn (As := [.int a2, .int 0, .int 200]) (rest := []) (kX9_isIn l g a2 0 200 r10 h9) mL_X9_105 ⟨rfl, rfl, Nat.le_of_ble_eq_true rfl, Nat.le_of_ble_eq_true rfl, Nat.le_of_ble_eq_true rfl, Nat.le_of_ble_eq_true rfl⟩ rfl hl.1 rfl (Nat.le_of_ble_eq_true rfl) dX9_right_17 (fun b11 => ?_)
      refine lv_if_ne (tgt := 30) hx hb dX9_right_20 (by decide) (fun c12 => ?_) (fun c12 => ?_)
      · replace hF := (if_neg c12).symm.trans hF
        refine lv_aload_n hx hb dX9_right_30 rfl (lv_at hl 0 rfl) ?_
        refine get_W C0 hK hP iwX9 0 wM_0 rfl 25 (by decide) mF_X9_207 rfl rfl dX9_right_31 ?_
        refine lv_bipush (v := 40) hx hb dX9_right_34 (by decide) ?_
        refine lv_icmp_ne (tgt := 46) hx hb dX9_right_36 (by decide) (fun c13 => ?_) (fun c13 => ?_)
        · replace hF := (if_neg c13).symm.trans hF
          refine lv_aload_n hx hb dX9_right_46 rfl (lv_at hl 0 rfl) ?_
          refine lv_dup hx hb dX9_right_47 rfl ?_
          refine get_W C0 hK hP iwX9 0 wM_0 rfl 25 (by decide) mF_X9_207 rfl rfl dX9_right_48 ?_
          refine lv_iconst (v := 1) hx hb dX9_right_51 (by decide) ?_
          refine lv_iadd hx hb dX9_right_52 ?_
          refine put_W (k := 25) C0 hK hP (wM_D hA) hS iwX9 tyX9_ok nmX9 0 wM_0 rfl (by decide) mF_X9_207 rfl rfl rfl rfl (Nat.le_of_ble_eq_true rfl) wM_s0_25 dX9_right_53 (fun H locs hP hS => ?_)
          refine lv_aload_n hx hb dX9_right_56 rfl (lv_at hl 0 rfl) ?_
          refine get_W C0 hK hP iwX9 0 wM_0 rfl 26 (by decide) mF_X9_66 rfl rfl dX9_right_57 ?_
          refine lv_aload_n hx hb dX9_right_60 rfl (lv_at hl 0 rfl) ?_
          refine get_W C0 hK hP iwX9 0 wM_0 rfl 25 (by decide) mF_X9_207 rfl rfl dX9_right_61 ?_
          refine lv_aload_n hx hb dX9_right_64 rfl (lv_at hl 0 rfl) ?_
          refine get_W C0 hK hP iwX9 0 wM_0 rfl 21 (by decide) mF_X9_178 rfl rfl dX9_right_65 ?_
          refine lv_iload_n hx hb dX9_right_68 rfl (lv_at hl 1 rfl) ?_
          refine lv_iadd hx hb dX9_right_69 ?_
          obtain ⟨g14, hF⟩ := gI_some hF
          refine iast_W C0 hK hP (wM_D hA) hS 18 wM_18 g14 wM_s18 dX9_right_70 (fun H locs hP hS => ?_)
          refine lv_aload_n hx hb dX9_right_71 rfl (lv_at hl 0 rfl) ?_
          refine get_W C0 hK hP iwX9 0 wM_0 rfl 27 (by decide) mF_X9_69 rfl rfl dX9_right_72 ?_
          refine lv_aload_n hx hb dX9_right_75 rfl (lv_at hl 0 rfl) ?_
          refine get_W C0 hK hP iwX9 0 wM_0 rfl 25 (by decide) mF_X9_207 rfl rfl dX9_right_76 ?_
          refine lv_iload_n hx hb dX9_right_79 rfl (lv_at hl 2 rfl) ?_
          obtain ⟨g15, hF⟩ := gI_some hF
          refine iast_W C0 hK hP (wM_D hA) hS 19 wM_19 g15 wM_s19 dX9_right_80 (fun H locs hP hS => ?_)
          refine lv_aload_n hx hb dX9_right_81 rfl (lv_at hl 0 rfl) ?_
          refine get_W C0 hK hP iwX9 0 wM_0 rfl 25 (by decide) mF_X9_207 rfl rfl dX9_right_82 ?_
          cases hF
          exact ret_Wi C0 hP hS trivial dX9_right_85
        · replace hF := (if_pos c13).symm.trans hF
          refine lv_aload_n hx hb dX9_right_39 rfl (lv_at hl 0 rfl) ?_
          refine lv_ldc hx hb hown (hts _ mK_X9_114) dX9_right_40 ?_
          obtain ⟨r18, m17, h16, hF⟩ := ob2_some hF
          refine cV_Wi C0 eM_st hP hS hK pkX9_finding (As := [.int (-100005)]) (rest := []) (kX9_finding l g ad mem (-100005) r18 m17 h16) mL_X9_110 ⟨rfl, rfl, Nat.le_of_ble_eq_true rfl, Nat.le_of_ble_eq_true rfl, Nat.le_of_ble_eq_true rfl, Nat.le_of_ble_eq_true rfl⟩ 0 wM_0 rfl rfl rfl hl.1 rfl (Nat.le_of_ble_eq_true rfl) dX9_right_42 (fun H locs _ hP hS => ?_)
          cases hF
          exact ret_Wi C0 hP hS trivial dX9_right_45
      · replace hF := (if_pos c12).symm.trans hF
        refine lv_aload_n hx hb dX9_right_23 rfl (lv_at hl 0 rfl) ?_
        refine lv_ldc hx hb hown (hts _ mK_X9_109) dX9_right_24 ?_
        obtain ⟨r21, m20, h19, hF⟩ := ob2_some hF
        refine cV_Wi C0 eM_st hP hS hK pkX9_finding (As := [.int (-100001)]) (rest := []) (kX9_finding l g ad mem (-100001) r21 m20 h19) mL_X9_110 ⟨rfl, rfl, Nat.le_of_ble_eq_true rfl, Nat.le_of_ble_eq_true rfl, Nat.le_of_ble_eq_true rfl, Nat.le_of_ble_eq_true rfl⟩ 0 wM_0 rfl rfl rfl hl.1 rfl (Nat.le_of_ble_eq_true rfl) dX9_right_26 (fun H locs _ hP hS => ?_)
        cases hF
        exact ret_Wi C0 hP hS trivial dX9_right_29
theorem pkX9_sum : pkV yX9_sum cX9_sum 5 (some .int) RX9 2 := ⟨mI_X9_sum, mS_X9_sum, mN_X9, mC_X9_sum, by decide +kernel⟩
def fX9_sum_32 (mem : Mem) (z1 : Int32) (z2 : Int32) : Nat → Int32 → Int32 → Option (Int32 × Mem)
  | 0, _, _ => none
  | n + 1, x3, x4 =>
    if mem 0 20 ≤ x4 then (some (x3, mem)) else (gI x4 100 (if mem 15 x4.toNatClampNeg = z1 then (ob1 (fX9_ticksOf mem x4 z2) (fun r16 => fX9_sum_32 mem z1 z2 n (x3 + r16) (x4 + 1))) else (fX9_sum_32 mem z1 z2 n (x3 + 0) (x4 + 1))))
set_option maxHeartbeats 4000000 in
set_option maxRecDepth 100000 in
theorem lpX9_sum_32 {p : Program} {l : Launch} {e : Env} {s : State} {m : MethodId} {args : Array Value} {below : List Frame} {meth : Method} {c : Code} (g : gG) (ad : Nat → Nat) (mem : Mem) (z1 : Int32) (z2 : Int32) (r : Int32) (mem2 : Mem) (C0 : cxt (eM g ad) cX9_sum 5 RX9 (some .int) p s m args meth c) :
    ∀ (n : Nat) (x3 : Int32) (x4 : Int32) (H : Heap) (locs : List Loc) (ls : Array Slot), fX9_sum_32 mem z1 z2 n x3 x4 = some (r, mem2) → va_P g.1 vwCl (wM g ad mem) H → va_S (AW 29 ad) s.heap H locs → lv_has ls 5 [(0, .ref (ad 0)), (1, .int z1), (2, .int z2), (3, .int x3), (4, .int x4)] → W p l e { frames := 2, cells := 0, slots := 0, locals := 48 } s m args below meth c H locs 0 0 (MQ below (qW (wM g ad mem2) g (AW 29 ad) (some (.int r)) (True)) args s 0 0 (AW 29 ad)) (F0 m 32 ls []) := by
  obtain ⟨hx, hb, hml, hown, hts, hr, hlk, hE⟩ := id C0
  obtain ⟨hK, hA⟩ := id hE
  intro n
  induction n with
  | zero =>
    intro x3 x4 H locs ls hF hP hS hl
    cases hF
  | succ n ih =>
    intro x3 x4 H locs ls hF hP hS hl
    rw [fX9_sum_32] at hF
    refine lv_iload hx hb dX9_sum_32 (lv_at hl 4 rfl) ?_
    refine lv_aload_n hx hb dX9_sum_34 rfl (lv_at hl 0 rfl) ?_
    refine get_W C0 hK hP iwX9 0 wM_0 rfl 20 (by decide) mF_X9_175 rfl rfl dX9_sum_35 ?_
    refine lv_icmp_ge (tgt := 72) hx hb dX9_sum_38 (by decide) (fun c12 => ?_) (fun c12 => ?_)
    · replace hF := (if_pos c12).symm.trans hF
      refine lv_iload_n hx hb dX9_sum_72 rfl (lv_at hl 3 rfl) ?_
      cases hF
      exact ret_Wi C0 hP hS trivial dX9_sum_73
    · replace hF := (if_neg c12).symm.trans hF
      refine lv_iload_n hx hb dX9_sum_41 rfl (lv_at hl 3 rfl) ?_
      refine lv_aload_n hx hb dX9_sum_42 rfl (lv_at hl 0 rfl) ?_
      refine get_W C0 hK hP iwX9 0 wM_0 rfl 22 (by decide) mF_X9_57 rfl rfl dX9_sum_43 ?_
      refine lv_iload hx hb dX9_sum_46 (lv_at hl 4 rfl) ?_
      obtain ⟨g13, hF⟩ := gI_some hF
      refine va_iald hx hb hK hP 15 0 wM_15 rfl g13 dX9_sum_48 ?_
      refine lv_iload_n hx hb dX9_sum_49 rfl (lv_at hl 1 rfl) ?_
      refine lv_icmp_ne (tgt := 63) hx hb dX9_sum_50 (by decide) (fun c14 => ?_) (fun c14 => ?_)
      · replace hF := (if_neg c14).symm.trans hF
        refine lv_iconst (v := 0) hx hb dX9_sum_63 (by decide) ?_
        refine lv_iadd hx hb dX9_sum_64 ?_
        refine lv_istore_n (lv' := [(3, .int (x3 + 0)), (0, .ref (ad 0)), (1, .int z1), (2, .int z2), (4, .int x4)]) hx hb dX9_sum_65 rfl hl (by decide) rfl (fun ls hl => ?_)
        refine lv_iinc (v := x4 + 1) (lv' := [(4, .int (x4 + 1)), (3, .int (x3 + 0)), (0, .ref (ad 0)), (1, .int z1), (2, .int z2)]) hx hb dX9_sum_66 hl (k := 4) rfl rfl (by decide) rfl (fun ls hl => ?_)
        refine lv_goto (tgt := 32) hx hb dX9_sum_69 (by decide) ?_
        exact ih (x3 + 0) (x4 + 1) _ _ ls hF hP hS (lv_sub hl [2, 3, 4, 1, 0] rfl)
      · replace hF := (if_pos c14).symm.trans hF
        refine lv_aload_n hx hb dX9_sum_53 rfl (lv_at hl 0 rfl) ?_
        refine lv_iload hx hb dX9_sum_54 (lv_at hl 4 rfl) ?_
        refine lv_iload_n hx hb dX9_sum_56 rfl (lv_at hl 2 rfl) ?_
        obtain ⟨r16, h15, hF⟩ := ob_some hF
        refine cV_Ri C0 eM_st hP hS hK pkX9_ticksOf (As := [.int x4, .int z2]) (rest := [.int x3]) (kX9_ticksOf l g ad mem x4 z2 r16 h15) mL_X9_210 ⟨rfl, rfl, Nat.le_of_ble_eq_true rfl, Nat.le_of_ble_eq_true rfl, Nat.le_of_ble_eq_true rfl, Nat.le_of_ble_eq_true rfl⟩ 0 wM_0 rfl rfl rfl hl.1 rfl (Nat.le_of_ble_eq_true rfl) dX9_sum_57 (fun _ => ?_)
        refine lv_goto (tgt := 64) hx hb dX9_sum_60 (by decide) ?_
        refine lv_iadd hx hb dX9_sum_64 ?_
        refine lv_istore_n (lv' := [(3, .int (x3 + r16)), (0, .ref (ad 0)), (1, .int z1), (2, .int z2), (4, .int x4)]) hx hb dX9_sum_65 rfl hl (by decide) rfl (fun ls hl => ?_)
        refine lv_iinc (v := x4 + 1) (lv' := [(4, .int (x4 + 1)), (3, .int (x3 + r16)), (0, .ref (ad 0)), (1, .int z1), (2, .int z2)]) hx hb dX9_sum_66 hl (k := 4) rfl rfl (by decide) rfl (fun ls hl => ?_)
        refine lv_goto (tgt := 32) hx hb dX9_sum_69 (by decide) ?_
        exact ih (x3 + r16) (x4 + 1) _ _ ls hF hP hS (lv_sub hl [2, 3, 4, 1, 0] rfl)
def fX9_sum (mem : Mem) (a1 : Int32) (a2 : Int32) : Option (Int32 × Mem) :=
  ob1 (fX9_isMember mem a1) (fun r2 => if r2 = 0 then (ob2 (fX9_finding mem (-100001)) (fun r7 m6 => some (r7, m6))) else (ob1 (fX9_isIn a2 0 (mem 0 25)) (fun r9 => if r9 = 0 then (ob2 (fX9_finding mem (-100001)) (fun r19 m18 => some (r19, m18))) else (fX9_sum_32 mem a1 a2 fu 0 0))))
set_option maxHeartbeats 4000000 in
set_option maxRecDepth 100000 in
theorem kX9_sum (l : Launch) (g : gG) (ad : Nat → Nat) (mem : Mem) (a1 : Int32) (a2 : Int32) (r : Int32) (mem2 : Mem) (hF : fX9_sum mem a1 a2 = some (r, mem2)) : Met l yX9_sum (Cond.code yX9_sum cX9_sum 5 (some .int) :: gw) { frames := 2, cells := 0, slots := 0, locals := 48 } (pG (wM g ad mem) (eM g ad) g [.ref (ad 0), .int a1, .int a2]) (qW (wM g ad mem2) g (AW 29 ad) (some (.int r)) (True)) 0 0 (AW 29 ad) := by
  refine met_of (by decide) (Nat.le_of_ble_eq_true rfl) ?_
  intro p e s m args below meth c ls C0 hP hl
  obtain ⟨hx, hb, hml, hown, hts, hr, hlk, hE⟩ := id C0
  obtain ⟨hK, hA⟩ := id hE
  have hl : lv_has ls 5 [(0, .ref (ad 0)), (1, .int a1), (2, .int a2)] := hl
  have hS : va_S (AW 29 ad) s.heap s.heap [] := va_S.rf
  unfold fX9_sum at hF
  refine lv_aload_n hx hb dX9_sum_0 rfl (lv_at hl 0 rfl) ?_
  refine lv_iload_n hx hb dX9_sum_1 rfl (lv_at hl 1 rfl) ?_
  obtain ⟨r2, h1, hF⟩ := ob_some hF
  refine cV_Ri C0 eM_st hP hS hK pkX9_isMember (As := [.int a1]) (rest := []) (kX9_isMember l g ad mem a1 r2 h1) mL_X9_115 ⟨rfl, rfl, Nat.le_of_ble_eq_true rfl, Nat.le_of_ble_eq_true rfl, Nat.le_of_ble_eq_true rfl, Nat.le_of_ble_eq_true rfl⟩ 0 wM_0 rfl rfl rfl hl.1 rfl (Nat.le_of_ble_eq_true rfl) dX9_sum_2 (fun b3 => ?_)
  refine lv_if_eq (tgt := 20) hx hb dX9_sum_5 (by decide) (fun c4 => ?_) (fun c4 => ?_)
  · replace hF := (if_pos c4).symm.trans hF
    refine lv_aload_n hx hb dX9_sum_20 rfl (lv_at hl 0 rfl) ?_
    refine lv_ldc hx hb hown (hts _ mK_X9_109) dX9_sum_21 ?_
    obtain ⟨r7, m6, h5, hF⟩ := ob2_some hF
    refine cV_Wi C0 eM_st hP hS hK pkX9_finding (As := [.int (-100001)]) (rest := []) (kX9_finding l g ad mem (-100001) r7 m6 h5) mL_X9_110 ⟨rfl, rfl, Nat.le_of_ble_eq_true rfl, Nat.le_of_ble_eq_true rfl, Nat.le_of_ble_eq_true rfl, Nat.le_of_ble_eq_true rfl⟩ 0 wM_0 rfl rfl rfl hl.1 rfl (Nat.le_of_ble_eq_true rfl) dX9_sum_23 (fun H locs _ hP hS => ?_)
    cases hF
    exact ret_Wi C0 hP hS trivial dX9_sum_26
  · replace hF := (if_neg c4).symm.trans hF
    refine lv_iload_n hx hb dX9_sum_8 rfl (lv_at hl 2 rfl) ?_
    refine lv_iconst (v := 0) hx hb dX9_sum_9 (by decide) ?_
    refine lv_aload_n hx hb dX9_sum_10 rfl (lv_at hl 0 rfl) ?_
    refine get_W C0 hK hP iwX9 0 wM_0 rfl 25 (by decide) mF_X9_207 rfl rfl dX9_sum_11 ?_
    obtain ⟨r9, h8, hF⟩ := ob_some hF
    refine cS_Ri C0 pkX9_isIn (As := [.int a2, .int 0, .int (mem 0 25)]) (rest := []) (kX9_isIn l g a2 0 (mem 0 25) r9 h8) mL_X9_105 ⟨rfl, rfl, Nat.le_of_ble_eq_true rfl, Nat.le_of_ble_eq_true rfl, Nat.le_of_ble_eq_true rfl, Nat.le_of_ble_eq_true rfl⟩ rfl hl.1 rfl (Nat.le_of_ble_eq_true rfl) dX9_sum_14 (fun b10 => ?_)
    refine lv_if_ne (tgt := 27) hx hb dX9_sum_17 (by decide) (fun c11 => ?_) (fun c11 => ?_)
    · replace hF := (if_neg c11).symm.trans hF
      refine lv_iconst (v := 0) hx hb dX9_sum_27 (by decide) ?_
      refine lv_istore_n (lv' := [(3, .int 0), (0, .ref (ad 0)), (1, .int a1), (2, .int a2)]) hx hb dX9_sum_28 rfl hl (by decide) rfl (fun ls hl => ?_)
      refine lv_iconst (v := 0) hx hb dX9_sum_29 (by decide) ?_
      refine lv_istore (lv' := [(4, .int 0), (3, .int 0), (0, .ref (ad 0)), (1, .int a1), (2, .int a2)]) hx hb dX9_sum_30 hl (by decide) rfl (fun ls hl => ?_)
      exact lpX9_sum_32 g ad mem a1 a2 r mem2 C0 fu 0 0 _ _ ls hF hP hS (lv_sub hl [2, 3, 4, 1, 0] rfl)
    · replace hF := (if_pos c11).symm.trans hF
      refine lv_aload_n hx hb dX9_sum_20 rfl (lv_at hl 0 rfl) ?_
      refine lv_ldc hx hb hown (hts _ mK_X9_109) dX9_sum_21 ?_
      obtain ⟨r19, m18, h17, hF⟩ := ob2_some hF
      refine cV_Wi C0 eM_st hP hS hK pkX9_finding (As := [.int (-100001)]) (rest := []) (kX9_finding l g ad mem (-100001) r19 m18 h17) mL_X9_110 ⟨rfl, rfl, Nat.le_of_ble_eq_true rfl, Nat.le_of_ble_eq_true rfl, Nat.le_of_ble_eq_true rfl, Nat.le_of_ble_eq_true rfl⟩ 0 wM_0 rfl rfl rfl hl.1 rfl (Nat.le_of_ble_eq_true rfl) dX9_sum_23 (fun H locs _ hP hS => ?_)
      cases hF
      exact ret_Wi C0 hP hS trivial dX9_sum_26
theorem pkX9_isSheet : pkS yX9_isSheet cX9_isSheet 1 (some .boolean) 1 := ⟨mT_X9_isSheet, mN_X9, mC_X9_isSheet, by decide +kernel⟩
def fX9_isSheet (a0 : Int32) : Option (Int32) :=
  ob1 (fX9_isIn a0 0 3) (fun r2 => some r2)
set_option maxHeartbeats 4000000 in
set_option maxRecDepth 100000 in
theorem kX9_isSheet (l : Launch) (g : gG) (a0 : Int32) (r : Int32) (hF : fX9_isSheet a0 = some r) : Met l yX9_isSheet (Cond.code yX9_isSheet cX9_isSheet 1 (some .boolean) :: gw) { frames := 2, cells := 0, slots := 0, locals := 46 } (pG [] (fun _ => True) g [.int a0]) (qR (some (.int r)) (isB r)) 0 0 noA := by
  refine met_of (by decide) (Nat.le_of_ble_eq_true rfl) ?_
  intro p e s m args below meth c ls C0 hP hl
  obtain ⟨hx, hb, hml, hown, hts, hr, hlk, hE⟩ := id C0
  have hl : lv_has ls 1 [(0, .int a0)] := hl
  unfold fX9_isSheet at hF
  refine lv_iload_n hx hb dX9_isSheet_0 rfl (lv_at hl 0 rfl) ?_
  refine lv_iconst (v := 0) hx hb dX9_isSheet_1 (by decide) ?_
  refine lv_iconst (v := 3) hx hb dX9_isSheet_2 (by decide) ?_
  obtain ⟨r2, h1, hF⟩ := ob_some hF
  refine cS_Ri C0 pkX9_isIn (As := [.int a0, .int 0, .int 3]) (rest := []) (kX9_isIn l g a0 0 3 r2 h1) mL_X9_105 ⟨rfl, rfl, Nat.le_of_ble_eq_true rfl, Nat.le_of_ble_eq_true rfl, Nat.le_of_ble_eq_true rfl, Nat.le_of_ble_eq_true rfl⟩ rfl hl.1 rfl (Nat.le_of_ble_eq_true rfl) dX9_isSheet_3 (fun b3 => ?_)
  cases hF
  exact ret_Rz C0 b3 b3 dX9_isSheet_6
theorem pkX9_sheet : pkV yX9_sheet cX9_sheet 5 (some .int) RX9 3 := ⟨mI_X9_sheet, mS_X9_sheet, mN_X9, mC_X9_sheet, by decide +kernel⟩
def fX9_sheet_85 (z1 : Int32) (z2 : Int32) (z3 : Int32) : Nat → Mem → Int32 → Option (Int32 × Mem)
  | 0, _, _ => none
  | n + 1, mem, x4 =>
    if 12 ≤ x4 then (gI z1 4 (some (mem 21 z1.toNatClampNeg, mem))) else (gI ((12 * z1) + x4) 48 (fX9_sheet_85 z1 z2 z3 n (up2 mem 22 ((12 * z1) + x4).toNatClampNeg 0) (x4 + 1)))
set_option maxHeartbeats 4000000 in
set_option maxRecDepth 100000 in
theorem lpX9_sheet_85 {p : Program} {l : Launch} {e : Env} {s : State} {m : MethodId} {args : Array Value} {below : List Frame} {meth : Method} {c : Code} (g : gG) (ad : Nat → Nat) (z1 : Int32) (z2 : Int32) (z3 : Int32) (r : Int32) (mem2 : Mem) (C0 : cxt (eM g ad) cX9_sheet 5 RX9 (some .int) p s m args meth c) :
    ∀ (n : Nat) (mem : Mem) (x4 : Int32) (H : Heap) (locs : List Loc) (ls : Array Slot), fX9_sheet_85 z1 z2 z3 n mem x4 = some (r, mem2) → va_P g.1 vwCl (wM g ad mem) H → va_S (AW 29 ad) s.heap H locs → lv_has ls 5 [(0, .ref (ad 0)), (1, .int z1), (2, .int z2), (3, .int z3), (4, .int x4)] → W p l e { frames := 3, cells := 0, slots := 0, locals := 66 } s m args below meth c H locs 0 0 (MQ below (qW (wM g ad mem2) g (AW 29 ad) (some (.int r)) (True)) args s 0 0 (AW 29 ad)) (F0 m 85 ls []) := by
  obtain ⟨hx, hb, hml, hown, hts, hr, hlk, hE⟩ := id C0
  obtain ⟨hK, hA⟩ := id hE
  intro n
  induction n with
  | zero =>
    intro mem x4 H locs ls hF hP hS hl
    cases hF
  | succ n ih =>
    intro mem x4 H locs ls hF hP hS hl
    rw [fX9_sheet_85] at hF
    refine lv_iload hx hb dX9_sheet_85 (lv_at hl 4 rfl) ?_
    refine lv_bipush (v := 12) hx hb dX9_sheet_87 (by decide) ?_
    refine lv_icmp_ge (tgt := 111) hx hb dX9_sheet_89 (by decide) (fun c14 => ?_) (fun c14 => ?_)
    · replace hF := (if_pos c14).symm.trans hF
      refine lv_aload_n hx hb dX9_sheet_111 rfl (lv_at hl 0 rfl) ?_
      refine get_W C0 hK hP iwX9 0 wM_0 rfl 29 (by decide) mF_X9_75 rfl rfl dX9_sheet_112 ?_
      refine lv_iload_n hx hb dX9_sheet_115 rfl (lv_at hl 1 rfl) ?_
      obtain ⟨g15, hF⟩ := gI_some hF
      refine va_iald hx hb hK hP 21 0 wM_21 rfl g15 dX9_sheet_116 ?_
      cases hF
      exact ret_Wi C0 hP hS trivial dX9_sheet_117
    · replace hF := (if_neg c14).symm.trans hF
      refine lv_aload_n hx hb dX9_sheet_92 rfl (lv_at hl 0 rfl) ?_
      refine get_W C0 hK hP iwX9 0 wM_0 rfl 30 (by decide) mF_X9_78 rfl rfl dX9_sheet_93 ?_
      refine lv_bipush (v := 12) hx hb dX9_sheet_96 (by decide) ?_
      refine lv_iload_n hx hb dX9_sheet_98 rfl (lv_at hl 1 rfl) ?_
      refine lv_imul hx hb dX9_sheet_99 ?_
      refine lv_iload hx hb dX9_sheet_100 (lv_at hl 4 rfl) ?_
      refine lv_iadd hx hb dX9_sheet_102 ?_
      refine lv_iconst (v := 0) hx hb dX9_sheet_103 (by decide) ?_
      obtain ⟨g16, hF⟩ := gI_some hF
      refine iast_W C0 hK hP (wM_D hA) hS 22 wM_22 g16 wM_s22 dX9_sheet_104 (fun H locs hP hS => ?_)
      refine lv_iinc (v := x4 + 1) (lv' := [(4, .int (x4 + 1)), (0, .ref (ad 0)), (1, .int z1), (2, .int z2), (3, .int z3)]) hx hb dX9_sheet_105 hl (k := 4) rfl rfl (by decide) rfl (fun ls hl => ?_)
      refine lv_goto (tgt := 85) hx hb dX9_sheet_108 (by decide) ?_
      exact ih (up2 mem 22 ((12 * z1) + x4).toNatClampNeg 0) (x4 + 1) _ _ ls hF hP hS (lv_sub hl [1, 2, 3, 4, 0] rfl)
def fX9_sheet (mem : Mem) (a1 : Int32) (a2 : Int32) (a3 : Int32) : Option (Int32 × Mem) :=
  ob1 (fX9_isSheet a1) (fun r2 => if r2 = 0 then (ob2 (fX9_finding mem (-100001)) (fun r7 m6 => some (r7, m6))) else (if a2 = 0 then (if 0 ≤ a3 then (if a3 ≤ 12 then (gI a1 4 (if a2 = 0 then (gI a1 4 (fX9_sheet_85 a1 a2 a3 fu (up2 (up2 mem 20 a1.toNatClampNeg a2) 21 a1.toNatClampNeg 0) 0)) else (gI a1 4 (fX9_sheet_85 a1 a2 a3 fu (up2 (up2 mem 20 a1.toNatClampNeg a2) 21 a1.toNatClampNeg a3) 0)))) else (ob2 (fX9_finding mem (-100001)) (fun r20 m19 => some (r20, m19)))) else (ob2 (fX9_finding mem (-100003)) (fun r23 m22 => some (r23, m22)))) else (if a2 = 8 then (if 0 ≤ a3 then (if a3 ≤ 12 then (gI a1 4 (if a2 = 0 then (gI a1 4 (fX9_sheet_85 a1 a2 a3 fu (up2 (up2 mem 20 a1.toNatClampNeg a2) 21 a1.toNatClampNeg 0) 0)) else (gI a1 4 (fX9_sheet_85 a1 a2 a3 fu (up2 (up2 mem 20 a1.toNatClampNeg a2) 21 a1.toNatClampNeg a3) 0)))) else (ob2 (fX9_finding mem (-100001)) (fun r33 m32 => some (r33, m32)))) else (ob2 (fX9_finding mem (-100003)) (fun r36 m35 => some (r36, m35)))) else (if a2 = 16 then (if 0 ≤ a3 then (if a3 ≤ 12 then (gI a1 4 (if a2 = 0 then (gI a1 4 (fX9_sheet_85 a1 a2 a3 fu (up2 (up2 mem 20 a1.toNatClampNeg a2) 21 a1.toNatClampNeg 0) 0)) else (gI a1 4 (fX9_sheet_85 a1 a2 a3 fu (up2 (up2 mem 20 a1.toNatClampNeg a2) 21 a1.toNatClampNeg a3) 0)))) else (ob2 (fX9_finding mem (-100001)) (fun r46 m45 => some (r46, m45)))) else (ob2 (fX9_finding mem (-100003)) (fun r49 m48 => some (r49, m48)))) else (if a2 = 32 then (if 0 ≤ a3 then (if a3 ≤ 12 then (gI a1 4 (if a2 = 0 then (gI a1 4 (fX9_sheet_85 a1 a2 a3 fu (up2 (up2 mem 20 a1.toNatClampNeg a2) 21 a1.toNatClampNeg 0) 0)) else (gI a1 4 (fX9_sheet_85 a1 a2 a3 fu (up2 (up2 mem 20 a1.toNatClampNeg a2) 21 a1.toNatClampNeg a3) 0)))) else (ob2 (fX9_finding mem (-100001)) (fun r59 m58 => some (r59, m58)))) else (ob2 (fX9_finding mem (-100003)) (fun r62 m61 => some (r62, m61)))) else (ob2 (fX9_finding mem (-100001)) (fun r65 m64 => some (r65, m64))))))))
set_option maxHeartbeats 4000000 in
set_option maxRecDepth 100000 in
theorem kX9_sheet (l : Launch) (g : gG) (ad : Nat → Nat) (mem : Mem) (a1 : Int32) (a2 : Int32) (a3 : Int32) (r : Int32) (mem2 : Mem) (hF : fX9_sheet mem a1 a2 a3 = some (r, mem2)) : Met l yX9_sheet (Cond.code yX9_sheet cX9_sheet 5 (some .int) :: gw) { frames := 3, cells := 0, slots := 0, locals := 66 } (pG (wM g ad mem) (eM g ad) g [.ref (ad 0), .int a1, .int a2, .int a3]) (qW (wM g ad mem2) g (AW 29 ad) (some (.int r)) (True)) 0 0 (AW 29 ad) := by
  refine met_of (by decide) (Nat.le_of_ble_eq_true rfl) ?_
  intro p e s m args below meth c ls C0 hP hl
  obtain ⟨hx, hb, hml, hown, hts, hr, hlk, hE⟩ := id C0
  obtain ⟨hK, hA⟩ := id hE
  have hl : lv_has ls 5 [(0, .ref (ad 0)), (1, .int a1), (2, .int a2), (3, .int a3)] := hl
  have hS : va_S (AW 29 ad) s.heap s.heap [] := va_S.rf
  unfold fX9_sheet at hF
  refine lv_iload_n hx hb dX9_sheet_0 rfl (lv_at hl 1 rfl) ?_
  obtain ⟨r2, h1, hF⟩ := ob_some hF
  refine cS_Ri C0 pkX9_isSheet (As := [.int a1]) (rest := []) (kX9_isSheet l g a1 r2 h1) mL_X9_213 ⟨rfl, rfl, Nat.le_of_ble_eq_true rfl, Nat.le_of_ble_eq_true rfl, Nat.le_of_ble_eq_true rfl, Nat.le_of_ble_eq_true rfl⟩ rfl hl.1 rfl (Nat.le_of_ble_eq_true rfl) dX9_sheet_1 (fun b3 => ?_)
  refine lv_if_eq (tgt := 29) hx hb dX9_sheet_4 (by decide) (fun c4 => ?_) (fun c4 => ?_)
  · replace hF := (if_pos c4).symm.trans hF
    refine lv_aload_n hx hb dX9_sheet_29 rfl (lv_at hl 0 rfl) ?_
    refine lv_ldc hx hb hown (hts _ mK_X9_109) dX9_sheet_30 ?_
    obtain ⟨r7, m6, h5, hF⟩ := ob2_some hF
    refine cV_Wi C0 eM_st hP hS hK pkX9_finding (As := [.int (-100001)]) (rest := []) (kX9_finding l g ad mem (-100001) r7 m6 h5) mL_X9_110 ⟨rfl, rfl, Nat.le_of_ble_eq_true rfl, Nat.le_of_ble_eq_true rfl, Nat.le_of_ble_eq_true rfl, Nat.le_of_ble_eq_true rfl⟩ 0 wM_0 rfl rfl rfl hl.1 rfl (Nat.le_of_ble_eq_true rfl) dX9_sheet_32 (fun H locs _ hP hS => ?_)
    cases hF
    exact ret_Wi C0 hP hS trivial dX9_sheet_35
  · replace hF := (if_neg c4).symm.trans hF
    refine lv_iload_n hx hb dX9_sheet_7 rfl (lv_at hl 2 rfl) ?_
    refine lv_if_eq (tgt := 36) hx hb dX9_sheet_8 (by decide) (fun c8 => ?_) (fun c8 => ?_)
    · replace hF := (if_pos c8).symm.trans hF
      refine lv_iload_n hx hb dX9_sheet_36 rfl (lv_at hl 3 rfl) ?_
      refine lv_if_ge (tgt := 47) hx hb dX9_sheet_37 (by decide) (fun c9 => ?_) (fun c9 => ?_)
      · replace hF := (if_pos c9).symm.trans hF
        refine lv_iload_n hx hb dX9_sheet_47 rfl (lv_at hl 3 rfl) ?_
        refine lv_bipush (v := 12) hx hb dX9_sheet_48 (by decide) ?_
        refine lv_icmp_le (tgt := 60) hx hb dX9_sheet_50 (by decide) (fun c10 => ?_) (fun c10 => ?_)
        · replace hF := (if_pos c10).symm.trans hF
          refine lv_aload_n hx hb dX9_sheet_60 rfl (lv_at hl 0 rfl) ?_
          refine get_W C0 hK hP iwX9 0 wM_0 rfl 28 (by decide) mF_X9_72 rfl rfl dX9_sheet_61 ?_
          refine lv_iload_n hx hb dX9_sheet_64 rfl (lv_at hl 1 rfl) ?_
          refine lv_iload_n hx hb dX9_sheet_65 rfl (lv_at hl 2 rfl) ?_
          obtain ⟨g11, hF⟩ := gI_some hF
          refine iast_W C0 hK hP (wM_D hA) hS 20 wM_20 g11 wM_s20 dX9_sheet_66 (fun H locs hP hS => ?_)
          refine lv_aload_n hx hb dX9_sheet_67 rfl (lv_at hl 0 rfl) ?_
          refine get_W C0 hK hP iwX9 0 wM_0 rfl 29 (by decide) mF_X9_75 rfl rfl dX9_sheet_68 ?_
          refine lv_iload_n hx hb dX9_sheet_71 rfl (lv_at hl 1 rfl) ?_
          refine lv_iload_n hx hb dX9_sheet_72 rfl (lv_at hl 2 rfl) ?_
          refine lv_if_ne (tgt := 80) hx hb dX9_sheet_73 (by decide) (fun c12 => ?_) (fun c12 => ?_)
          · replace hF := (if_neg c12).symm.trans hF
            refine lv_iload_n hx hb dX9_sheet_80 rfl (lv_at hl 3 rfl) ?_
            obtain ⟨g13, hF⟩ := gI_some hF
            refine iast_W C0 hK hP (wM_D hA) hS 21 wM_21 g13 wM_s21 dX9_sheet_81 (fun H locs hP hS => ?_)
            refine lv_iconst (v := 0) hx hb dX9_sheet_82 (by decide) ?_
            refine lv_istore (lv' := [(4, .int 0), (0, .ref (ad 0)), (1, .int a1), (2, .int a2), (3, .int a3)]) hx hb dX9_sheet_83 hl (by decide) rfl (fun ls hl => ?_)
            exact lpX9_sheet_85 g ad a1 a2 a3 r mem2 C0 fu (up2 (up2 mem 20 a1.toNatClampNeg a2) 21 a1.toNatClampNeg a3) 0 _ _ ls hF hP hS (lv_sub hl [1, 2, 3, 4, 0] rfl)
          · replace hF := (if_pos c12).symm.trans hF
            refine lv_iconst (v := 0) hx hb dX9_sheet_76 (by decide) ?_
            refine lv_goto (tgt := 81) hx hb dX9_sheet_77 (by decide) ?_
            obtain ⟨g17, hF⟩ := gI_some hF
            refine iast_W C0 hK hP (wM_D hA) hS 21 wM_21 g17 wM_s21 dX9_sheet_81 (fun H locs hP hS => ?_)
            refine lv_iconst (v := 0) hx hb dX9_sheet_82 (by decide) ?_
            refine lv_istore (lv' := [(4, .int 0), (0, .ref (ad 0)), (1, .int a1), (2, .int a2), (3, .int a3)]) hx hb dX9_sheet_83 hl (by decide) rfl (fun ls hl => ?_)
            exact lpX9_sheet_85 g ad a1 a2 a3 r mem2 C0 fu (up2 (up2 mem 20 a1.toNatClampNeg a2) 21 a1.toNatClampNeg 0) 0 _ _ ls hF hP hS (lv_sub hl [1, 2, 3, 4, 0] rfl)
        · replace hF := (if_neg c10).symm.trans hF
          refine lv_aload_n hx hb dX9_sheet_53 rfl (lv_at hl 0 rfl) ?_
          refine lv_ldc hx hb hown (hts _ mK_X9_109) dX9_sheet_54 ?_
          obtain ⟨r20, m19, h18, hF⟩ := ob2_some hF
          refine cV_Wi C0 eM_st hP hS hK pkX9_finding (As := [.int (-100001)]) (rest := []) (kX9_finding l g ad mem (-100001) r20 m19 h18) mL_X9_110 ⟨rfl, rfl, Nat.le_of_ble_eq_true rfl, Nat.le_of_ble_eq_true rfl, Nat.le_of_ble_eq_true rfl, Nat.le_of_ble_eq_true rfl⟩ 0 wM_0 rfl rfl rfl hl.1 rfl (Nat.le_of_ble_eq_true rfl) dX9_sheet_56 (fun H locs _ hP hS => ?_)
          cases hF
          exact ret_Wi C0 hP hS trivial dX9_sheet_59
      · replace hF := (if_neg c9).symm.trans hF
        refine lv_aload_n hx hb dX9_sheet_40 rfl (lv_at hl 0 rfl) ?_
        refine lv_ldc hx hb hown (hts _ mK_X9_136) dX9_sheet_41 ?_
        obtain ⟨r23, m22, h21, hF⟩ := ob2_some hF
        refine cV_Wi C0 eM_st hP hS hK pkX9_finding (As := [.int (-100003)]) (rest := []) (kX9_finding l g ad mem (-100003) r23 m22 h21) mL_X9_110 ⟨rfl, rfl, Nat.le_of_ble_eq_true rfl, Nat.le_of_ble_eq_true rfl, Nat.le_of_ble_eq_true rfl, Nat.le_of_ble_eq_true rfl⟩ 0 wM_0 rfl rfl rfl hl.1 rfl (Nat.le_of_ble_eq_true rfl) dX9_sheet_43 (fun H locs _ hP hS => ?_)
        cases hF
        exact ret_Wi C0 hP hS trivial dX9_sheet_46
    · replace hF := (if_neg c8).symm.trans hF
      refine lv_iload_n hx hb dX9_sheet_11 rfl (lv_at hl 2 rfl) ?_
      refine lv_bipush (v := 8) hx hb dX9_sheet_12 (by decide) ?_
      refine lv_icmp_eq (tgt := 36) hx hb dX9_sheet_14 (by decide) (fun c24 => ?_) (fun c24 => ?_)
      · replace hF := (if_pos c24).symm.trans hF
        refine lv_iload_n hx hb dX9_sheet_36 rfl (lv_at hl 3 rfl) ?_
        refine lv_if_ge (tgt := 47) hx hb dX9_sheet_37 (by decide) (fun c25 => ?_) (fun c25 => ?_)
        · replace hF := (if_pos c25).symm.trans hF
          refine lv_iload_n hx hb dX9_sheet_47 rfl (lv_at hl 3 rfl) ?_
          refine lv_bipush (v := 12) hx hb dX9_sheet_48 (by decide) ?_
          refine lv_icmp_le (tgt := 60) hx hb dX9_sheet_50 (by decide) (fun c26 => ?_) (fun c26 => ?_)
          · replace hF := (if_pos c26).symm.trans hF
            refine lv_aload_n hx hb dX9_sheet_60 rfl (lv_at hl 0 rfl) ?_
            refine get_W C0 hK hP iwX9 0 wM_0 rfl 28 (by decide) mF_X9_72 rfl rfl dX9_sheet_61 ?_
            refine lv_iload_n hx hb dX9_sheet_64 rfl (lv_at hl 1 rfl) ?_
            refine lv_iload_n hx hb dX9_sheet_65 rfl (lv_at hl 2 rfl) ?_
            obtain ⟨g27, hF⟩ := gI_some hF
            refine iast_W C0 hK hP (wM_D hA) hS 20 wM_20 g27 wM_s20 dX9_sheet_66 (fun H locs hP hS => ?_)
            refine lv_aload_n hx hb dX9_sheet_67 rfl (lv_at hl 0 rfl) ?_
            refine get_W C0 hK hP iwX9 0 wM_0 rfl 29 (by decide) mF_X9_75 rfl rfl dX9_sheet_68 ?_
            refine lv_iload_n hx hb dX9_sheet_71 rfl (lv_at hl 1 rfl) ?_
            refine lv_iload_n hx hb dX9_sheet_72 rfl (lv_at hl 2 rfl) ?_
            refine lv_if_ne (tgt := 80) hx hb dX9_sheet_73 (by decide) (fun c28 => ?_) (fun c28 => ?_)
            · replace hF := (if_neg c28).symm.trans hF
              refine lv_iload_n hx hb dX9_sheet_80 rfl (lv_at hl 3 rfl) ?_
              obtain ⟨g29, hF⟩ := gI_some hF
              refine iast_W C0 hK hP (wM_D hA) hS 21 wM_21 g29 wM_s21 dX9_sheet_81 (fun H locs hP hS => ?_)
              refine lv_iconst (v := 0) hx hb dX9_sheet_82 (by decide) ?_
              refine lv_istore (lv' := [(4, .int 0), (0, .ref (ad 0)), (1, .int a1), (2, .int a2), (3, .int a3)]) hx hb dX9_sheet_83 hl (by decide) rfl (fun ls hl => ?_)
              exact lpX9_sheet_85 g ad a1 a2 a3 r mem2 C0 fu (up2 (up2 mem 20 a1.toNatClampNeg a2) 21 a1.toNatClampNeg a3) 0 _ _ ls hF hP hS (lv_sub hl [1, 2, 3, 4, 0] rfl)
            · replace hF := (if_pos c28).symm.trans hF
              refine lv_iconst (v := 0) hx hb dX9_sheet_76 (by decide) ?_
              refine lv_goto (tgt := 81) hx hb dX9_sheet_77 (by decide) ?_
              obtain ⟨g30, hF⟩ := gI_some hF
              refine iast_W C0 hK hP (wM_D hA) hS 21 wM_21 g30 wM_s21 dX9_sheet_81 (fun H locs hP hS => ?_)
              refine lv_iconst (v := 0) hx hb dX9_sheet_82 (by decide) ?_
              refine lv_istore (lv' := [(4, .int 0), (0, .ref (ad 0)), (1, .int a1), (2, .int a2), (3, .int a3)]) hx hb dX9_sheet_83 hl (by decide) rfl (fun ls hl => ?_)
              exact lpX9_sheet_85 g ad a1 a2 a3 r mem2 C0 fu (up2 (up2 mem 20 a1.toNatClampNeg a2) 21 a1.toNatClampNeg 0) 0 _ _ ls hF hP hS (lv_sub hl [1, 2, 3, 4, 0] rfl)
          · replace hF := (if_neg c26).symm.trans hF
            refine lv_aload_n hx hb dX9_sheet_53 rfl (lv_at hl 0 rfl) ?_
            refine lv_ldc hx hb hown (hts _ mK_X9_109) dX9_sheet_54 ?_
            obtain ⟨r33, m32, h31, hF⟩ := ob2_some hF
            refine cV_Wi C0 eM_st hP hS hK pkX9_finding (As := [.int (-100001)]) (rest := []) (kX9_finding l g ad mem (-100001) r33 m32 h31) mL_X9_110 ⟨rfl, rfl, Nat.le_of_ble_eq_true rfl, Nat.le_of_ble_eq_true rfl, Nat.le_of_ble_eq_true rfl, Nat.le_of_ble_eq_true rfl⟩ 0 wM_0 rfl rfl rfl hl.1 rfl (Nat.le_of_ble_eq_true rfl) dX9_sheet_56 (fun H locs _ hP hS => ?_)
            cases hF
            exact ret_Wi C0 hP hS trivial dX9_sheet_59
        · replace hF := (if_neg c25).symm.trans hF
          refine lv_aload_n hx hb dX9_sheet_40 rfl (lv_at hl 0 rfl) ?_
          refine lv_ldc hx hb hown (hts _ mK_X9_136) dX9_sheet_41 ?_
          obtain ⟨r36, m35, h34, hF⟩ := ob2_some hF
          refine cV_Wi C0 eM_st hP hS hK pkX9_finding (As := [.int (-100003)]) (rest := []) (kX9_finding l g ad mem (-100003) r36 m35 h34) mL_X9_110 ⟨rfl, rfl, Nat.le_of_ble_eq_true rfl, Nat.le_of_ble_eq_true rfl, Nat.le_of_ble_eq_true rfl, Nat.le_of_ble_eq_true rfl⟩ 0 wM_0 rfl rfl rfl hl.1 rfl (Nat.le_of_ble_eq_true rfl) dX9_sheet_43 (fun H locs _ hP hS => ?_)
          cases hF
          exact ret_Wi C0 hP hS trivial dX9_sheet_46
      · replace hF := (if_neg c24).symm.trans hF
        refine lv_iload_n hx hb dX9_sheet_17 rfl (lv_at hl 2 rfl) ?_
        refine lv_bipush (v := 16) hx hb dX9_sheet_18 (by decide) ?_
        refine lv_icmp_eq (tgt := 36) hx hb dX9_sheet_20 (by decide) (fun c37 => ?_) (fun c37 => ?_)
        · replace hF := (if_pos c37).symm.trans hF
          refine lv_iload_n hx hb dX9_sheet_36 rfl (lv_at hl 3 rfl) ?_
          refine lv_if_ge (tgt := 47) hx hb dX9_sheet_37 (by decide) (fun c38 => ?_) (fun c38 => ?_)
          · replace hF := (if_pos c38).symm.trans hF
            refine lv_iload_n hx hb dX9_sheet_47 rfl (lv_at hl 3 rfl) ?_
            refine lv_bipush (v := 12) hx hb dX9_sheet_48 (by decide) ?_
            refine lv_icmp_le (tgt := 60) hx hb dX9_sheet_50 (by decide) (fun c39 => ?_) (fun c39 => ?_)
            · replace hF := (if_pos c39).symm.trans hF
              refine lv_aload_n hx hb dX9_sheet_60 rfl (lv_at hl 0 rfl) ?_
              refine get_W C0 hK hP iwX9 0 wM_0 rfl 28 (by decide) mF_X9_72 rfl rfl dX9_sheet_61 ?_
              refine lv_iload_n hx hb dX9_sheet_64 rfl (lv_at hl 1 rfl) ?_
              refine lv_iload_n hx hb dX9_sheet_65 rfl (lv_at hl 2 rfl) ?_
              obtain ⟨g40, hF⟩ := gI_some hF
              refine iast_W C0 hK hP (wM_D hA) hS 20 wM_20 g40 wM_s20 dX9_sheet_66 (fun H locs hP hS => ?_)
              refine lv_aload_n hx hb dX9_sheet_67 rfl (lv_at hl 0 rfl) ?_
              refine get_W C0 hK hP iwX9 0 wM_0 rfl 29 (by decide) mF_X9_75 rfl rfl dX9_sheet_68 ?_
              refine lv_iload_n hx hb dX9_sheet_71 rfl (lv_at hl 1 rfl) ?_
              refine lv_iload_n hx hb dX9_sheet_72 rfl (lv_at hl 2 rfl) ?_
              refine lv_if_ne (tgt := 80) hx hb dX9_sheet_73 (by decide) (fun c41 => ?_) (fun c41 => ?_)
              · replace hF := (if_neg c41).symm.trans hF
                refine lv_iload_n hx hb dX9_sheet_80 rfl (lv_at hl 3 rfl) ?_
                obtain ⟨g42, hF⟩ := gI_some hF
                refine iast_W C0 hK hP (wM_D hA) hS 21 wM_21 g42 wM_s21 dX9_sheet_81 (fun H locs hP hS => ?_)
                refine lv_iconst (v := 0) hx hb dX9_sheet_82 (by decide) ?_
                refine lv_istore (lv' := [(4, .int 0), (0, .ref (ad 0)), (1, .int a1), (2, .int a2), (3, .int a3)]) hx hb dX9_sheet_83 hl (by decide) rfl (fun ls hl => ?_)
                exact lpX9_sheet_85 g ad a1 a2 a3 r mem2 C0 fu (up2 (up2 mem 20 a1.toNatClampNeg a2) 21 a1.toNatClampNeg a3) 0 _ _ ls hF hP hS (lv_sub hl [1, 2, 3, 4, 0] rfl)
              · replace hF := (if_pos c41).symm.trans hF
                refine lv_iconst (v := 0) hx hb dX9_sheet_76 (by decide) ?_
                refine lv_goto (tgt := 81) hx hb dX9_sheet_77 (by decide) ?_
                obtain ⟨g43, hF⟩ := gI_some hF
                refine iast_W C0 hK hP (wM_D hA) hS 21 wM_21 g43 wM_s21 dX9_sheet_81 (fun H locs hP hS => ?_)
                refine lv_iconst (v := 0) hx hb dX9_sheet_82 (by decide) ?_
                refine lv_istore (lv' := [(4, .int 0), (0, .ref (ad 0)), (1, .int a1), (2, .int a2), (3, .int a3)]) hx hb dX9_sheet_83 hl (by decide) rfl (fun ls hl => ?_)
                exact lpX9_sheet_85 g ad a1 a2 a3 r mem2 C0 fu (up2 (up2 mem 20 a1.toNatClampNeg a2) 21 a1.toNatClampNeg 0) 0 _ _ ls hF hP hS (lv_sub hl [1, 2, 3, 4, 0] rfl)
            · replace hF := (if_neg c39).symm.trans hF
              refine lv_aload_n hx hb dX9_sheet_53 rfl (lv_at hl 0 rfl) ?_
              refine lv_ldc hx hb hown (hts _ mK_X9_109) dX9_sheet_54 ?_
              obtain ⟨r46, m45, h44, hF⟩ := ob2_some hF
              refine cV_Wi C0 eM_st hP hS hK pkX9_finding (As := [.int (-100001)]) (rest := []) (kX9_finding l g ad mem (-100001) r46 m45 h44) mL_X9_110 ⟨rfl, rfl, Nat.le_of_ble_eq_true rfl, Nat.le_of_ble_eq_true rfl, Nat.le_of_ble_eq_true rfl, Nat.le_of_ble_eq_true rfl⟩ 0 wM_0 rfl rfl rfl hl.1 rfl (Nat.le_of_ble_eq_true rfl) dX9_sheet_56 (fun H locs _ hP hS => ?_)
              cases hF
              exact ret_Wi C0 hP hS trivial dX9_sheet_59
          · replace hF := (if_neg c38).symm.trans hF
            refine lv_aload_n hx hb dX9_sheet_40 rfl (lv_at hl 0 rfl) ?_
            refine lv_ldc hx hb hown (hts _ mK_X9_136) dX9_sheet_41 ?_
            obtain ⟨r49, m48, h47, hF⟩ := ob2_some hF
            refine cV_Wi C0 eM_st hP hS hK pkX9_finding (As := [.int (-100003)]) (rest := []) (kX9_finding l g ad mem (-100003) r49 m48 h47) mL_X9_110 ⟨rfl, rfl, Nat.le_of_ble_eq_true rfl, Nat.le_of_ble_eq_true rfl, Nat.le_of_ble_eq_true rfl, Nat.le_of_ble_eq_true rfl⟩ 0 wM_0 rfl rfl rfl hl.1 rfl (Nat.le_of_ble_eq_true rfl) dX9_sheet_43 (fun H locs _ hP hS => ?_)
            cases hF
            exact ret_Wi C0 hP hS trivial dX9_sheet_46
        · replace hF := (if_neg c37).symm.trans hF
          refine lv_iload_n hx hb dX9_sheet_23 rfl (lv_at hl 2 rfl) ?_
          refine lv_bipush (v := 32) hx hb dX9_sheet_24 (by decide) ?_
          refine lv_icmp_eq (tgt := 36) hx hb dX9_sheet_26 (by decide) (fun c50 => ?_) (fun c50 => ?_)
          · replace hF := (if_pos c50).symm.trans hF
            refine lv_iload_n hx hb dX9_sheet_36 rfl (lv_at hl 3 rfl) ?_
            refine lv_if_ge (tgt := 47) hx hb dX9_sheet_37 (by decide) (fun c51 => ?_) (fun c51 => ?_)
            · replace hF := (if_pos c51).symm.trans hF
              refine lv_iload_n hx hb dX9_sheet_47 rfl (lv_at hl 3 rfl) ?_
              refine lv_bipush (v := 12) hx hb dX9_sheet_48 (by decide) ?_
              refine lv_icmp_le (tgt := 60) hx hb dX9_sheet_50 (by decide) (fun c52 => ?_) (fun c52 => ?_)
              · replace hF := (if_pos c52).symm.trans hF
                refine lv_aload_n hx hb dX9_sheet_60 rfl (lv_at hl 0 rfl) ?_
                refine get_W C0 hK hP iwX9 0 wM_0 rfl 28 (by decide) mF_X9_72 rfl rfl dX9_sheet_61 ?_
                refine lv_iload_n hx hb dX9_sheet_64 rfl (lv_at hl 1 rfl) ?_
                refine lv_iload_n hx hb dX9_sheet_65 rfl (lv_at hl 2 rfl) ?_
                obtain ⟨g53, hF⟩ := gI_some hF
                refine iast_W C0 hK hP (wM_D hA) hS 20 wM_20 g53 wM_s20 dX9_sheet_66 (fun H locs hP hS => ?_)
                refine lv_aload_n hx hb dX9_sheet_67 rfl (lv_at hl 0 rfl) ?_
                refine get_W C0 hK hP iwX9 0 wM_0 rfl 29 (by decide) mF_X9_75 rfl rfl dX9_sheet_68 ?_
                refine lv_iload_n hx hb dX9_sheet_71 rfl (lv_at hl 1 rfl) ?_
                refine lv_iload_n hx hb dX9_sheet_72 rfl (lv_at hl 2 rfl) ?_
                refine lv_if_ne (tgt := 80) hx hb dX9_sheet_73 (by decide) (fun c54 => ?_) (fun c54 => ?_)
                · replace hF := (if_neg c54).symm.trans hF
                  refine lv_iload_n hx hb dX9_sheet_80 rfl (lv_at hl 3 rfl) ?_
                  obtain ⟨g55, hF⟩ := gI_some hF
                  refine iast_W C0 hK hP (wM_D hA) hS 21 wM_21 g55 wM_s21 dX9_sheet_81 (fun H locs hP hS => ?_)
                  refine lv_iconst (v := 0) hx hb dX9_sheet_82 (by decide) ?_
                  refine lv_istore (lv' := [(4, .int 0), (0, .ref (ad 0)), (1, .int a1), (2, .int a2), (3, .int a3)]) hx hb dX9_sheet_83 hl (by decide) rfl (fun ls hl => ?_)
                  exact lpX9_sheet_85 g ad a1 a2 a3 r mem2 C0 fu (up2 (up2 mem 20 a1.toNatClampNeg a2) 21 a1.toNatClampNeg a3) 0 _ _ ls hF hP hS (lv_sub hl [1, 2, 3, 4, 0] rfl)
                · replace hF := (if_pos c54).symm.trans hF
                  refine lv_iconst (v := 0) hx hb dX9_sheet_76 (by decide) ?_
                  refine lv_goto (tgt := 81) hx hb dX9_sheet_77 (by decide) ?_
                  obtain ⟨g56, hF⟩ := gI_some hF
                  refine iast_W C0 hK hP (wM_D hA) hS 21 wM_21 g56 wM_s21 dX9_sheet_81 (fun H locs hP hS => ?_)
                  refine lv_iconst (v := 0) hx hb dX9_sheet_82 (by decide) ?_
                  refine lv_istore (lv' := [(4, .int 0), (0, .ref (ad 0)), (1, .int a1), (2, .int a2), (3, .int a3)]) hx hb dX9_sheet_83 hl (by decide) rfl (fun ls hl => ?_)
                  exact lpX9_sheet_85 g ad a1 a2 a3 r mem2 C0 fu (up2 (up2 mem 20 a1.toNatClampNeg a2) 21 a1.toNatClampNeg 0) 0 _ _ ls hF hP hS (lv_sub hl [1, 2, 3, 4, 0] rfl)
              · replace hF := (if_neg c52).symm.trans hF
                refine lv_aload_n hx hb dX9_sheet_53 rfl (lv_at hl 0 rfl) ?_
                refine lv_ldc hx hb hown (hts _ mK_X9_109) dX9_sheet_54 ?_
                obtain ⟨r59, m58, h57, hF⟩ := ob2_some hF
                refine cV_Wi C0 eM_st hP hS hK pkX9_finding (As := [.int (-100001)]) (rest := []) (kX9_finding l g ad mem (-100001) r59 m58 h57) mL_X9_110 ⟨rfl, rfl, Nat.le_of_ble_eq_true rfl, Nat.le_of_ble_eq_true rfl, Nat.le_of_ble_eq_true rfl, Nat.le_of_ble_eq_true rfl⟩ 0 wM_0 rfl rfl rfl hl.1 rfl (Nat.le_of_ble_eq_true rfl) dX9_sheet_56 (fun H locs _ hP hS => ?_)
                cases hF
                exact ret_Wi C0 hP hS trivial dX9_sheet_59
            · replace hF := (if_neg c51).symm.trans hF
              refine lv_aload_n hx hb dX9_sheet_40 rfl (lv_at hl 0 rfl) ?_
              refine lv_ldc hx hb hown (hts _ mK_X9_136) dX9_sheet_41 ?_
              obtain ⟨r62, m61, h60, hF⟩ := ob2_some hF
              refine cV_Wi C0 eM_st hP hS hK pkX9_finding (As := [.int (-100003)]) (rest := []) (kX9_finding l g ad mem (-100003) r62 m61 h60) mL_X9_110 ⟨rfl, rfl, Nat.le_of_ble_eq_true rfl, Nat.le_of_ble_eq_true rfl, Nat.le_of_ble_eq_true rfl, Nat.le_of_ble_eq_true rfl⟩ 0 wM_0 rfl rfl rfl hl.1 rfl (Nat.le_of_ble_eq_true rfl) dX9_sheet_43 (fun H locs _ hP hS => ?_)
              cases hF
              exact ret_Wi C0 hP hS trivial dX9_sheet_46
          · replace hF := (if_neg c50).symm.trans hF
            refine lv_aload_n hx hb dX9_sheet_29 rfl (lv_at hl 0 rfl) ?_
            refine lv_ldc hx hb hown (hts _ mK_X9_109) dX9_sheet_30 ?_
            obtain ⟨r65, m64, h63, hF⟩ := ob2_some hF
            refine cV_Wi C0 eM_st hP hS hK pkX9_finding (As := [.int (-100001)]) (rest := []) (kX9_finding l g ad mem (-100001) r65 m64 h63) mL_X9_110 ⟨rfl, rfl, Nat.le_of_ble_eq_true rfl, Nat.le_of_ble_eq_true rfl, Nat.le_of_ble_eq_true rfl, Nat.le_of_ble_eq_true rfl⟩ 0 wM_0 rfl rfl rfl hl.1 rfl (Nat.le_of_ble_eq_true rfl) dX9_sheet_32 (fun H locs _ hP hS => ?_)
            cases hF
            exact ret_Wi C0 hP hS trivial dX9_sheet_35
theorem pkX9_put : pkV yX9_put cX9_put 4 (some .int) RX9 3 := ⟨mI_X9_put, mS_X9_put, mN_X9, mC_X9_put, by decide +kernel⟩
def fX9_put (mem : Mem) (a1 : Int32) (a2 : Int32) (a3 : Int32) : Option (Int32 × Mem) :=
  ob1 (fX9_isSheet a1) (fun r2 => if r2 = 0 then (ob2 (fX9_finding mem (-100001)) (fun r28 m27 => some (r28, m27))) else (gI a1 4 (if mem 20 a1.toNatClampNeg = 0 then (ob2 (fX9_finding mem (-100002)) (fun r25 m24 => some (r25, m24))) else (if a2 < 0 then (ob2 (fX9_finding mem (-100001)) (fun r10 m9 => some (r10, m9))) else (gI a1 4 (if a2 < mem 21 a1.toNatClampNeg then (gI a1 4 (if mem 20 a1.toNatClampNeg = 8 then (gI ((12 * a1) + a2) 48 (some (0, up2 mem 22 ((12 * a1) + a2).toNatClampNeg (a3.toInt8.toInt32)))) else (gI a1 4 (if mem 20 a1.toNatClampNeg = 16 then (gI ((12 * a1) + a2) 48 (some (0, up2 mem 22 ((12 * a1) + a2).toNatClampNeg (a3.toInt16.toInt32)))) else (gI ((12 * a1) + a2) 48 (some (0, up2 mem 22 ((12 * a1) + a2).toNatClampNeg a3))))))) else (ob2 (fX9_finding mem (-100001)) (fun r22 m21 => some (r22, m21)))))))))
set_option maxHeartbeats 4000000 in
set_option maxRecDepth 100000 in
theorem kX9_put (l : Launch) (g : gG) (ad : Nat → Nat) (mem : Mem) (a1 : Int32) (a2 : Int32) (a3 : Int32) (r : Int32) (mem2 : Mem) (hF : fX9_put mem a1 a2 a3 = some (r, mem2)) : Met l yX9_put (Cond.code yX9_put cX9_put 4 (some .int) :: gw) { frames := 3, cells := 0, slots := 0, locals := 66 } (pG (wM g ad mem) (eM g ad) g [.ref (ad 0), .int a1, .int a2, .int a3]) (qW (wM g ad mem2) g (AW 29 ad) (some (.int r)) (True)) 0 0 (AW 29 ad) := by
  refine met_of (by decide) (Nat.le_of_ble_eq_true rfl) ?_
  intro p e s m args below meth c ls C0 hP hl
  obtain ⟨hx, hb, hml, hown, hts, hr, hlk, hE⟩ := id C0
  obtain ⟨hK, hA⟩ := id hE
  have hl : lv_has ls 4 [(0, .ref (ad 0)), (1, .int a1), (2, .int a2), (3, .int a3)] := hl
  have hS : va_S (AW 29 ad) s.heap s.heap [] := va_S.rf
  unfold fX9_put at hF
  refine lv_iload_n hx hb dX9_put_0 rfl (lv_at hl 1 rfl) ?_
  obtain ⟨r2, h1, hF⟩ := ob_some hF
  refine cS_Ri C0 pkX9_isSheet (As := [.int a1]) (rest := []) (kX9_isSheet l g a1 r2 h1) mL_X9_213 ⟨rfl, rfl, Nat.le_of_ble_eq_true rfl, Nat.le_of_ble_eq_true rfl, Nat.le_of_ble_eq_true rfl, Nat.le_of_ble_eq_true rfl⟩ rfl hl.1 rfl (Nat.le_of_ble_eq_true rfl) dX9_put_1 (fun b3 => ?_)
  refine lv_if_ne (tgt := 14) hx hb dX9_put_4 (by decide) (fun c4 => ?_) (fun c4 => ?_)
  · replace hF := (if_neg c4).symm.trans hF
    refine lv_aload_n hx hb dX9_put_14 rfl (lv_at hl 0 rfl) ?_
    refine get_W C0 hK hP iwX9 0 wM_0 rfl 28 (by decide) mF_X9_72 rfl rfl dX9_put_15 ?_
    refine lv_iload_n hx hb dX9_put_18 rfl (lv_at hl 1 rfl) ?_
    obtain ⟨g5, hF⟩ := gI_some hF
    refine va_iald hx hb hK hP 20 0 wM_20 rfl g5 dX9_put_19 ?_
    refine lv_if_ne (tgt := 30) hx hb dX9_put_20 (by decide) (fun c6 => ?_) (fun c6 => ?_)
    · replace hF := (if_neg c6).symm.trans hF
      refine lv_iload_n hx hb dX9_put_30 rfl (lv_at hl 2 rfl) ?_
      refine lv_if_lt (tgt := 44) hx hb dX9_put_31 (by decide) (fun c7 => ?_) (fun c7 => ?_)
      · replace hF := (if_pos c7).symm.trans hF
        refine lv_aload_n hx hb dX9_put_44 rfl (lv_at hl 0 rfl) ?_
        refine lv_ldc hx hb hown (hts _ mK_X9_109) dX9_put_45 ?_
        obtain ⟨r10, m9, h8, hF⟩ := ob2_some hF
        refine cV_Wi C0 eM_st hP hS hK pkX9_finding (As := [.int (-100001)]) (rest := []) (kX9_finding l g ad mem (-100001) r10 m9 h8) mL_X9_110 ⟨rfl, rfl, Nat.le_of_ble_eq_true rfl, Nat.le_of_ble_eq_true rfl, Nat.le_of_ble_eq_true rfl, Nat.le_of_ble_eq_true rfl⟩ 0 wM_0 rfl rfl rfl hl.1 rfl (Nat.le_of_ble_eq_true rfl) dX9_put_47 (fun H locs _ hP hS => ?_)
        cases hF
        exact ret_Wi C0 hP hS trivial dX9_put_50
      · replace hF := (if_neg c7).symm.trans hF
        refine lv_iload_n hx hb dX9_put_34 rfl (lv_at hl 2 rfl) ?_
        refine lv_aload_n hx hb dX9_put_35 rfl (lv_at hl 0 rfl) ?_
        refine get_W C0 hK hP iwX9 0 wM_0 rfl 29 (by decide) mF_X9_75 rfl rfl dX9_put_36 ?_
        refine lv_iload_n hx hb dX9_put_39 rfl (lv_at hl 1 rfl) ?_
        obtain ⟨g11, hF⟩ := gI_some hF
        refine va_iald hx hb hK hP 21 0 wM_21 rfl g11 dX9_put_40 ?_
        refine lv_icmp_lt (tgt := 51) hx hb dX9_put_41 (by decide) (fun c12 => ?_) (fun c12 => ?_)
        · replace hF := (if_pos c12).symm.trans hF
          refine lv_aload_n hx hb dX9_put_51 rfl (lv_at hl 0 rfl) ?_
          refine get_W C0 hK hP iwX9 0 wM_0 rfl 30 (by decide) mF_X9_78 rfl rfl dX9_put_52 ?_
          refine lv_bipush (v := 12) hx hb dX9_put_55 (by decide) ?_
          refine lv_iload_n hx hb dX9_put_57 rfl (lv_at hl 1 rfl) ?_
          refine lv_imul hx hb dX9_put_58 ?_
          refine lv_iload_n hx hb dX9_put_59 rfl (lv_at hl 2 rfl) ?_
          refine lv_iadd hx hb dX9_put_60 ?_
          refine lv_aload_n hx hb dX9_put_61 rfl (lv_at hl 0 rfl) ?_
          refine get_W C0 hK hP iwX9 0 wM_0 rfl 28 (by decide) mF_X9_72 rfl rfl dX9_put_62 ?_
          refine lv_iload_n hx hb dX9_put_65 rfl (lv_at hl 1 rfl) ?_
          obtain ⟨g13, hF⟩ := gI_some hF
          refine va_iald hx hb hK hP 20 0 wM_20 rfl g13 dX9_put_66 ?_
          refine lv_bipush (v := 8) hx hb dX9_put_67 (by decide) ?_
          refine lv_icmp_ne (tgt := 77) hx hb dX9_put_69 (by decide) (fun c14 => ?_) (fun c14 => ?_)
          · replace hF := (if_neg c14).symm.trans hF
            refine lv_aload_n hx hb dX9_put_77 rfl (lv_at hl 0 rfl) ?_
            refine get_W C0 hK hP iwX9 0 wM_0 rfl 28 (by decide) mF_X9_72 rfl rfl dX9_put_78 ?_
            refine lv_iload_n hx hb dX9_put_81 rfl (lv_at hl 1 rfl) ?_
            obtain ⟨g15, hF⟩ := gI_some hF
            refine va_iald hx hb hK hP 20 0 wM_20 rfl g15 dX9_put_82 ?_
            refine lv_bipush (v := 16) hx hb dX9_put_83 (by decide) ?_
            refine lv_icmp_ne (tgt := 93) hx hb dX9_put_85 (by decide) (fun c16 => ?_) (fun c16 => ?_)
            · replace hF := (if_neg c16).symm.trans hF
              refine lv_iload_n hx hb dX9_put_93 rfl (lv_at hl 3 rfl) ?_
              obtain ⟨g17, hF⟩ := gI_some hF
              refine iast_W C0 hK hP (wM_D hA) hS 22 wM_22 g17 wM_s22 dX9_put_94 (fun H locs hP hS => ?_)
              refine lv_iconst (v := 0) hx hb dX9_put_95 (by decide) ?_
              cases hF
              exact ret_Wi C0 hP hS trivial dX9_put_96
            · replace hF := (if_pos c16).symm.trans hF
              refine lv_iload_n hx hb dX9_put_88 rfl (lv_at hl 3 rfl) ?_
              refine lv_i2s hx hb dX9_put_89 (v := a3.toInt16.toInt32) rfl ?_
              refine lv_goto (tgt := 94) hx hb dX9_put_90 (by decide) ?_
              obtain ⟨g18, hF⟩ := gI_some hF
              refine iast_W C0 hK hP (wM_D hA) hS 22 wM_22 g18 wM_s22 dX9_put_94 (fun H locs hP hS => ?_)
              refine lv_iconst (v := 0) hx hb dX9_put_95 (by decide) ?_
              cases hF
              exact ret_Wi C0 hP hS trivial dX9_put_96
          · replace hF := (if_pos c14).symm.trans hF
            refine lv_iload_n hx hb dX9_put_72 rfl (lv_at hl 3 rfl) ?_
            refine lv_i2b hx hb dX9_put_73 (v := a3.toInt8.toInt32) rfl ?_
            refine lv_goto (tgt := 94) hx hb dX9_put_74 (by decide) ?_
            obtain ⟨g19, hF⟩ := gI_some hF
            refine iast_W C0 hK hP (wM_D hA) hS 22 wM_22 g19 wM_s22 dX9_put_94 (fun H locs hP hS => ?_)
            refine lv_iconst (v := 0) hx hb dX9_put_95 (by decide) ?_
            cases hF
            exact ret_Wi C0 hP hS trivial dX9_put_96
        · replace hF := (if_neg c12).symm.trans hF
          refine lv_aload_n hx hb dX9_put_44 rfl (lv_at hl 0 rfl) ?_
          refine lv_ldc hx hb hown (hts _ mK_X9_109) dX9_put_45 ?_
          obtain ⟨r22, m21, h20, hF⟩ := ob2_some hF
          refine cV_Wi C0 eM_st hP hS hK pkX9_finding (As := [.int (-100001)]) (rest := []) (kX9_finding l g ad mem (-100001) r22 m21 h20) mL_X9_110 ⟨rfl, rfl, Nat.le_of_ble_eq_true rfl, Nat.le_of_ble_eq_true rfl, Nat.le_of_ble_eq_true rfl, Nat.le_of_ble_eq_true rfl⟩ 0 wM_0 rfl rfl rfl hl.1 rfl (Nat.le_of_ble_eq_true rfl) dX9_put_47 (fun H locs _ hP hS => ?_)
          cases hF
          exact ret_Wi C0 hP hS trivial dX9_put_50
    · replace hF := (if_pos c6).symm.trans hF
      refine lv_aload_n hx hb dX9_put_23 rfl (lv_at hl 0 rfl) ?_
      refine lv_ldc hx hb hown (hts _ mK_X9_216) dX9_put_24 ?_
      obtain ⟨r25, m24, h23, hF⟩ := ob2_some hF
      refine cV_Wi C0 eM_st hP hS hK pkX9_finding (As := [.int (-100002)]) (rest := []) (kX9_finding l g ad mem (-100002) r25 m24 h23) mL_X9_110 ⟨rfl, rfl, Nat.le_of_ble_eq_true rfl, Nat.le_of_ble_eq_true rfl, Nat.le_of_ble_eq_true rfl, Nat.le_of_ble_eq_true rfl⟩ 0 wM_0 rfl rfl rfl hl.1 rfl (Nat.le_of_ble_eq_true rfl) dX9_put_26 (fun H locs _ hP hS => ?_)
      cases hF
      exact ret_Wi C0 hP hS trivial dX9_put_29
  · replace hF := (if_pos c4).symm.trans hF
    refine lv_aload_n hx hb dX9_put_7 rfl (lv_at hl 0 rfl) ?_
    refine lv_ldc hx hb hown (hts _ mK_X9_109) dX9_put_8 ?_
    obtain ⟨r28, m27, h26, hF⟩ := ob2_some hF
    refine cV_Wi C0 eM_st hP hS hK pkX9_finding (As := [.int (-100001)]) (rest := []) (kX9_finding l g ad mem (-100001) r28 m27 h26) mL_X9_110 ⟨rfl, rfl, Nat.le_of_ble_eq_true rfl, Nat.le_of_ble_eq_true rfl, Nat.le_of_ble_eq_true rfl, Nat.le_of_ble_eq_true rfl⟩ 0 wM_0 rfl rfl rfl hl.1 rfl (Nat.le_of_ble_eq_true rfl) dX9_put_10 (fun H locs _ hP hS => ?_)
    cases hF
    exact ret_Wi C0 hP hS trivial dX9_put_13
theorem pkX9_hasPart : pkV yX9_hasPart cX9_hasPart 4 (some .boolean) RX9 3 := ⟨mI_X9_hasPart, mS_X9_hasPart, mN_X9, mC_X9_hasPart, by decide +kernel⟩
def fX9_hasPart (mem : Mem) (a1 : Int32) (a2 : Int32) (a3 : Int32) : Option (Int32) :=
  if a2 < 0 then (some 0) else (if a3 < 0 then (some 0) else (gI a1 4 (if mem 21 a1.toNatClampNeg < a3 then (some 0) else (gI a1 4 (if (mem 21 a1.toNatClampNeg) - a3 < a2 then (some 0) else (some 1))))))
set_option maxHeartbeats 4000000 in
set_option maxRecDepth 100000 in
theorem kX9_hasPart (l : Launch) (g : gG) (ad : Nat → Nat) (mem : Mem) (a1 : Int32) (a2 : Int32) (a3 : Int32) (r : Int32) (hF : fX9_hasPart mem a1 a2 a3 = some r) : Met l yX9_hasPart (Cond.code yX9_hasPart cX9_hasPart 4 (some .boolean) :: gw) { frames := 1, cells := 0, slots := 0, locals := 24 } (pG (wM g ad mem) (eM g ad) g [.ref (ad 0), .int a1, .int a2, .int a3]) (qR (some (.int r)) (isB r)) 0 0 noA := by
  refine met_of (by decide) (Nat.le_of_ble_eq_true rfl) ?_
  intro p e s m args below meth c ls C0 hP hl
  obtain ⟨hx, hb, hml, hown, hts, hr, hlk, hE⟩ := id C0
  obtain ⟨hK, hA⟩ := id hE
  have hl : lv_has ls 4 [(0, .ref (ad 0)), (1, .int a1), (2, .int a2), (3, .int a3)] := hl
  have hS : va_S (AW 29 ad) s.heap s.heap [] := va_S.rf
  unfold fX9_hasPart at hF
  refine lv_iload_n hx hb dX9_hasPart_0 rfl (lv_at hl 2 rfl) ?_
  refine lv_if_lt (tgt := 34) hx hb dX9_hasPart_1 (by decide) (fun c1 => ?_) (fun c1 => ?_)
  · replace hF := (if_pos c1).symm.trans hF
    refine lv_iconst (v := 0) hx hb dX9_hasPart_34 (by decide) ?_
    cases hF
    exact ret_Rz C0 (Or.inl rfl) (Or.inl rfl) dX9_hasPart_35
  · replace hF := (if_neg c1).symm.trans hF
    refine lv_iload_n hx hb dX9_hasPart_4 rfl (lv_at hl 3 rfl) ?_
    refine lv_if_lt (tgt := 34) hx hb dX9_hasPart_5 (by decide) (fun c2 => ?_) (fun c2 => ?_)
    · replace hF := (if_pos c2).symm.trans hF
      refine lv_iconst (v := 0) hx hb dX9_hasPart_34 (by decide) ?_
      cases hF
      exact ret_Rz C0 (Or.inl rfl) (Or.inl rfl) dX9_hasPart_35
    · replace hF := (if_neg c2).symm.trans hF
      refine lv_iload_n hx hb dX9_hasPart_8 rfl (lv_at hl 3 rfl) ?_
      refine lv_aload_n hx hb dX9_hasPart_9 rfl (lv_at hl 0 rfl) ?_
      refine get_W C0 hK hP iwX9 0 wM_0 rfl 29 (by decide) mF_X9_75 rfl rfl dX9_hasPart_10 ?_
      refine lv_iload_n hx hb dX9_hasPart_13 rfl (lv_at hl 1 rfl) ?_
      obtain ⟨g3, hF⟩ := gI_some hF
      refine va_iald hx hb hK hP 21 0 wM_21 rfl g3 dX9_hasPart_14 ?_
      refine lv_icmp_gt (tgt := 34) hx hb dX9_hasPart_15 (by decide) (fun c4 => ?_) (fun c4 => ?_)
      · replace hF := (if_pos c4).symm.trans hF
        refine lv_iconst (v := 0) hx hb dX9_hasPart_34 (by decide) ?_
        cases hF
        exact ret_Rz C0 (Or.inl rfl) (Or.inl rfl) dX9_hasPart_35
      · replace hF := (if_neg c4).symm.trans hF
        refine lv_iload_n hx hb dX9_hasPart_18 rfl (lv_at hl 2 rfl) ?_
        refine lv_aload_n hx hb dX9_hasPart_19 rfl (lv_at hl 0 rfl) ?_
        refine get_W C0 hK hP iwX9 0 wM_0 rfl 29 (by decide) mF_X9_75 rfl rfl dX9_hasPart_20 ?_
        refine lv_iload_n hx hb dX9_hasPart_23 rfl (lv_at hl 1 rfl) ?_
        obtain ⟨g5, hF⟩ := gI_some hF
        refine va_iald hx hb hK hP 21 0 wM_21 rfl g5 dX9_hasPart_24 ?_
        refine lv_iload_n hx hb dX9_hasPart_25 rfl (lv_at hl 3 rfl) ?_
        refine lv_isub hx hb dX9_hasPart_26 ?_
        refine lv_icmp_gt (tgt := 34) hx hb dX9_hasPart_27 (by decide) (fun c6 => ?_) (fun c6 => ?_)
        · replace hF := (if_pos c6).symm.trans hF
          refine lv_iconst (v := 0) hx hb dX9_hasPart_34 (by decide) ?_
          cases hF
          exact ret_Rz C0 (Or.inl rfl) (Or.inl rfl) dX9_hasPart_35
        · replace hF := (if_neg c6).symm.trans hF
          refine lv_iconst (v := 1) hx hb dX9_hasPart_30 (by decide) ?_
          refine lv_goto (tgt := 35) hx hb dX9_hasPart_31 (by decide) ?_
          cases hF
          exact ret_Rz C0 (Or.inr rfl) (Or.inr rfl) dX9_hasPart_35
theorem pkX9_copy : pkV yX9_copy cX9_copy 7 (some .int) RX9 5 := ⟨mI_X9_copy, mS_X9_copy, mN_X9, mC_X9_copy, by decide +kernel⟩
def fX9_copy_138 (z1 : Int32) (z2 : Int32) (z3 : Int32) (z4 : Int32) (z5 : Int32) : Nat → Mem → Int32 → Option (Int32 × Mem)
  | 0, _, _ => none
  | n + 1, mem, x6 =>
    if z5 ≤ x6 then (some (z5, mem)) else (gI x6 12 (gI (((12 * z3) + z4) + x6) 48 (fX9_copy_138 z1 z2 z3 z4 z5 n (up2 mem 22 (((12 * z3) + z4) + x6).toNatClampNeg (mem 28 x6.toNatClampNeg)) (x6 + 1))))
set_option maxHeartbeats 4000000 in
set_option maxRecDepth 100000 in
theorem lpX9_copy_138 {p : Program} {l : Launch} {e : Env} {s : State} {m : MethodId} {args : Array Value} {below : List Frame} {meth : Method} {c : Code} (g : gG) (ad : Nat → Nat) (z1 : Int32) (z2 : Int32) (z3 : Int32) (z4 : Int32) (z5 : Int32) (r : Int32) (mem2 : Mem) (C0 : cxt (eM g ad) cX9_copy 7 RX9 (some .int) p s m args meth c) :
    ∀ (n : Nat) (mem : Mem) (x6 : Int32) (H : Heap) (locs : List Loc) (ls : Array Slot), fX9_copy_138 z1 z2 z3 z4 z5 n mem x6 = some (r, mem2) → va_P g.1 vwCl (wM g ad mem) H → va_S (AW 29 ad) s.heap H locs → lv_has ls 7 [(0, .ref (ad 0)), (1, .int z1), (2, .int z2), (3, .int z3), (4, .int z4), (5, .int z5), (6, .int x6)] → W p l e { frames := 3, cells := 0, slots := 0, locals := 66 } s m args below meth c H locs 0 0 (MQ below (qW (wM g ad mem2) g (AW 29 ad) (some (.int r)) (True)) args s 0 0 (AW 29 ad)) (F0 m 138 ls []) := by
  obtain ⟨hx, hb, hml, hown, hts, hr, hlk, hE⟩ := id C0
  obtain ⟨hK, hA⟩ := id hE
  intro n
  induction n with
  | zero =>
    intro mem x6 H locs ls hF hP hS hl
    cases hF
  | succ n ih =>
    intro mem x6 H locs ls hF hP hS hl
    rw [fX9_copy_138] at hF
    refine lv_iload hx hb dX9_copy_138 (lv_at hl 6 rfl) ?_
    refine lv_iload hx hb dX9_copy_140 (lv_at hl 5 rfl) ?_
    refine lv_icmp_ge (tgt := 173) hx hb dX9_copy_142 (by decide) (fun c34 => ?_) (fun c34 => ?_)
    · replace hF := (if_pos c34).symm.trans hF
      refine lv_iload hx hb dX9_copy_173 (lv_at hl 5 rfl) ?_
      cases hF
      exact ret_Wi C0 hP hS trivial dX9_copy_175
    · replace hF := (if_neg c34).symm.trans hF
      refine lv_aload_n hx hb dX9_copy_145 rfl (lv_at hl 0 rfl) ?_
      refine get_W C0 hK hP iwX9 0 wM_0 rfl 30 (by decide) mF_X9_78 rfl rfl dX9_copy_146 ?_
      refine lv_bipush (v := 12) hx hb dX9_copy_149 (by decide) ?_
      refine lv_iload_n hx hb dX9_copy_151 rfl (lv_at hl 3 rfl) ?_
      refine lv_imul hx hb dX9_copy_152 ?_
      refine lv_iload hx hb dX9_copy_153 (lv_at hl 4 rfl) ?_
      refine lv_iadd hx hb dX9_copy_155 ?_
      refine lv_iload hx hb dX9_copy_156 (lv_at hl 6 rfl) ?_
      refine lv_iadd hx hb dX9_copy_158 ?_
      refine lv_aload_n hx hb dX9_copy_159 rfl (lv_at hl 0 rfl) ?_
      refine get_W C0 hK hP iwX9 0 wM_0 rfl 38 (by decide) mF_X9_96 rfl rfl dX9_copy_160 ?_
      refine lv_iload hx hb dX9_copy_163 (lv_at hl 6 rfl) ?_
      obtain ⟨g35, hF⟩ := gI_some hF
      refine va_iald hx hb hK hP 28 0 wM_28 rfl g35 dX9_copy_165 ?_
      obtain ⟨g36, hF⟩ := gI_some hF
      refine iast_W C0 hK hP (wM_D hA) hS 22 wM_22 g36 wM_s22 dX9_copy_166 (fun H locs hP hS => ?_)
      refine lv_iinc (v := x6 + 1) (lv' := [(6, .int (x6 + 1)), (0, .ref (ad 0)), (1, .int z1), (2, .int z2), (3, .int z3), (4, .int z4), (5, .int z5)]) hx hb dX9_copy_167 hl (k := 6) rfl rfl (by decide) rfl (fun ls hl => ?_)
      refine lv_goto (tgt := 138) hx hb dX9_copy_170 (by decide) ?_
      exact ih (up2 mem 22 (((12 * z3) + z4) + x6).toNatClampNeg (mem 28 x6.toNatClampNeg)) (x6 + 1) _ _ ls hF hP hS (lv_sub hl [1, 2, 3, 4, 5, 6, 0] rfl)
def fX9_copy_101 (z1 : Int32) (z2 : Int32) (z3 : Int32) (z4 : Int32) (z5 : Int32) : Nat → Mem → Int32 → Option (Int32 × Mem)
  | 0, _, _ => none
  | n + 1, mem, x6 =>
    if z5 ≤ x6 then (fX9_copy_138 z1 z2 z3 z4 z5 fu mem 0) else (gI (((12 * z1) + z2) + x6) 48 (gI x6 12 (fX9_copy_101 z1 z2 z3 z4 z5 n (up2 mem 28 x6.toNatClampNeg (mem 22 (((12 * z1) + z2) + x6).toNatClampNeg)) (x6 + 1))))
set_option maxHeartbeats 4000000 in
set_option maxRecDepth 100000 in
theorem lpX9_copy_101 {p : Program} {l : Launch} {e : Env} {s : State} {m : MethodId} {args : Array Value} {below : List Frame} {meth : Method} {c : Code} (g : gG) (ad : Nat → Nat) (z1 : Int32) (z2 : Int32) (z3 : Int32) (z4 : Int32) (z5 : Int32) (r : Int32) (mem2 : Mem) (C0 : cxt (eM g ad) cX9_copy 7 RX9 (some .int) p s m args meth c) :
    ∀ (n : Nat) (mem : Mem) (x6 : Int32) (H : Heap) (locs : List Loc) (ls : Array Slot), fX9_copy_101 z1 z2 z3 z4 z5 n mem x6 = some (r, mem2) → va_P g.1 vwCl (wM g ad mem) H → va_S (AW 29 ad) s.heap H locs → lv_has ls 7 [(0, .ref (ad 0)), (1, .int z1), (2, .int z2), (3, .int z3), (4, .int z4), (5, .int z5), (6, .int x6)] → W p l e { frames := 3, cells := 0, slots := 0, locals := 66 } s m args below meth c H locs 0 0 (MQ below (qW (wM g ad mem2) g (AW 29 ad) (some (.int r)) (True)) args s 0 0 (AW 29 ad)) (F0 m 101 ls []) := by
  obtain ⟨hx, hb, hml, hown, hts, hr, hlk, hE⟩ := id C0
  obtain ⟨hK, hA⟩ := id hE
  intro n
  induction n with
  | zero =>
    intro mem x6 H locs ls hF hP hS hl
    cases hF
  | succ n ih =>
    intro mem x6 H locs ls hF hP hS hl
    rw [fX9_copy_101] at hF
    refine lv_iload hx hb dX9_copy_101 (lv_at hl 6 rfl) ?_
    refine lv_iload hx hb dX9_copy_103 (lv_at hl 5 rfl) ?_
    refine lv_icmp_ge (tgt := 135) hx hb dX9_copy_105 (by decide) (fun c33 => ?_) (fun c33 => ?_)
    · replace hF := (if_pos c33).symm.trans hF
      refine lv_iconst (v := 0) hx hb dX9_copy_135 (by decide) ?_
      refine lv_istore (lv' := [(6, .int 0), (0, .ref (ad 0)), (1, .int z1), (2, .int z2), (3, .int z3), (4, .int z4), (5, .int z5)]) hx hb dX9_copy_136 hl (by decide) rfl (fun ls hl => ?_)
      exact lpX9_copy_138 g ad z1 z2 z3 z4 z5 r mem2 C0 fu mem 0 _ _ ls hF hP hS (lv_sub hl [1, 2, 3, 4, 5, 6, 0] rfl)
    · replace hF := (if_neg c33).symm.trans hF
      refine lv_aload_n hx hb dX9_copy_108 rfl (lv_at hl 0 rfl) ?_
      refine get_W C0 hK hP iwX9 0 wM_0 rfl 38 (by decide) mF_X9_96 rfl rfl dX9_copy_109 ?_
      refine lv_iload hx hb dX9_copy_112 (lv_at hl 6 rfl) ?_
      refine lv_aload_n hx hb dX9_copy_114 rfl (lv_at hl 0 rfl) ?_
      refine get_W C0 hK hP iwX9 0 wM_0 rfl 30 (by decide) mF_X9_78 rfl rfl dX9_copy_115 ?_
      refine lv_bipush (v := 12) hx hb dX9_copy_118 (by decide) ?_
      refine lv_iload_n hx hb dX9_copy_120 rfl (lv_at hl 1 rfl) ?_
      refine lv_imul hx hb dX9_copy_121 ?_
      refine lv_iload_n hx hb dX9_copy_122 rfl (lv_at hl 2 rfl) ?_
      refine lv_iadd hx hb dX9_copy_123 ?_
      refine lv_iload hx hb dX9_copy_124 (lv_at hl 6 rfl) ?_
      refine lv_iadd hx hb dX9_copy_126 ?_
      obtain ⟨g37, hF⟩ := gI_some hF
      refine va_iald hx hb hK hP 22 0 wM_22 rfl g37 dX9_copy_127 ?_
      obtain ⟨g38, hF⟩ := gI_some hF
      refine iast_W C0 hK hP (wM_D hA) hS 28 wM_28 g38 wM_s28 dX9_copy_128 (fun H locs hP hS => ?_)
      refine lv_iinc (v := x6 + 1) (lv' := [(6, .int (x6 + 1)), (0, .ref (ad 0)), (1, .int z1), (2, .int z2), (3, .int z3), (4, .int z4), (5, .int z5)]) hx hb dX9_copy_129 hl (k := 6) rfl rfl (by decide) rfl (fun ls hl => ?_)
      refine lv_goto (tgt := 101) hx hb dX9_copy_132 (by decide) ?_
      exact ih (up2 mem 28 x6.toNatClampNeg (mem 22 (((12 * z1) + z2) + x6).toNatClampNeg)) (x6 + 1) _ _ ls hF hP hS (lv_sub hl [1, 2, 3, 4, 5, 6, 0] rfl)
def fX9_copy (mem : Mem) (a1 : Int32) (a2 : Int32) (a3 : Int32) (a4 : Int32) (a5 : Int32) : Option (Int32 × Mem) :=
  ob1 (fX9_isSheet a1) (fun r2 => if r2 = 0 then (ob2 (fX9_finding mem (-100001)) (fun r7 m6 => some (r7, m6))) else (ob1 (fX9_isSheet a3) (fun r9 => if r9 = 0 then (ob2 (fX9_finding mem (-100001)) (fun r50 m49 => some (r50, m49))) else (gI a1 4 (if mem 20 a1.toNatClampNeg = 0 then (ob2 (fX9_finding mem (-100002)) (fun r16 m15 => some (r16, m15))) else (gI a3 4 (if mem 20 a3.toNatClampNeg = 0 then (ob2 (fX9_finding mem (-100002)) (fun r47 m46 => some (r47, m46))) else (gI a1 4 (gI a3 4 (if mem 20 a1.toNatClampNeg = mem 20 a3.toNatClampNeg then (ob1 (fX9_hasPart mem a1 a2 a5) (fun r23 => if r23 = 0 then (ob2 (fX9_finding mem (-100001)) (fun r28 m27 => some (r28, m27))) else (ob1 (fX9_hasPart mem a3 a4 a5) (fun r30 => if r30 = 0 then (ob2 (fX9_finding mem (-100001)) (fun r41 m40 => some (r41, m40))) else (fX9_copy_101 a1 a2 a3 a4 a5 fu mem 0))))) else (ob2 (fX9_finding mem (-100004)) (fun r44 m43 => some (r44, m43)))))))))))))
set_option maxHeartbeats 4000000 in
set_option maxRecDepth 100000 in
theorem kX9_copy (l : Launch) (g : gG) (ad : Nat → Nat) (mem : Mem) (a1 : Int32) (a2 : Int32) (a3 : Int32) (a4 : Int32) (a5 : Int32) (r : Int32) (mem2 : Mem) (hF : fX9_copy mem a1 a2 a3 a4 a5 = some (r, mem2)) : Met l yX9_copy (Cond.code yX9_copy cX9_copy 7 (some .int) :: gw) { frames := 3, cells := 0, slots := 0, locals := 66 } (pG (wM g ad mem) (eM g ad) g [.ref (ad 0), .int a1, .int a2, .int a3, .int a4, .int a5]) (qW (wM g ad mem2) g (AW 29 ad) (some (.int r)) (True)) 0 0 (AW 29 ad) := by
  refine met_of (by decide) (Nat.le_of_ble_eq_true rfl) ?_
  intro p e s m args below meth c ls C0 hP hl
  obtain ⟨hx, hb, hml, hown, hts, hr, hlk, hE⟩ := id C0
  obtain ⟨hK, hA⟩ := id hE
  have hl : lv_has ls 7 [(0, .ref (ad 0)), (1, .int a1), (2, .int a2), (3, .int a3), (4, .int a4), (5, .int a5)] := hl
  have hS : va_S (AW 29 ad) s.heap s.heap [] := va_S.rf
  unfold fX9_copy at hF
  refine lv_iload_n hx hb dX9_copy_0 rfl (lv_at hl 1 rfl) ?_
  obtain ⟨r2, h1, hF⟩ := ob_some hF
  refine cS_Ri C0 pkX9_isSheet (As := [.int a1]) (rest := []) (kX9_isSheet l g a1 r2 h1) mL_X9_213 ⟨rfl, rfl, Nat.le_of_ble_eq_true rfl, Nat.le_of_ble_eq_true rfl, Nat.le_of_ble_eq_true rfl, Nat.le_of_ble_eq_true rfl⟩ rfl hl.1 rfl (Nat.le_of_ble_eq_true rfl) dX9_copy_1 (fun b3 => ?_)
  refine lv_if_eq (tgt := 14) hx hb dX9_copy_4 (by decide) (fun c4 => ?_) (fun c4 => ?_)
  · replace hF := (if_pos c4).symm.trans hF
    refine lv_aload_n hx hb dX9_copy_14 rfl (lv_at hl 0 rfl) ?_
    refine lv_ldc hx hb hown (hts _ mK_X9_109) dX9_copy_15 ?_
    obtain ⟨r7, m6, h5, hF⟩ := ob2_some hF
    refine cV_Wi C0 eM_st hP hS hK pkX9_finding (As := [.int (-100001)]) (rest := []) (kX9_finding l g ad mem (-100001) r7 m6 h5) mL_X9_110 ⟨rfl, rfl, Nat.le_of_ble_eq_true rfl, Nat.le_of_ble_eq_true rfl, Nat.le_of_ble_eq_true rfl, Nat.le_of_ble_eq_true rfl⟩ 0 wM_0 rfl rfl rfl hl.1 rfl (Nat.le_of_ble_eq_true rfl) dX9_copy_17 (fun H locs _ hP hS => ?_)
    cases hF
    exact ret_Wi C0 hP hS trivial dX9_copy_20
  · replace hF := (if_neg c4).symm.trans hF
    refine lv_iload_n hx hb dX9_copy_7 rfl (lv_at hl 3 rfl) ?_
    obtain ⟨r9, h8, hF⟩ := ob_some hF
    refine cS_Ri C0 pkX9_isSheet (As := [.int a3]) (rest := []) (kX9_isSheet l g a3 r9 h8) mL_X9_213 ⟨rfl, rfl, Nat.le_of_ble_eq_true rfl, Nat.le_of_ble_eq_true rfl, Nat.le_of_ble_eq_true rfl, Nat.le_of_ble_eq_true rfl⟩ rfl hl.1 rfl (Nat.le_of_ble_eq_true rfl) dX9_copy_8 (fun b10 => ?_)
    refine lv_if_ne (tgt := 21) hx hb dX9_copy_11 (by decide) (fun c11 => ?_) (fun c11 => ?_)
    · replace hF := (if_neg c11).symm.trans hF
      refine lv_aload_n hx hb dX9_copy_21 rfl (lv_at hl 0 rfl) ?_
      refine get_W C0 hK hP iwX9 0 wM_0 rfl 28 (by decide) mF_X9_72 rfl rfl dX9_copy_22 ?_
      refine lv_iload_n hx hb dX9_copy_25 rfl (lv_at hl 1 rfl) ?_
      obtain ⟨g12, hF⟩ := gI_some hF
      refine va_iald hx hb hK hP 20 0 wM_20 rfl g12 dX9_copy_26 ?_
      refine lv_if_eq (tgt := 39) hx hb dX9_copy_27 (by decide) (fun c13 => ?_) (fun c13 => ?_)
      · replace hF := (if_pos c13).symm.trans hF
        refine lv_aload_n hx hb dX9_copy_39 rfl (lv_at hl 0 rfl) ?_
        refine lv_ldc hx hb hown (hts _ mK_X9_216) dX9_copy_40 ?_
        obtain ⟨r16, m15, h14, hF⟩ := ob2_some hF
        refine cV_Wi C0 eM_st hP hS hK pkX9_finding (As := [.int (-100002)]) (rest := []) (kX9_finding l g ad mem (-100002) r16 m15 h14) mL_X9_110 ⟨rfl, rfl, Nat.le_of_ble_eq_true rfl, Nat.le_of_ble_eq_true rfl, Nat.le_of_ble_eq_true rfl, Nat.le_of_ble_eq_true rfl⟩ 0 wM_0 rfl rfl rfl hl.1 rfl (Nat.le_of_ble_eq_true rfl) dX9_copy_42 (fun H locs _ hP hS => ?_)
        cases hF
        exact ret_Wi C0 hP hS trivial dX9_copy_45
      · replace hF := (if_neg c13).symm.trans hF
        refine lv_aload_n hx hb dX9_copy_30 rfl (lv_at hl 0 rfl) ?_
        refine get_W C0 hK hP iwX9 0 wM_0 rfl 28 (by decide) mF_X9_72 rfl rfl dX9_copy_31 ?_
        refine lv_iload_n hx hb dX9_copy_34 rfl (lv_at hl 3 rfl) ?_
        obtain ⟨g17, hF⟩ := gI_some hF
        refine va_iald hx hb hK hP 20 0 wM_20 rfl g17 dX9_copy_35 ?_
        refine lv_if_ne (tgt := 46) hx hb dX9_copy_36 (by decide) (fun c18 => ?_) (fun c18 => ?_)
        · replace hF := (if_neg c18).symm.trans hF
          refine lv_aload_n hx hb dX9_copy_46 rfl (lv_at hl 0 rfl) ?_
          refine get_W C0 hK hP iwX9 0 wM_0 rfl 28 (by decide) mF_X9_72 rfl rfl dX9_copy_47 ?_
          refine lv_iload_n hx hb dX9_copy_50 rfl (lv_at hl 1 rfl) ?_
          obtain ⟨g19, hF⟩ := gI_some hF
          refine va_iald hx hb hK hP 20 0 wM_20 rfl g19 dX9_copy_51 ?_
          refine lv_aload_n hx hb dX9_copy_52 rfl (lv_at hl 0 rfl) ?_
          refine get_W C0 hK hP iwX9 0 wM_0 rfl 28 (by decide) mF_X9_72 rfl rfl dX9_copy_53 ?_
          refine lv_iload_n hx hb dX9_copy_56 rfl (lv_at hl 3 rfl) ?_
          obtain ⟨g20, hF⟩ := gI_some hF
          refine va_iald hx hb hK hP 20 0 wM_20 rfl g20 dX9_copy_57 ?_
          refine lv_icmp_eq (tgt := 68) hx hb dX9_copy_58 (by decide) (fun c21 => ?_) (fun c21 => ?_)
          · replace hF := (if_pos c21).symm.trans hF
            refine lv_aload_n hx hb dX9_copy_68 rfl (lv_at hl 0 rfl) ?_
            refine lv_iload_n hx hb dX9_copy_69 rfl (lv_at hl 1 rfl) ?_
            refine lv_iload_n hx hb dX9_copy_70 rfl (lv_at hl 2 rfl) ?_
            refine lv_iload hx hb dX9_copy_71 (lv_at hl 5 rfl) ?_
            obtain ⟨r23, h22, hF⟩ := ob_some hF
            refine cV_Ri C0 eM_st hP hS hK pkX9_hasPart (As := [.int a1, .int a2, .int a5]) (rest := []) (kX9_hasPart l g ad mem a1 a2 a5 r23 h22) mL_X9_217 ⟨rfl, rfl, Nat.le_of_ble_eq_true rfl, Nat.le_of_ble_eq_true rfl, Nat.le_of_ble_eq_true rfl, Nat.le_of_ble_eq_true rfl⟩ 0 wM_0 rfl rfl rfl hl.1 rfl (Nat.le_of_ble_eq_true rfl) dX9_copy_73 (fun b24 => ?_)
            refine lv_if_eq (tgt := 91) hx hb dX9_copy_76 (by decide) (fun c25 => ?_) (fun c25 => ?_)
            · replace hF := (if_pos c25).symm.trans hF
              refine lv_aload_n hx hb dX9_copy_91 rfl (lv_at hl 0 rfl) ?_
              refine lv_ldc hx hb hown (hts _ mK_X9_109) dX9_copy_92 ?_
              obtain ⟨r28, m27, h26, hF⟩ := ob2_some hF
              refine cV_Wi C0 eM_st hP hS hK pkX9_finding (As := [.int (-100001)]) (rest := []) (kX9_finding l g ad mem (-100001) r28 m27 h26) mL_X9_110 ⟨rfl, rfl, Nat.le_of_ble_eq_true rfl, Nat.le_of_ble_eq_true rfl, Nat.le_of_ble_eq_true rfl, Nat.le_of_ble_eq_true rfl⟩ 0 wM_0 rfl rfl rfl hl.1 rfl (Nat.le_of_ble_eq_true rfl) dX9_copy_94 (fun H locs _ hP hS => ?_)
              cases hF
              exact ret_Wi C0 hP hS trivial dX9_copy_97
            · replace hF := (if_neg c25).symm.trans hF
              refine lv_aload_n hx hb dX9_copy_79 rfl (lv_at hl 0 rfl) ?_
              refine lv_iload_n hx hb dX9_copy_80 rfl (lv_at hl 3 rfl) ?_
              refine lv_iload hx hb dX9_copy_81 (lv_at hl 4 rfl) ?_
              refine lv_iload hx hb dX9_copy_83 (lv_at hl 5 rfl) ?_
              obtain ⟨r30, h29, hF⟩ := ob_some hF
              refine cV_Ri C0 eM_st hP hS hK pkX9_hasPart (As := [.int a3, .int a4, .int a5]) (rest := []) (kX9_hasPart l g ad mem a3 a4 a5 r30 h29) mL_X9_217 ⟨rfl, rfl, Nat.le_of_ble_eq_true rfl, Nat.le_of_ble_eq_true rfl, Nat.le_of_ble_eq_true rfl, Nat.le_of_ble_eq_true rfl⟩ 0 wM_0 rfl rfl rfl hl.1 rfl (Nat.le_of_ble_eq_true rfl) dX9_copy_85 (fun b31 => ?_)
              refine lv_if_ne (tgt := 98) hx hb dX9_copy_88 (by decide) (fun c32 => ?_) (fun c32 => ?_)
              · replace hF := (if_neg c32).symm.trans hF
                refine lv_iconst (v := 0) hx hb dX9_copy_98 (by decide) ?_
                refine lv_istore (lv' := [(6, .int 0), (0, .ref (ad 0)), (1, .int a1), (2, .int a2), (3, .int a3), (4, .int a4), (5, .int a5)]) hx hb dX9_copy_99 hl (by decide) rfl (fun ls hl => ?_)
                exact lpX9_copy_101 g ad a1 a2 a3 a4 a5 r mem2 C0 fu mem 0 _ _ ls hF hP hS (lv_sub hl [1, 2, 3, 4, 5, 6, 0] rfl)
              · replace hF := (if_pos c32).symm.trans hF
                refine lv_aload_n hx hb dX9_copy_91 rfl (lv_at hl 0 rfl) ?_
                refine lv_ldc hx hb hown (hts _ mK_X9_109) dX9_copy_92 ?_
                obtain ⟨r41, m40, h39, hF⟩ := ob2_some hF
                refine cV_Wi C0 eM_st hP hS hK pkX9_finding (As := [.int (-100001)]) (rest := []) (kX9_finding l g ad mem (-100001) r41 m40 h39) mL_X9_110 ⟨rfl, rfl, Nat.le_of_ble_eq_true rfl, Nat.le_of_ble_eq_true rfl, Nat.le_of_ble_eq_true rfl, Nat.le_of_ble_eq_true rfl⟩ 0 wM_0 rfl rfl rfl hl.1 rfl (Nat.le_of_ble_eq_true rfl) dX9_copy_94 (fun H locs _ hP hS => ?_)
                cases hF
                exact ret_Wi C0 hP hS trivial dX9_copy_97
          · replace hF := (if_neg c21).symm.trans hF
            refine lv_aload_n hx hb dX9_copy_61 rfl (lv_at hl 0 rfl) ?_
            refine lv_ldc hx hb hown (hts _ mK_X9_122) dX9_copy_62 ?_
            obtain ⟨r44, m43, h42, hF⟩ := ob2_some hF
            refine cV_Wi C0 eM_st hP hS hK pkX9_finding (As := [.int (-100004)]) (rest := []) (kX9_finding l g ad mem (-100004) r44 m43 h42) mL_X9_110 ⟨rfl, rfl, Nat.le_of_ble_eq_true rfl, Nat.le_of_ble_eq_true rfl, Nat.le_of_ble_eq_true rfl, Nat.le_of_ble_eq_true rfl⟩ 0 wM_0 rfl rfl rfl hl.1 rfl (Nat.le_of_ble_eq_true rfl) dX9_copy_64 (fun H locs _ hP hS => ?_)
            cases hF
            exact ret_Wi C0 hP hS trivial dX9_copy_67
        · replace hF := (if_pos c18).symm.trans hF
          refine lv_aload_n hx hb dX9_copy_39 rfl (lv_at hl 0 rfl) ?_
          refine lv_ldc hx hb hown (hts _ mK_X9_216) dX9_copy_40 ?_
          obtain ⟨r47, m46, h45, hF⟩ := ob2_some hF
          refine cV_Wi C0 eM_st hP hS hK pkX9_finding (As := [.int (-100002)]) (rest := []) (kX9_finding l g ad mem (-100002) r47 m46 h45) mL_X9_110 ⟨rfl, rfl, Nat.le_of_ble_eq_true rfl, Nat.le_of_ble_eq_true rfl, Nat.le_of_ble_eq_true rfl, Nat.le_of_ble_eq_true rfl⟩ 0 wM_0 rfl rfl rfl hl.1 rfl (Nat.le_of_ble_eq_true rfl) dX9_copy_42 (fun H locs _ hP hS => ?_)
          cases hF
          exact ret_Wi C0 hP hS trivial dX9_copy_45
    · replace hF := (if_pos c11).symm.trans hF
      refine lv_aload_n hx hb dX9_copy_14 rfl (lv_at hl 0 rfl) ?_
      refine lv_ldc hx hb hown (hts _ mK_X9_109) dX9_copy_15 ?_
      obtain ⟨r50, m49, h48, hF⟩ := ob2_some hF
      refine cV_Wi C0 eM_st hP hS hK pkX9_finding (As := [.int (-100001)]) (rest := []) (kX9_finding l g ad mem (-100001) r50 m49 h48) mL_X9_110 ⟨rfl, rfl, Nat.le_of_ble_eq_true rfl, Nat.le_of_ble_eq_true rfl, Nat.le_of_ble_eq_true rfl, Nat.le_of_ble_eq_true rfl⟩ 0 wM_0 rfl rfl rfl hl.1 rfl (Nat.le_of_ble_eq_true rfl) dX9_copy_17 (fun H locs _ hP hS => ?_)
      cases hF
      exact ret_Wi C0 hP hS trivial dX9_copy_20
theorem pkX9_read : pkV yX9_read cX9_read 7 (some .int) RX9 1 := ⟨mI_X9_read, mS_X9_read, mN_X9, mC_X9_read, by decide +kernel⟩
def fX9_read_200 (z1 : Int32) (z2 : Int32) (z3 : Int32) (z4 : Int32) : Nat → Mem → Int32 → Option (Int32 × Mem)
  | 0, _, _ => none
  | n + 1, mem, x5 =>
    if z2 ≤ x5 then (some (z2, up2 mem 0 9 z2)) else (gI ((12 * z1) + x5) 48 (gI x5 6 (fX9_read_200 z1 z2 z3 z4 n (up2 mem 8 x5.toNatClampNeg (mem 22 ((12 * z1) + x5).toNatClampNeg)) (x5 + 1))))
set_option maxHeartbeats 4000000 in
set_option maxRecDepth 100000 in
theorem lpX9_read_200 {p : Program} {l : Launch} {e : Env} {s : State} {m : MethodId} {args : Array Value} {below : List Frame} {meth : Method} {c : Code} (g : gG) (ad : Nat → Nat) (z1 : Int32) (z2 : Int32) (z3 : Int32) (z4 : Int32) (r : Int32) (mem2 : Mem) (C0 : cxt (eM g ad) cX9_read 7 RX9 (some .int) p s m args meth c) :
    ∀ (n : Nat) (mem : Mem) (x5 : Int32) (H : Heap) (locs : List Loc) (ls : Array Slot), fX9_read_200 z1 z2 z3 z4 n mem x5 = some (r, mem2) → va_P g.1 vwCl (wM g ad mem) H → va_S (AW 29 ad) s.heap H locs → lv_has ls 7 [(0, .ref (ad 0)), (1, .int z1), (2, .int z2), (3, .int z3), (4, .int z4), (5, .int x5)] → W p l e { frames := 3, cells := 0, slots := 0, locals := 66 } s m args below meth c H locs 0 0 (MQ below (qW (wM g ad mem2) g (AW 29 ad) (some (.int r)) (True)) args s 0 0 (AW 29 ad)) (F0 m 200 ls []) := by
  obtain ⟨hx, hb, hml, hown, hts, hr, hlk, hE⟩ := id C0
  obtain ⟨hK, hA⟩ := id hE
  intro n
  induction n with
  | zero =>
    intro mem x5 H locs ls hF hP hS hl
    cases hF
  | succ n ih =>
    intro mem x5 H locs ls hF hP hS hl
    rw [fX9_read_200] at hF
    refine lv_iload hx hb dX9_read_200 (lv_at hl 5 rfl) ?_
    refine lv_iload_n hx hb dX9_read_202 rfl (lv_at hl 2 rfl) ?_
    refine lv_icmp_ge (tgt := 231) hx hb dX9_read_203 (by decide) (fun c35 => ?_) (fun c35 => ?_)
    · replace hF := (if_pos c35).symm.trans hF
      refine lv_aload_n hx hb dX9_read_231 rfl (lv_at hl 0 rfl) ?_
      refine lv_iload_n hx hb dX9_read_232 rfl (lv_at hl 2 rfl) ?_
      refine put_W (k := 9) C0 hK hP (wM_D hA) hS iwX9 tyX9_ok nmX9 0 wM_0 rfl (by decide) mF_X9_146 rfl rfl rfl rfl (Nat.le_of_ble_eq_true rfl) wM_s0_9 dX9_read_233 (fun H locs hP hS => ?_)
      refine lv_iload_n hx hb dX9_read_236 rfl (lv_at hl 2 rfl) ?_
      cases hF
      exact ret_Wi C0 hP hS trivial dX9_read_237
    · replace hF := (if_neg c35).symm.trans hF
      refine lv_aload_n hx hb dX9_read_206 rfl (lv_at hl 0 rfl) ?_
      refine get_W C0 hK hP iwX9 0 wM_0 rfl 10 (by decide) mF_X9_32 rfl rfl dX9_read_207 ?_
      refine lv_iload hx hb dX9_read_210 (lv_at hl 5 rfl) ?_
      refine lv_aload_n hx hb dX9_read_212 rfl (lv_at hl 0 rfl) ?_
      refine get_W C0 hK hP iwX9 0 wM_0 rfl 30 (by decide) mF_X9_78 rfl rfl dX9_read_213 ?_
      refine lv_bipush (v := 12) hx hb dX9_read_216 (by decide) ?_
      refine lv_iload_n hx hb dX9_read_218 rfl (lv_at hl 1 rfl) ?_
      refine lv_imul hx hb dX9_read_219 ?_
      refine lv_iload hx hb dX9_read_220 (lv_at hl 5 rfl) ?_
      refine lv_iadd hx hb dX9_read_222 ?_
      obtain ⟨g36, hF⟩ := gI_some hF
      refine va_iald hx hb hK hP 22 0 wM_22 rfl g36 dX9_read_223 ?_
      obtain ⟨g37, hF⟩ := gI_some hF
      refine iast_W C0 hK hP (wM_D hA) hS 8 wM_8 g37 wM_s8 dX9_read_224 (fun H locs hP hS => ?_)
      refine lv_iinc (v := x5 + 1) (lv' := [(5, .int (x5 + 1)), (0, .ref (ad 0)), (1, .int z1), (2, .int z2), (3, .int z3), (4, .int z4)]) hx hb dX9_read_225 hl (k := 5) rfl rfl (by decide) rfl (fun ls hl => ?_)
      refine lv_goto (tgt := 200) hx hb dX9_read_228 (by decide) ?_
      exact ih (up2 mem 8 x5.toNatClampNeg (mem 22 ((12 * z1) + x5).toNatClampNeg)) (x5 + 1) _ _ ls hF hP hS (lv_sub hl [1, 2, 3, 4, 5, 0] rfl)
def fX9_read_100 (mem : Mem) (z1 : Int32) (z2 : Int32) (z3 : Int32) (z5 : Int32) (kc : Int32 → Int32 → Int32 → Option (Int32 × Mem)) : Nat → Int32 → Int32 → Option (Int32 × Mem)
  | 0, _, _ => none
  | n + 1, x4, x6 =>
    if z5 ≤ x6 then (kc z3 x4 (z5 + 1)) else (gI ((12 * z1) + z5) 48 (gI ((12 * z1) + x6) 48 (if mem 22 ((12 * z1) + z5).toNatClampNeg = mem 22 ((12 * z1) + x6).toNatClampNeg then (fX9_read_100 mem z1 z2 z3 z5 kc n (x4 ||| 1) (x6 + 1)) else (fX9_read_100 mem z1 z2 z3 z5 kc n (x4 ||| 0) (x6 + 1)))))
set_option maxHeartbeats 4000000 in
set_option maxRecDepth 100000 in
theorem lpX9_read_100 {p : Program} {l : Launch} {e : Env} {s : State} {m : MethodId} {args : Array Value} {below : List Frame} {meth : Method} {c : Code} (g : gG) (ad : Nat → Nat) (mem : Mem) (z1 : Int32) (z2 : Int32) (z3 : Int32) (z5 : Int32) (kc : Int32 → Int32 → Int32 → Option (Int32 × Mem)) (r : Int32) (mem2 : Mem) (C0 : cxt (eM g ad) cX9_read 7 RX9 (some .int) p s m args meth c)
    (hkc : ∀ (x3 : Int32) (x4 : Int32) (x5 : Int32) (H : Heap) (locs : List Loc) (ls : Array Slot), kc x3 x4 x5 = some (r, mem2) → va_P g.1 vwCl (wM g ad mem) H → va_S (AW 29 ad) s.heap H locs → lv_has ls 7 [(0, .ref (ad 0)), (1, .int z1), (2, .int z2), (3, .int x3), (4, .int x4), (5, .int x5)] → W p l e { frames := 3, cells := 0, slots := 0, locals := 66 } s m args below meth c H locs 0 0 (MQ below (qW (wM g ad mem2) g (AW 29 ad) (some (.int r)) (True)) args s 0 0 (AW 29 ad)) (F0 m 70 ls [])) :
    ∀ (n : Nat) (x4 : Int32) (x6 : Int32) (H : Heap) (locs : List Loc) (ls : Array Slot), fX9_read_100 mem z1 z2 z3 z5 kc n x4 x6 = some (r, mem2) → va_P g.1 vwCl (wM g ad mem) H → va_S (AW 29 ad) s.heap H locs → lv_has ls 7 [(0, .ref (ad 0)), (1, .int z1), (2, .int z2), (3, .int z3), (4, .int x4), (5, .int z5), (6, .int x6)] → W p l e { frames := 3, cells := 0, slots := 0, locals := 66 } s m args below meth c H locs 0 0 (MQ below (qW (wM g ad mem2) g (AW 29 ad) (some (.int r)) (True)) args s 0 0 (AW 29 ad)) (F0 m 100 ls []) := by
  obtain ⟨hx, hb, hml, hown, hts, hr, hlk, hE⟩ := id C0
  obtain ⟨hK, hA⟩ := id hE
  intro n
  induction n with
  | zero =>
    intro x4 x6 H locs ls hF hP hS hl
    cases hF
  | succ n ih =>
    intro x4 x6 H locs ls hF hP hS hl
    rw [fX9_read_100] at hF
    refine lv_iload hx hb dX9_read_100 (lv_at hl 6 rfl) ?_
    refine lv_iload hx hb dX9_read_102 (lv_at hl 5 rfl) ?_
    refine lv_icmp_ge (tgt := 150) hx hb dX9_read_104 (by decide) (fun c53 => ?_) (fun c53 => ?_)
    · replace hF := (if_pos c53).symm.trans hF
      refine lv_iinc (v := z5 + 1) (lv' := [(5, .int (z5 + 1)), (0, .ref (ad 0)), (1, .int z1), (2, .int z2), (3, .int z3), (4, .int x4), (6, .int x6)]) hx hb dX9_read_150 hl (k := 5) rfl rfl (by decide) rfl (fun ls hl => ?_)
      refine lv_goto (tgt := 70) hx hb dX9_read_153 (by decide) ?_
      exact hkc z3 x4 (z5 + 1) _ _ ls hF hP hS (lv_sub hl [1, 2, 3, 4, 5, 0] rfl)
    · replace hF := (if_neg c53).symm.trans hF
      refine lv_iload hx hb dX9_read_107 (lv_at hl 4 rfl) ?_
      refine lv_aload_n hx hb dX9_read_109 rfl (lv_at hl 0 rfl) ?_
      refine get_W C0 hK hP iwX9 0 wM_0 rfl 30 (by decide) mF_X9_78 rfl rfl dX9_read_110 ?_
      refine lv_bipush (v := 12) hx hb dX9_read_113 (by decide) ?_
      refine lv_iload_n hx hb dX9_read_115 rfl (lv_at hl 1 rfl) ?_
      refine lv_imul hx hb dX9_read_116 ?_
      refine lv_iload hx hb dX9_read_117 (lv_at hl 5 rfl) ?_
      refine lv_iadd hx hb dX9_read_119 ?_
      obtain ⟨g54, hF⟩ := gI_some hF
      refine va_iald hx hb hK hP 22 0 wM_22 rfl g54 dX9_read_120 ?_
      refine lv_aload_n hx hb dX9_read_121 rfl (lv_at hl 0 rfl) ?_
      refine get_W C0 hK hP iwX9 0 wM_0 rfl 30 (by decide) mF_X9_78 rfl rfl dX9_read_122 ?_
      refine lv_bipush (v := 12) hx hb dX9_read_125 (by decide) ?_
      refine lv_iload_n hx hb dX9_read_127 rfl (lv_at hl 1 rfl) ?_
      refine lv_imul hx hb dX9_read_128 ?_
      refine lv_iload hx hb dX9_read_129 (lv_at hl 6 rfl) ?_
      refine lv_iadd hx hb dX9_read_131 ?_
      obtain ⟨g55, hF⟩ := gI_some hF
      refine va_iald hx hb hK hP 22 0 wM_22 rfl g55 dX9_read_132 ?_
      refine lv_icmp_ne (tgt := 140) hx hb dX9_read_133 (by decide) (fun c56 => ?_) (fun c56 => ?_)
      · replace hF := (if_neg c56).symm.trans hF
        refine lv_iconst (v := 0) hx hb dX9_read_140 (by decide) ?_
        refine lv_ior hx hb dX9_read_141 ?_
        refine lv_istore (lv' := [(4, .int (x4 ||| 0)), (0, .ref (ad 0)), (1, .int z1), (2, .int z2), (3, .int z3), (5, .int z5), (6, .int x6)]) hx hb dX9_read_142 hl (by decide) rfl (fun ls hl => ?_)
        refine lv_iinc (v := x6 + 1) (lv' := [(6, .int (x6 + 1)), (4, .int (x4 ||| 0)), (0, .ref (ad 0)), (1, .int z1), (2, .int z2), (3, .int z3), (5, .int z5)]) hx hb dX9_read_144 hl (k := 6) rfl rfl (by decide) rfl (fun ls hl => ?_)
        refine lv_goto (tgt := 100) hx hb dX9_read_147 (by decide) ?_
        exact ih (x4 ||| 0) (x6 + 1) _ _ ls hF hP hS (lv_sub hl [2, 3, 4, 5, 1, 6, 0] rfl)
      · replace hF := (if_pos c56).symm.trans hF
        refine lv_iconst (v := 1) hx hb dX9_read_136 (by decide) ?_
        refine lv_goto (tgt := 141) hx hb dX9_read_137 (by decide) ?_
        refine lv_ior hx hb dX9_read_141 ?_
        refine lv_istore (lv' := [(4, .int (x4 ||| 1)), (0, .ref (ad 0)), (1, .int z1), (2, .int z2), (3, .int z3), (5, .int z5), (6, .int x6)]) hx hb dX9_read_142 hl (by decide) rfl (fun ls hl => ?_)
        refine lv_iinc (v := x6 + 1) (lv' := [(6, .int (x6 + 1)), (4, .int (x4 ||| 1)), (0, .ref (ad 0)), (1, .int z1), (2, .int z2), (3, .int z3), (5, .int z5)]) hx hb dX9_read_144 hl (k := 6) rfl rfl (by decide) rfl (fun ls hl => ?_)
        refine lv_goto (tgt := 100) hx hb dX9_read_147 (by decide) ?_
        exact ih (x4 ||| 1) (x6 + 1) _ _ ls hF hP hS (lv_sub hl [2, 3, 4, 5, 1, 6, 0] rfl)
def fX9_read_70 (mem : Mem) (z1 : Int32) (z2 : Int32) : Nat → Int32 → Int32 → Int32 → Option (Int32 × Mem)
  | 0, _, _, _ => none
  | n + 1, x3, x4, x5 =>
    if z2 ≤ x5 then (if x3 = 0 then (if x3 = 0 then (ob2 (fX9_finding mem (-100001)) (fun r21 m20 => some (r21, m20))) else (if x4 = 0 then (ob2 (fX9_finding mem (-100005)) (fun r15 m14 => some (r15, m14))) else (ob2 (fX9_finding mem (-100003)) (fun r18 m17 => some (r18, m17))))) else (if x4 = 0 then (if z2 ≤ 6 then (fX9_read_200 z1 z2 x3 x4 fu mem 0) else (if x3 = 0 then (ob2 (fX9_finding mem (-100001)) (fun r48 m47 => some (r48, m47))) else (if x4 = 0 then (ob2 (fX9_finding mem (-100005)) (fun r42 m41 => some (r42, m41))) else (ob2 (fX9_finding mem (-100003)) (fun r45 m44 => some (r45, m44)))))) else (if x3 = 0 then (ob2 (fX9_finding mem (-100001)) (fun r33 m32 => some (r33, m32))) else (if x4 = 0 then (ob2 (fX9_finding mem (-100005)) (fun r27 m26 => some (r27, m26))) else (ob2 (fX9_finding mem (-100003)) (fun r30 m29 => some (r30, m29))))))) else (gI ((12 * z1) + x5) 48 (ob1 (fX9_isIn (mem 22 ((12 * z1) + x5).toNatClampNeg) 1 9) (fun r51 => fX9_read_100 mem z1 z2 (x3 &&& r51) x5 (fX9_read_70 mem z1 z2 n) fu x4 0)))
set_option maxHeartbeats 4000000 in
set_option maxRecDepth 100000 in
theorem lpX9_read_70 {p : Program} {l : Launch} {e : Env} {s : State} {m : MethodId} {args : Array Value} {below : List Frame} {meth : Method} {c : Code} (g : gG) (ad : Nat → Nat) (mem : Mem) (z1 : Int32) (z2 : Int32) (r : Int32) (mem2 : Mem) (C0 : cxt (eM g ad) cX9_read 7 RX9 (some .int) p s m args meth c) :
    ∀ (n : Nat) (x3 : Int32) (x4 : Int32) (x5 : Int32) (H : Heap) (locs : List Loc) (ls : Array Slot), fX9_read_70 mem z1 z2 n x3 x4 x5 = some (r, mem2) → va_P g.1 vwCl (wM g ad mem) H → va_S (AW 29 ad) s.heap H locs → lv_has ls 7 [(0, .ref (ad 0)), (1, .int z1), (2, .int z2), (3, .int x3), (4, .int x4), (5, .int x5)] → W p l e { frames := 3, cells := 0, slots := 0, locals := 66 } s m args below meth c H locs 0 0 (MQ below (qW (wM g ad mem2) g (AW 29 ad) (some (.int r)) (True)) args s 0 0 (AW 29 ad)) (F0 m 70 ls []) := by
  obtain ⟨hx, hb, hml, hown, hts, hr, hlk, hE⟩ := id C0
  obtain ⟨hK, hA⟩ := id hE
  intro n
  induction n with
  | zero =>
    intro x3 x4 x5 H locs ls hF hP hS hl
    cases hF
  | succ n ih =>
    intro x3 x4 x5 H locs ls hF hP hS hl
    rw [fX9_read_70] at hF
    refine lv_iload hx hb dX9_read_70 (lv_at hl 5 rfl) ?_
    refine lv_iload_n hx hb dX9_read_72 rfl (lv_at hl 2 rfl) ?_
    refine lv_icmp_ge (tgt := 156) hx hb dX9_read_73 (by decide) (fun c9 => ?_) (fun c9 => ?_)
    · replace hF := (if_pos c9).symm.trans hF
      refine lv_iload_n hx hb dX9_read_156 rfl (lv_at hl 3 rfl) ?_
      refine lv_if_eq (tgt := 171) hx hb dX9_read_157 (by decide) (fun c10 => ?_) (fun c10 => ?_)
      · replace hF := (if_pos c10).symm.trans hF
        refine lv_aload_n hx hb dX9_read_171 rfl (lv_at hl 0 rfl) ?_
        refine lv_iload_n hx hb dX9_read_172 rfl (lv_at hl 3 rfl) ?_
        refine lv_if_ne (tgt := 181) hx hb dX9_read_173 (by decide) (fun c11 => ?_) (fun c11 => ?_)
        · replace hF := (if_neg c11).symm.trans hF
          refine lv_iload hx hb dX9_read_181 (lv_at hl 4 rfl) ?_
          refine lv_if_eq (tgt := 191) hx hb dX9_read_183 (by decide) (fun c12 => ?_) (fun c12 => ?_)
          · replace hF := (if_pos c12).symm.trans hF
            refine lv_ldc hx hb hown (hts _ mK_X9_114) dX9_read_191 ?_
            obtain ⟨r15, m14, h13, hF⟩ := ob2_some hF
            refine cV_Wi C0 eM_st hP hS hK pkX9_finding (As := [.int (-100005)]) (rest := []) (kX9_finding l g ad mem (-100005) r15 m14 h13) mL_X9_110 ⟨rfl, rfl, Nat.le_of_ble_eq_true rfl, Nat.le_of_ble_eq_true rfl, Nat.le_of_ble_eq_true rfl, Nat.le_of_ble_eq_true rfl⟩ 0 wM_0 rfl rfl rfl hl.1 rfl (Nat.le_of_ble_eq_true rfl) dX9_read_193 (fun H locs _ hP hS => ?_)
            cases hF
            exact ret_Wi C0 hP hS trivial dX9_read_196
          · replace hF := (if_neg c12).symm.trans hF
            refine lv_ldc hx hb hown (hts _ mK_X9_136) dX9_read_186 ?_
            refine lv_goto (tgt := 193) hx hb dX9_read_188 (by decide) ?_
            obtain ⟨r18, m17, h16, hF⟩ := ob2_some hF
            refine cV_Wi C0 eM_st hP hS hK pkX9_finding (As := [.int (-100003)]) (rest := []) (kX9_finding l g ad mem (-100003) r18 m17 h16) mL_X9_110 ⟨rfl, rfl, Nat.le_of_ble_eq_true rfl, Nat.le_of_ble_eq_true rfl, Nat.le_of_ble_eq_true rfl, Nat.le_of_ble_eq_true rfl⟩ 0 wM_0 rfl rfl rfl hl.1 rfl (Nat.le_of_ble_eq_true rfl) dX9_read_193 (fun H locs _ hP hS => ?_)
            cases hF
            exact ret_Wi C0 hP hS trivial dX9_read_196
        · replace hF := (if_pos c11).symm.trans hF
          refine lv_ldc hx hb hown (hts _ mK_X9_109) dX9_read_176 ?_
          refine lv_goto (tgt := 193) hx hb dX9_read_178 (by decide) ?_
          obtain ⟨r21, m20, h19, hF⟩ := ob2_some hF
          refine cV_Wi C0 eM_st hP hS hK pkX9_finding (As := [.int (-100001)]) (rest := []) (kX9_finding l g ad mem (-100001) r21 m20 h19) mL_X9_110 ⟨rfl, rfl, Nat.le_of_ble_eq_true rfl, Nat.le_of_ble_eq_true rfl, Nat.le_of_ble_eq_true rfl, Nat.le_of_ble_eq_true rfl⟩ 0 wM_0 rfl rfl rfl hl.1 rfl (Nat.le_of_ble_eq_true rfl) dX9_read_193 (fun H locs _ hP hS => ?_)
          cases hF
          exact ret_Wi C0 hP hS trivial dX9_read_196
      · replace hF := (if_neg c10).symm.trans hF
        refine lv_iload hx hb dX9_read_160 (lv_at hl 4 rfl) ?_
        refine lv_if_ne (tgt := 171) hx hb dX9_read_162 (by decide) (fun c22 => ?_) (fun c22 => ?_)
        · replace hF := (if_neg c22).symm.trans hF
          refine lv_aload_n hx hb dX9_read_171 rfl (lv_at hl 0 rfl) ?_
          refine lv_iload_n hx hb dX9_read_172 rfl (lv_at hl 3 rfl) ?_
          refine lv_if_ne (tgt := 181) hx hb dX9_read_173 (by decide) (fun c23 => ?_) (fun c23 => ?_)
          · replace hF := (if_neg c23).symm.trans hF
            refine lv_iload hx hb dX9_read_181 (lv_at hl 4 rfl) ?_
            refine lv_if_eq (tgt := 191) hx hb dX9_read_183 (by decide) (fun c24 => ?_) (fun c24 => ?_)
            · replace hF := (if_pos c24).symm.trans hF
              refine lv_ldc hx hb hown (hts _ mK_X9_114) dX9_read_191 ?_
              obtain ⟨r27, m26, h25, hF⟩ := ob2_some hF
              refine cV_Wi C0 eM_st hP hS hK pkX9_finding (As := [.int (-100005)]) (rest := []) (kX9_finding l g ad mem (-100005) r27 m26 h25) mL_X9_110 ⟨rfl, rfl, Nat.le_of_ble_eq_true rfl, Nat.le_of_ble_eq_true rfl, Nat.le_of_ble_eq_true rfl, Nat.le_of_ble_eq_true rfl⟩ 0 wM_0 rfl rfl rfl hl.1 rfl (Nat.le_of_ble_eq_true rfl) dX9_read_193 (fun H locs _ hP hS => ?_)
              cases hF
              exact ret_Wi C0 hP hS trivial dX9_read_196
            · replace hF := (if_neg c24).symm.trans hF
              refine lv_ldc hx hb hown (hts _ mK_X9_136) dX9_read_186 ?_
              refine lv_goto (tgt := 193) hx hb dX9_read_188 (by decide) ?_
              obtain ⟨r30, m29, h28, hF⟩ := ob2_some hF
              refine cV_Wi C0 eM_st hP hS hK pkX9_finding (As := [.int (-100003)]) (rest := []) (kX9_finding l g ad mem (-100003) r30 m29 h28) mL_X9_110 ⟨rfl, rfl, Nat.le_of_ble_eq_true rfl, Nat.le_of_ble_eq_true rfl, Nat.le_of_ble_eq_true rfl, Nat.le_of_ble_eq_true rfl⟩ 0 wM_0 rfl rfl rfl hl.1 rfl (Nat.le_of_ble_eq_true rfl) dX9_read_193 (fun H locs _ hP hS => ?_)
              cases hF
              exact ret_Wi C0 hP hS trivial dX9_read_196
          · replace hF := (if_pos c23).symm.trans hF
            refine lv_ldc hx hb hown (hts _ mK_X9_109) dX9_read_176 ?_
            refine lv_goto (tgt := 193) hx hb dX9_read_178 (by decide) ?_
            obtain ⟨r33, m32, h31, hF⟩ := ob2_some hF
            refine cV_Wi C0 eM_st hP hS hK pkX9_finding (As := [.int (-100001)]) (rest := []) (kX9_finding l g ad mem (-100001) r33 m32 h31) mL_X9_110 ⟨rfl, rfl, Nat.le_of_ble_eq_true rfl, Nat.le_of_ble_eq_true rfl, Nat.le_of_ble_eq_true rfl, Nat.le_of_ble_eq_true rfl⟩ 0 wM_0 rfl rfl rfl hl.1 rfl (Nat.le_of_ble_eq_true rfl) dX9_read_193 (fun H locs _ hP hS => ?_)
            cases hF
            exact ret_Wi C0 hP hS trivial dX9_read_196
        · replace hF := (if_pos c22).symm.trans hF
          refine lv_iload_n hx hb dX9_read_165 rfl (lv_at hl 2 rfl) ?_
          refine lv_bipush (v := 6) hx hb dX9_read_166 (by decide) ?_
          refine lv_icmp_le (tgt := 197) hx hb dX9_read_168 (by decide) (fun c34 => ?_) (fun c34 => ?_)
          · replace hF := (if_pos c34).symm.trans hF
            refine lv_iconst (v := 0) hx hb dX9_read_197 (by decide) ?_
            refine lv_istore (lv' := [(5, .int 0), (0, .ref (ad 0)), (1, .int z1), (2, .int z2), (3, .int x3), (4, .int x4)]) hx hb dX9_read_198 hl (by decide) rfl (fun ls hl => ?_)
            exact lpX9_read_200 g ad z1 z2 x3 x4 r mem2 C0 fu mem 0 _ _ ls hF hP hS (lv_sub hl [1, 2, 3, 4, 5, 0] rfl)
          · replace hF := (if_neg c34).symm.trans hF
            refine lv_aload_n hx hb dX9_read_171 rfl (lv_at hl 0 rfl) ?_
            refine lv_iload_n hx hb dX9_read_172 rfl (lv_at hl 3 rfl) ?_
            refine lv_if_ne (tgt := 181) hx hb dX9_read_173 (by decide) (fun c38 => ?_) (fun c38 => ?_)
            · replace hF := (if_neg c38).symm.trans hF
              refine lv_iload hx hb dX9_read_181 (lv_at hl 4 rfl) ?_
              refine lv_if_eq (tgt := 191) hx hb dX9_read_183 (by decide) (fun c39 => ?_) (fun c39 => ?_)
              · replace hF := (if_pos c39).symm.trans hF
                refine lv_ldc hx hb hown (hts _ mK_X9_114) dX9_read_191 ?_
                obtain ⟨r42, m41, h40, hF⟩ := ob2_some hF
                refine cV_Wi C0 eM_st hP hS hK pkX9_finding (As := [.int (-100005)]) (rest := []) (kX9_finding l g ad mem (-100005) r42 m41 h40) mL_X9_110 ⟨rfl, rfl, Nat.le_of_ble_eq_true rfl, Nat.le_of_ble_eq_true rfl, Nat.le_of_ble_eq_true rfl, Nat.le_of_ble_eq_true rfl⟩ 0 wM_0 rfl rfl rfl hl.1 rfl (Nat.le_of_ble_eq_true rfl) dX9_read_193 (fun H locs _ hP hS => ?_)
                cases hF
                exact ret_Wi C0 hP hS trivial dX9_read_196
              · replace hF := (if_neg c39).symm.trans hF
                refine lv_ldc hx hb hown (hts _ mK_X9_136) dX9_read_186 ?_
                refine lv_goto (tgt := 193) hx hb dX9_read_188 (by decide) ?_
                obtain ⟨r45, m44, h43, hF⟩ := ob2_some hF
                refine cV_Wi C0 eM_st hP hS hK pkX9_finding (As := [.int (-100003)]) (rest := []) (kX9_finding l g ad mem (-100003) r45 m44 h43) mL_X9_110 ⟨rfl, rfl, Nat.le_of_ble_eq_true rfl, Nat.le_of_ble_eq_true rfl, Nat.le_of_ble_eq_true rfl, Nat.le_of_ble_eq_true rfl⟩ 0 wM_0 rfl rfl rfl hl.1 rfl (Nat.le_of_ble_eq_true rfl) dX9_read_193 (fun H locs _ hP hS => ?_)
                cases hF
                exact ret_Wi C0 hP hS trivial dX9_read_196
            · replace hF := (if_pos c38).symm.trans hF
              refine lv_ldc hx hb hown (hts _ mK_X9_109) dX9_read_176 ?_
              refine lv_goto (tgt := 193) hx hb dX9_read_178 (by decide) ?_
              obtain ⟨r48, m47, h46, hF⟩ := ob2_some hF
              refine cV_Wi C0 eM_st hP hS hK pkX9_finding (As := [.int (-100001)]) (rest := []) (kX9_finding l g ad mem (-100001) r48 m47 h46) mL_X9_110 ⟨rfl, rfl, Nat.le_of_ble_eq_true rfl, Nat.le_of_ble_eq_true rfl, Nat.le_of_ble_eq_true rfl, Nat.le_of_ble_eq_true rfl⟩ 0 wM_0 rfl rfl rfl hl.1 rfl (Nat.le_of_ble_eq_true rfl) dX9_read_193 (fun H locs _ hP hS => ?_)
              cases hF
              exact ret_Wi C0 hP hS trivial dX9_read_196
    · replace hF := (if_neg c9).symm.trans hF
      refine lv_iload_n hx hb dX9_read_76 rfl (lv_at hl 3 rfl) ?_
      refine lv_aload_n hx hb dX9_read_77 rfl (lv_at hl 0 rfl) ?_
      refine get_W C0 hK hP iwX9 0 wM_0 rfl 30 (by decide) mF_X9_78 rfl rfl dX9_read_78 ?_
      refine lv_bipush (v := 12) hx hb dX9_read_81 (by decide) ?_
      refine lv_iload_n hx hb dX9_read_83 rfl (lv_at hl 1 rfl) ?_
      refine lv_imul hx hb dX9_read_84 ?_
      refine lv_iload hx hb dX9_read_85 (lv_at hl 5 rfl) ?_
      refine lv_iadd hx hb dX9_read_87 ?_
      obtain ⟨g49, hF⟩ := gI_some hF
      refine va_iald hx hb hK hP 22 0 wM_22 rfl g49 dX9_read_88 ?_
      refine lv_iconst (v := 1) hx hb dX9_read_89 (by decide) ?_
      refine lv_bipush (v := 9) hx hb dX9_read_90 (by decide) ?_
      obtain ⟨r51, h50, hF⟩ := ob_some hF
      refine cS_Ri C0 pkX9_isIn (As := [.int (mem 22 ((12 * z1) + x5).toNatClampNeg), .int 1, .int 9]) (rest := [.int x3]) (kX9_isIn l g (mem 22 ((12 * z1) + x5).toNatClampNeg) 1 9 r51 h50) mL_X9_105 ⟨rfl, rfl, Nat.le_of_ble_eq_true rfl, Nat.le_of_ble_eq_true rfl, Nat.le_of_ble_eq_true rfl, Nat.le_of_ble_eq_true rfl⟩ rfl hl.1 rfl (Nat.le_of_ble_eq_true rfl) dX9_read_92 (fun b52 => ?_)
      refine lv_iand hx hb dX9_read_95 ?_
      refine lv_istore_n (lv' := [(3, .int (x3 &&& r51)), (0, .ref (ad 0)), (1, .int z1), (2, .int z2), (4, .int x4), (5, .int x5)]) hx hb dX9_read_96 rfl hl (by decide) rfl (fun ls hl => ?_)
      refine lv_iconst (v := 0) hx hb dX9_read_97 (by decide) ?_
      refine lv_istore (lv' := [(6, .int 0), (3, .int (x3 &&& r51)), (0, .ref (ad 0)), (1, .int z1), (2, .int z2), (4, .int x4), (5, .int x5)]) hx hb dX9_read_98 hl (by decide) rfl (fun ls hl => ?_)
      exact lpX9_read_100 g ad mem z1 z2 (x3 &&& r51) x5 (fX9_read_70 mem z1 z2 n) r mem2 C0 ih fu x4 0 _ _ ls hF hP hS (lv_sub hl [2, 3, 4, 1, 5, 6, 0] rfl)
def fX9_read_32 (mem : Mem) (z1 : Int32) : Nat → Int32 → Option (Int32 × Mem)
  | 0, _ => none
  | n + 1, x2 =>
    gI z1 4 (if mem 21 z1.toNatClampNeg ≤ x2 then (fX9_read_70 mem z1 x2 fu 1 0 0) else (gI ((12 * z1) + x2) 48 (if mem 22 ((12 * z1) + x2).toNatClampNeg = 0 then (fX9_read_70 mem z1 x2 fu 1 0 0) else (fX9_read_32 mem z1 n (x2 + 1)))))
set_option maxHeartbeats 4000000 in
set_option maxRecDepth 100000 in
theorem lpX9_read_32 {p : Program} {l : Launch} {e : Env} {s : State} {m : MethodId} {args : Array Value} {below : List Frame} {meth : Method} {c : Code} (g : gG) (ad : Nat → Nat) (mem : Mem) (z1 : Int32) (r : Int32) (mem2 : Mem) (C0 : cxt (eM g ad) cX9_read 7 RX9 (some .int) p s m args meth c) :
    ∀ (n : Nat) (x2 : Int32) (H : Heap) (locs : List Loc) (ls : Array Slot), fX9_read_32 mem z1 n x2 = some (r, mem2) → va_P g.1 vwCl (wM g ad mem) H → va_S (AW 29 ad) s.heap H locs → lv_has ls 7 [(0, .ref (ad 0)), (1, .int z1), (2, .int x2)] → W p l e { frames := 3, cells := 0, slots := 0, locals := 66 } s m args below meth c H locs 0 0 (MQ below (qW (wM g ad mem2) g (AW 29 ad) (some (.int r)) (True)) args s 0 0 (AW 29 ad)) (F0 m 32 ls []) := by
  obtain ⟨hx, hb, hml, hown, hts, hr, hlk, hE⟩ := id C0
  obtain ⟨hK, hA⟩ := id hE
  intro n
  induction n with
  | zero =>
    intro x2 H locs ls hF hP hS hl
    cases hF
  | succ n ih =>
    intro x2 H locs ls hF hP hS hl
    rw [fX9_read_32] at hF
    refine lv_iload_n hx hb dX9_read_32 rfl (lv_at hl 2 rfl) ?_
    refine lv_aload_n hx hb dX9_read_33 rfl (lv_at hl 0 rfl) ?_
    refine get_W C0 hK hP iwX9 0 wM_0 rfl 29 (by decide) mF_X9_75 rfl rfl dX9_read_34 ?_
    refine lv_iload_n hx hb dX9_read_37 rfl (lv_at hl 1 rfl) ?_
    obtain ⟨g7, hF⟩ := gI_some hF
    refine va_iald hx hb hK hP 21 0 wM_21 rfl g7 dX9_read_38 ?_
    refine lv_icmp_ge (tgt := 62) hx hb dX9_read_39 (by decide) (fun c8 => ?_) (fun c8 => ?_)
    · replace hF := (if_pos c8).symm.trans hF
      refine lv_iconst (v := 1) hx hb dX9_read_62 (by decide) ?_
      refine lv_istore_n (lv' := [(3, .int 1), (0, .ref (ad 0)), (1, .int z1), (2, .int x2)]) hx hb dX9_read_63 rfl hl (by decide) rfl (fun ls hl => ?_)
      refine lv_iconst (v := 0) hx hb dX9_read_64 (by decide) ?_
      refine lv_istore (lv' := [(4, .int 0), (3, .int 1), (0, .ref (ad 0)), (1, .int z1), (2, .int x2)]) hx hb dX9_read_65 hl (by decide) rfl (fun ls hl => ?_)
      refine lv_iconst (v := 0) hx hb dX9_read_67 (by decide) ?_
      refine lv_istore (lv' := [(5, .int 0), (4, .int 0), (3, .int 1), (0, .ref (ad 0)), (1, .int z1), (2, .int x2)]) hx hb dX9_read_68 hl (by decide) rfl (fun ls hl => ?_)
      exact lpX9_read_70 g ad mem z1 x2 r mem2 C0 fu 1 0 0 _ _ ls hF hP hS (lv_sub hl [3, 4, 5, 2, 1, 0] rfl)
    · replace hF := (if_neg c8).symm.trans hF
      refine lv_aload_n hx hb dX9_read_42 rfl (lv_at hl 0 rfl) ?_
      refine get_W C0 hK hP iwX9 0 wM_0 rfl 30 (by decide) mF_X9_78 rfl rfl dX9_read_43 ?_
      refine lv_bipush (v := 12) hx hb dX9_read_46 (by decide) ?_
      refine lv_iload_n hx hb dX9_read_48 rfl (lv_at hl 1 rfl) ?_
      refine lv_imul hx hb dX9_read_49 ?_
      refine lv_iload_n hx hb dX9_read_50 rfl (lv_at hl 2 rfl) ?_
      refine lv_iadd hx hb dX9_read_51 ?_
      obtain ⟨g57, hF⟩ := gI_some hF
      refine va_iald hx hb hK hP 22 0 wM_22 rfl g57 dX9_read_52 ?_
      refine lv_if_eq (tgt := 62) hx hb dX9_read_53 (by decide) (fun c58 => ?_) (fun c58 => ?_)
      · replace hF := (if_pos c58).symm.trans hF
        refine lv_iconst (v := 1) hx hb dX9_read_62 (by decide) ?_
        refine lv_istore_n (lv' := [(3, .int 1), (0, .ref (ad 0)), (1, .int z1), (2, .int x2)]) hx hb dX9_read_63 rfl hl (by decide) rfl (fun ls hl => ?_)
        refine lv_iconst (v := 0) hx hb dX9_read_64 (by decide) ?_
        refine lv_istore (lv' := [(4, .int 0), (3, .int 1), (0, .ref (ad 0)), (1, .int z1), (2, .int x2)]) hx hb dX9_read_65 hl (by decide) rfl (fun ls hl => ?_)
        refine lv_iconst (v := 0) hx hb dX9_read_67 (by decide) ?_
        refine lv_istore (lv' := [(5, .int 0), (4, .int 0), (3, .int 1), (0, .ref (ad 0)), (1, .int z1), (2, .int x2)]) hx hb dX9_read_68 hl (by decide) rfl (fun ls hl => ?_)
        exact lpX9_read_70 g ad mem z1 x2 r mem2 C0 fu 1 0 0 _ _ ls hF hP hS (lv_sub hl [3, 4, 5, 2, 1, 0] rfl)
      · replace hF := (if_neg c58).symm.trans hF
        refine lv_iinc (v := x2 + 1) (lv' := [(2, .int (x2 + 1)), (0, .ref (ad 0)), (1, .int z1)]) hx hb dX9_read_56 hl (k := 2) rfl rfl (by decide) rfl (fun ls hl => ?_)
        refine lv_goto (tgt := 32) hx hb dX9_read_59 (by decide) ?_
        exact ih (x2 + 1) _ _ ls hF hP hS (lv_sub hl [1, 2, 0] rfl)
def fX9_read (mem : Mem) (a1 : Int32) : Option (Int32 × Mem) :=
  ob1 (fX9_isSheet a1) (fun r2 => if r2 = 0 then (ob2 (fX9_finding mem (-100001)) (fun r64 m63 => some (r64, m63))) else (gI a1 4 (if mem 20 a1.toNatClampNeg = 0 then (ob2 (fX9_finding mem (-100002)) (fun r61 m60 => some (r61, m60))) else (fX9_read_32 mem a1 fu 0))))
set_option maxHeartbeats 4000000 in
set_option maxRecDepth 100000 in
theorem kX9_read (l : Launch) (g : gG) (ad : Nat → Nat) (mem : Mem) (a1 : Int32) (r : Int32) (mem2 : Mem) (hF : fX9_read mem a1 = some (r, mem2)) : Met l yX9_read (Cond.code yX9_read cX9_read 7 (some .int) :: gw) { frames := 3, cells := 0, slots := 0, locals := 66 } (pG (wM g ad mem) (eM g ad) g [.ref (ad 0), .int a1]) (qW (wM g ad mem2) g (AW 29 ad) (some (.int r)) (True)) 0 0 (AW 29 ad) := by
  refine met_of (by decide) (Nat.le_of_ble_eq_true rfl) ?_
  intro p e s m args below meth c ls C0 hP hl
  obtain ⟨hx, hb, hml, hown, hts, hr, hlk, hE⟩ := id C0
  obtain ⟨hK, hA⟩ := id hE
  have hl : lv_has ls 7 [(0, .ref (ad 0)), (1, .int a1)] := hl
  have hS : va_S (AW 29 ad) s.heap s.heap [] := va_S.rf
  unfold fX9_read at hF
  refine lv_iload_n hx hb dX9_read_0 rfl (lv_at hl 1 rfl) ?_
  obtain ⟨r2, h1, hF⟩ := ob_some hF
  refine cS_Ri C0 pkX9_isSheet (As := [.int a1]) (rest := []) (kX9_isSheet l g a1 r2 h1) mL_X9_213 ⟨rfl, rfl, Nat.le_of_ble_eq_true rfl, Nat.le_of_ble_eq_true rfl, Nat.le_of_ble_eq_true rfl, Nat.le_of_ble_eq_true rfl⟩ rfl hl.1 rfl (Nat.le_of_ble_eq_true rfl) dX9_read_1 (fun b3 => ?_)
  refine lv_if_ne (tgt := 14) hx hb dX9_read_4 (by decide) (fun c4 => ?_) (fun c4 => ?_)
  · replace hF := (if_neg c4).symm.trans hF
    refine lv_aload_n hx hb dX9_read_14 rfl (lv_at hl 0 rfl) ?_
    refine get_W C0 hK hP iwX9 0 wM_0 rfl 28 (by decide) mF_X9_72 rfl rfl dX9_read_15 ?_
    refine lv_iload_n hx hb dX9_read_18 rfl (lv_at hl 1 rfl) ?_
    obtain ⟨g5, hF⟩ := gI_some hF
    refine va_iald hx hb hK hP 20 0 wM_20 rfl g5 dX9_read_19 ?_
    refine lv_if_ne (tgt := 30) hx hb dX9_read_20 (by decide) (fun c6 => ?_) (fun c6 => ?_)
    · replace hF := (if_neg c6).symm.trans hF
      refine lv_iconst (v := 0) hx hb dX9_read_30 (by decide) ?_
      refine lv_istore_n (lv' := [(2, .int 0), (0, .ref (ad 0)), (1, .int a1)]) hx hb dX9_read_31 rfl hl (by decide) rfl (fun ls hl => ?_)
      exact lpX9_read_32 g ad mem a1 r mem2 C0 fu 0 _ _ ls hF hP hS (lv_sub hl [1, 2, 0] rfl)
    · replace hF := (if_pos c6).symm.trans hF
      refine lv_aload_n hx hb dX9_read_23 rfl (lv_at hl 0 rfl) ?_
      refine lv_ldc hx hb hown (hts _ mK_X9_216) dX9_read_24 ?_
      obtain ⟨r61, m60, h59, hF⟩ := ob2_some hF
      refine cV_Wi C0 eM_st hP hS hK pkX9_finding (As := [.int (-100002)]) (rest := []) (kX9_finding l g ad mem (-100002) r61 m60 h59) mL_X9_110 ⟨rfl, rfl, Nat.le_of_ble_eq_true rfl, Nat.le_of_ble_eq_true rfl, Nat.le_of_ble_eq_true rfl, Nat.le_of_ble_eq_true rfl⟩ 0 wM_0 rfl rfl rfl hl.1 rfl (Nat.le_of_ble_eq_true rfl) dX9_read_26 (fun H locs _ hP hS => ?_)
      cases hF
      exact ret_Wi C0 hP hS trivial dX9_read_29
  · replace hF := (if_pos c4).symm.trans hF
    refine lv_aload_n hx hb dX9_read_7 rfl (lv_at hl 0 rfl) ?_
    refine lv_ldc hx hb hown (hts _ mK_X9_109) dX9_read_8 ?_
    obtain ⟨r64, m63, h62, hF⟩ := ob2_some hF
    refine cV_Wi C0 eM_st hP hS hK pkX9_finding (As := [.int (-100001)]) (rest := []) (kX9_finding l g ad mem (-100001) r64 m63 h62) mL_X9_110 ⟨rfl, rfl, Nat.le_of_ble_eq_true rfl, Nat.le_of_ble_eq_true rfl, Nat.le_of_ble_eq_true rfl, Nat.le_of_ble_eq_true rfl⟩ 0 wM_0 rfl rfl rfl hl.1 rfl (Nat.le_of_ble_eq_true rfl) dX9_read_10 (fun H locs _ hP hS => ?_)
    cases hF
    exact ret_Wi C0 hP hS trivial dX9_read_13
theorem pkX9_told : pkV yX9_told cX9_told 2 (some .int) RX9 1 := ⟨mI_X9_told, mS_X9_told, mN_X9, mC_X9_told, by decide +kernel⟩
def fX9_told (mem : Mem) (a1 : Int32) : Option (Int32 × Mem) :=
  if a1 = 0 then (some (mem 0 0, mem)) else (if a1 = 1 then (some (mem 0 6, mem)) else (if a1 = 2 then (some (mem 0 9, mem)) else (if a1 = 3 then (some (mem 0 20, mem)) else (if a1 = 4 then (some (mem 0 31, mem)) else (if a1 = 5 then (some (mem 0 25, mem)) else (if a1 = 6 then (if mem 0 18 = 0 then (some (0, mem)) else (some (1, mem))) else (ob2 (fX9_finding mem (-100001)) (fun r11 m10 => some (r11, m10)))))))))
set_option maxHeartbeats 4000000 in
set_option maxRecDepth 100000 in
theorem kX9_told (l : Launch) (g : gG) (ad : Nat → Nat) (mem : Mem) (a1 : Int32) (r : Int32) (mem2 : Mem) (hF : fX9_told mem a1 = some (r, mem2)) : Met l yX9_told (Cond.code yX9_told cX9_told 2 (some .int) :: gw) { frames := 2, cells := 0, slots := 0, locals := 45 } (pG (wM g ad mem) (eM g ad) g [.ref (ad 0), .int a1]) (qW (wM g ad mem2) g (AW 29 ad) (some (.int r)) (True)) 0 0 (AW 29 ad) := by
  refine met_of (by decide) (Nat.le_of_ble_eq_true rfl) ?_
  intro p e s m args below meth c ls C0 hP hl
  obtain ⟨hx, hb, hml, hown, hts, hr, hlk, hE⟩ := id C0
  obtain ⟨hK, hA⟩ := id hE
  have hl : lv_has ls 2 [(0, .ref (ad 0)), (1, .int a1)] := hl
  have hS : va_S (AW 29 ad) s.heap s.heap [] := va_S.rf
  unfold fX9_told at hF
  refine lv_iload_n hx hb dX9_told_0 rfl (lv_at hl 1 rfl) ?_
  by_cases c1 : a1 = 0
  · replace hF := (if_pos c1).symm.trans hF
    refine lv_tableIn (off := 43) (tgt := 44) hx hb dX9_told_1 (by rw [c1]; decide) (by rw [c1]; decide) (by rw [c1]; rfl) (by decide) ?_
    refine lv_aload_n hx hb dX9_told_44 rfl (lv_at hl 0 rfl) ?_
    refine get_W C0 hK hP iwX9 0 wM_0 rfl 0 (by decide) mF_X9_102 rfl rfl dX9_told_45 ?_
    cases hF
    exact ret_Wi C0 hP hS trivial dX9_told_48
  replace hF := (if_neg c1).symm.trans hF
  by_cases c2 : a1 = 1
  · replace hF := (if_pos c2).symm.trans hF
    refine lv_tableIn (off := 48) (tgt := 49) hx hb dX9_told_1 (by rw [c2]; decide) (by rw [c2]; decide) (by rw [c2]; rfl) (by decide) ?_
    refine lv_aload_n hx hb dX9_told_49 rfl (lv_at hl 0 rfl) ?_
    refine get_W C0 hK hP iwX9 0 wM_0 rfl 6 (by decide) mF_X9_126 rfl rfl dX9_told_50 ?_
    cases hF
    exact ret_Wi C0 hP hS trivial dX9_told_53
  replace hF := (if_neg c2).symm.trans hF
  by_cases c3 : a1 = 2
  · replace hF := (if_pos c3).symm.trans hF
    refine lv_tableIn (off := 53) (tgt := 54) hx hb dX9_told_1 (by rw [c3]; decide) (by rw [c3]; decide) (by rw [c3]; rfl) (by decide) ?_
    refine lv_aload_n hx hb dX9_told_54 rfl (lv_at hl 0 rfl) ?_
    refine get_W C0 hK hP iwX9 0 wM_0 rfl 9 (by decide) mF_X9_146 rfl rfl dX9_told_55 ?_
    cases hF
    exact ret_Wi C0 hP hS trivial dX9_told_58
  replace hF := (if_neg c3).symm.trans hF
  by_cases c4 : a1 = 3
  · replace hF := (if_pos c4).symm.trans hF
    refine lv_tableIn (off := 58) (tgt := 59) hx hb dX9_told_1 (by rw [c4]; decide) (by rw [c4]; decide) (by rw [c4]; rfl) (by decide) ?_
    refine lv_aload_n hx hb dX9_told_59 rfl (lv_at hl 0 rfl) ?_
    refine get_W C0 hK hP iwX9 0 wM_0 rfl 20 (by decide) mF_X9_175 rfl rfl dX9_told_60 ?_
    cases hF
    exact ret_Wi C0 hP hS trivial dX9_told_63
  replace hF := (if_neg c4).symm.trans hF
  by_cases c5 : a1 = 4
  · replace hF := (if_pos c5).symm.trans hF
    refine lv_tableIn (off := 63) (tgt := 64) hx hb dX9_told_1 (by rw [c5]; decide) (by rw [c5]; decide) (by rw [c5]; rfl) (by decide) ?_
    refine lv_aload_n hx hb dX9_told_64 rfl (lv_at hl 0 rfl) ?_
    refine get_W C0 hK hP iwX9 0 wM_0 rfl 31 (by decide) mF_X9_99 rfl rfl dX9_told_65 ?_
    cases hF
    exact ret_Wi C0 hP hS trivial dX9_told_68
  replace hF := (if_neg c5).symm.trans hF
  by_cases c6 : a1 = 5
  · replace hF := (if_pos c6).symm.trans hF
    refine lv_tableIn (off := 68) (tgt := 69) hx hb dX9_told_1 (by rw [c6]; decide) (by rw [c6]; decide) (by rw [c6]; rfl) (by decide) ?_
    refine lv_aload_n hx hb dX9_told_69 rfl (lv_at hl 0 rfl) ?_
    refine get_W C0 hK hP iwX9 0 wM_0 rfl 25 (by decide) mF_X9_207 rfl rfl dX9_told_70 ?_
    cases hF
    exact ret_Wi C0 hP hS trivial dX9_told_73
  replace hF := (if_neg c6).symm.trans hF
  by_cases c7 : a1 = 6
  · replace hF := (if_pos c7).symm.trans hF
    refine lv_tableIn (off := 73) (tgt := 74) hx hb dX9_told_1 (by rw [c7]; decide) (by rw [c7]; decide) (by rw [c7]; rfl) (by decide) ?_
    refine lv_aload_n hx hb dX9_told_74 rfl (lv_at hl 0 rfl) ?_
    refine get_W C0 hK hP iwX9 0 wM_0 rfl 18 (by decide) mF_X9_188 rfl rfl dX9_told_75 ?_
    refine lv_if_eq (tgt := 85) hx hb dX9_told_78 (by decide) (fun c8 => ?_) (fun c8 => ?_)
    · replace hF := (if_pos c8).symm.trans hF
      refine lv_iconst (v := 0) hx hb dX9_told_85 (by decide) ?_
      cases hF
      exact ret_Wi C0 hP hS trivial dX9_told_86
    · replace hF := (if_neg c8).symm.trans hF
      refine lv_iconst (v := 1) hx hb dX9_told_81 (by decide) ?_
      refine lv_goto (tgt := 86) hx hb dX9_told_82 (by decide) ?_
      cases hF
      exact ret_Wi C0 hP hS trivial dX9_told_86
  replace hF := (if_neg c7).symm.trans hF
  have tc1 := ne_toInt c1 (k := 0) rfl
  have tc2 := ne_toInt c2 (k := 1) rfl
  have tc3 := ne_toInt c3 (k := 2) rfl
  have tc4 := ne_toInt c4 (k := 3) rfl
  have tc5 := ne_toInt c5 (k := 4) rfl
  have tc6 := ne_toInt c6 (k := 5) rfl
  have tc7 := ne_toInt c7 (k := 6) rfl
  refine lv_tableOut (tgt := 87) hx hb dX9_told_1 (by omega) (by decide) ?_
  refine lv_aload_n hx hb dX9_told_87 rfl (lv_at hl 0 rfl) ?_
  refine lv_ldc hx hb hown (hts _ mK_X9_109) dX9_told_88 ?_
  obtain ⟨r11, m10, h9, hF⟩ := ob2_some hF
  refine cV_Wi C0 eM_st hP hS hK pkX9_finding (As := [.int (-100001)]) (rest := []) (kX9_finding l g ad mem (-100001) r11 m10 h9) mL_X9_110 ⟨rfl, rfl, Nat.le_of_ble_eq_true rfl, Nat.le_of_ble_eq_true rfl, Nat.le_of_ble_eq_true rfl, Nat.le_of_ble_eq_true rfl⟩ 0 wM_0 rfl rfl rfl hl.1 rfl (Nat.le_of_ble_eq_true rfl) dX9_told_90 (fun H locs _ hP hS => ?_)
  cases hF
  exact ret_Wi C0 hP hS trivial dX9_told_93
