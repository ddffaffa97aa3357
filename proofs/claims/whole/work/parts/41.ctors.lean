def bX4 (g : gG) (q : Nat → Nat) : va_W := [(q 0, .inr (4, [.ref (q 1), .ref (q 2), .ref (q 3), .int 0])), (q 1, .inl (g.2.1, 10, .inl (fun _ => 0))), (q 2, .inl (g.2.1, 10, .inl (fun _ => 0))), (q 3, .inl (g.2.2.1, 10, .inl (fun _ => 0)))]
theorem pkX4_init : pkI yX4_init cX4_init 1 0 := ⟨mI_X4_init, mN_X4, mC_X4_init, by decide +kernel, rfl⟩
set_option maxHeartbeats 4000000 in
set_option maxRecDepth 100000 in
theorem kX4_init (l : Launch) (g : gG) (h0 sz : Nat) : Met l yX4_init (Cond.code yX4_init cX4_init 1 none :: gw) { frames := 1, cells := 3, slots := 30, locals := 24 } (pC [(h0, .inr (4, [.null, .null, .null, .int 0]))] (eN g) g sz [.ref h0]) (qC (bX4 g) g h0 sz) 3 30 (A1 h0 sz) := by
  refine met_ofC (by decide) rfl (Nat.le_of_ble_eq_true rfl) ?_
  intro p e s m args below meth c ls C0 hin hP hD hl
  obtain ⟨hx, hb, hml, hown, hts, hr, hlk, hK, hN, hO⟩ := id C0
  have hl : lv_has ls 1 [(0, .ref h0)] := hl
  have hA : ∀ q : Nat, s.heap.size ≤ q → A1 h0 s.heap.size q := fun q h => Or.inr h
  have hS : va_S (A1 h0 s.heap.size) s.heap s.heap [] := va_S.rf
  refine lv_aload_n hx hb dX4_init_0 rfl (lv_at hl 0 rfl) ?_
  refine W.objInit hx hb hown (hts _ mL_X4_3) (hts _ mI_objectInit) (hts _ mC_objectInit) rfl (by rw [hml]; exact hl.1) rfl dX4_init_1 (Nat.le_of_ble_eq_true rfl) (Nat.le_of_ble_eq_true rfl) ?_
  refine W.eq (g2 := F0 m 4 ls []) rfl ?_
  refine lv_aload_n hx hb dX4_init_4 rfl (lv_at hl 0 rfl) ?_
  refine lv_bipush (v := 10) hx hb dX4_init_5 (by decide) ?_
  refine newI C0 hK hP hD hS hA (N := 10) (by decide) (by decide) (by decide) (Nat.le_of_ble_eq_true rfl) (Nat.le_of_ble_eq_true rfl) dX4_init_7 (fun q1 H hP hD hS => ?_)
  have hP : va_P g.1 vwCl [(h0, .inr (4, [.null, .null, .null, .int 0])), (q1, .inl (g.2.1, 10, .inl (fun _ => 0)))] H := hP
  have hD : va_D (A1 h0 s.heap.size) [(h0, .inr (4, [.null, .null, .null, .int 0])), (q1, .inl (g.2.1, 10, .inl (fun _ => 0)))] := hD
  refine putF_C C0 hin hK hP hD hS iwX4 tyX4_ok nmX4 0 rfl rfl 0 (by decide) mF_X4_9 rfl rfl rfl rfl rfl (Nat.le_of_ble_eq_true rfl) rfl dX4_init_9 (fun H locs hP hD hS => ?_)
  have hP : va_P g.1 vwCl [(h0, .inr (4, [.ref q1, .null, .null, .int 0])), (q1, .inl (g.2.1, 10, .inl (fun _ => 0)))] H := hP
  have hD : va_D (A1 h0 s.heap.size) [(h0, .inr (4, [.ref q1, .null, .null, .int 0])), (q1, .inl (g.2.1, 10, .inl (fun _ => 0)))] := hD
  refine lv_aload_n hx hb dX4_init_12 rfl (lv_at hl 0 rfl) ?_
  refine lv_bipush (v := 10) hx hb dX4_init_13 (by decide) ?_
  refine newI C0 hK hP hD hS hA (N := 10) (by decide) (by decide) (by decide) (Nat.le_of_ble_eq_true rfl) (Nat.le_of_ble_eq_true rfl) dX4_init_15 (fun q2 H hP hD hS => ?_)
  have hP : va_P g.1 vwCl [(h0, .inr (4, [.ref q1, .null, .null, .int 0])), (q1, .inl (g.2.1, 10, .inl (fun _ => 0))), (q2, .inl (g.2.1, 10, .inl (fun _ => 0)))] H := hP
  have hD : va_D (A1 h0 s.heap.size) [(h0, .inr (4, [.ref q1, .null, .null, .int 0])), (q1, .inl (g.2.1, 10, .inl (fun _ => 0))), (q2, .inl (g.2.1, 10, .inl (fun _ => 0)))] := hD
  refine putF_C C0 hin hK hP hD hS iwX4 tyX4_ok nmX4 0 rfl rfl 1 (by decide) mF_X4_15 rfl rfl rfl rfl rfl (Nat.le_of_ble_eq_true rfl) rfl dX4_init_17 (fun H locs hP hD hS => ?_)
  have hP : va_P g.1 vwCl [(h0, .inr (4, [.ref q1, .ref q2, .null, .int 0])), (q1, .inl (g.2.1, 10, .inl (fun _ => 0))), (q2, .inl (g.2.1, 10, .inl (fun _ => 0)))] H := hP
  have hD : va_D (A1 h0 s.heap.size) [(h0, .inr (4, [.ref q1, .ref q2, .null, .int 0])), (q1, .inl (g.2.1, 10, .inl (fun _ => 0))), (q2, .inl (g.2.1, 10, .inl (fun _ => 0)))] := hD
  refine lv_aload_n hx hb dX4_init_20 rfl (lv_at hl 0 rfl) ?_
  refine lv_bipush (v := 10) hx hb dX4_init_21 (by decide) ?_
  refine newZ C0 hK hP hD hS hA (N := 10) (by decide) (by decide) (by decide) (Nat.le_of_ble_eq_true rfl) (Nat.le_of_ble_eq_true rfl) dX4_init_23 (fun q3 H hP hD hS => ?_)
  have hP : va_P g.1 vwCl [(h0, .inr (4, [.ref q1, .ref q2, .null, .int 0])), (q1, .inl (g.2.1, 10, .inl (fun _ => 0))), (q2, .inl (g.2.1, 10, .inl (fun _ => 0))), (q3, .inl (g.2.2.1, 10, .inl (fun _ => 0)))] H := hP
  have hD : va_D (A1 h0 s.heap.size) [(h0, .inr (4, [.ref q1, .ref q2, .null, .int 0])), (q1, .inl (g.2.1, 10, .inl (fun _ => 0))), (q2, .inl (g.2.1, 10, .inl (fun _ => 0))), (q3, .inl (g.2.2.1, 10, .inl (fun _ => 0)))] := hD
  refine putF_C C0 hin hK hP hD hS iwX4 tyX4_ok nmX4 0 rfl rfl 2 (by decide) mF_X4_18 rfl rfl rfl rfl rfl (Nat.le_of_ble_eq_true rfl) rfl dX4_init_25 (fun H locs hP hD hS => ?_)
  have hP : va_P g.1 vwCl [(h0, .inr (4, [.ref q1, .ref q2, .ref q3, .int 0])), (q1, .inl (g.2.1, 10, .inl (fun _ => 0))), (q2, .inl (g.2.1, 10, .inl (fun _ => 0))), (q3, .inl (g.2.2.1, 10, .inl (fun _ => 0)))] H := hP
  have hD : va_D (A1 h0 s.heap.size) [(h0, .inr (4, [.ref q1, .ref q2, .ref q3, .int 0])), (q1, .inl (g.2.1, 10, .inl (fun _ => 0))), (q2, .inl (g.2.1, 10, .inl (fun _ => 0))), (q3, .inl (g.2.2.1, 10, .inl (fun _ => 0)))] := hD
  refine lv_aload_n hx hb dX4_init_28 rfl (lv_at hl 0 rfl) ?_
  refine lv_iconst (v := 0) hx hb dX4_init_29 (by decide) ?_
  refine put_C C0 hK hP hD hS iwX4 tyX4_ok nmX4 0 rfl rfl 3 (by decide) mF_X4_22 rfl rfl rfl rfl (Nat.le_of_ble_eq_true rfl) rfl dX4_init_30 (fun H locs hP hD hS => ?_)
  have hP : va_P g.1 vwCl [(h0, .inr (4, [.ref q1, .ref q2, .ref q3, .int 0])), (q1, .inl (g.2.1, 10, .inl (fun _ => 0))), (q2, .inl (g.2.1, 10, .inl (fun _ => 0))), (q3, .inl (g.2.2.1, 10, .inl (fun _ => 0)))] H := hP
  have hD : va_D (A1 h0 s.heap.size) [(h0, .inr (4, [.ref q1, .ref q2, .ref q3, .int 0])), (q1, .inl (g.2.1, 10, .inl (fun _ => 0))), (q2, .inl (g.2.1, 10, .inl (fun _ => 0))), (q3, .inl (g.2.2.1, 10, .inl (fun _ => 0)))] := hD
  exact ret_C C0 (fun i => [h0, q1, q2, q3].getD i 0) rfl hP hD hS dX4_init_33
def bX7 (g : gG) (r1 : Nat) (q : Nat → Nat) : va_W := [(q 0, .inr (7, [.ref r1, .ref (q 1), .ref (q 2), .ref (q 3), .ref (q 4), .ref (q 5), .int 0, .int (-1)])), (q 1, .inl (g.2.1, 20, .inl (fun _ => 0))), (q 2, .inl (g.2.1, 20, .inl (fun _ => 0))), (q 3, .inl (g.2.1, 10, .inl (fun _ => 0))), (q 4, .inl (g.2.1, 10, .inl (fun _ => 0))), (q 5, .inl (g.2.1, 5, .inl (fun _ => 0)))]
theorem pkX7_init : pkI yX7_init cX7_init 2 1 := ⟨mI_X7_init, mN_X7, mC_X7_init, by decide +kernel, rfl⟩
set_option maxHeartbeats 4000000 in
set_option maxRecDepth 100000 in
theorem kX7_init (l : Launch) (g : gG) (h0 r1 sz : Nat) : Met l yX7_init (Cond.code yX7_init cX7_init 2 none :: gw) { frames := 1, cells := 5, slots := 65, locals := 24 } (pC [(h0, .inr (7, [.null, .null, .null, .null, .null, .null, .int 0, .int 0]))] (eN g) g sz [.ref h0, .ref r1]) (qC (bX7 g r1) g h0 sz) 5 65 (A1 h0 sz) := by
  refine met_ofC (by decide) rfl (Nat.le_of_ble_eq_true rfl) ?_
  intro p e s m args below meth c ls C0 hin hP hD hl
  obtain ⟨hx, hb, hml, hown, hts, hr, hlk, hK, hN, hO⟩ := id C0
  have hl : lv_has ls 2 [(0, .ref h0), (1, .ref r1)] := hl
  have hA : ∀ q : Nat, s.heap.size ≤ q → A1 h0 s.heap.size q := fun q h => Or.inr h
  have hS : va_S (A1 h0 s.heap.size) s.heap s.heap [] := va_S.rf
  refine lv_aload_n hx hb dX7_init_0 rfl (lv_at hl 0 rfl) ?_
  refine W.objInit hx hb hown (hts _ mL_X7_3) (hts _ mI_objectInit) (hts _ mC_objectInit) rfl (by rw [hml]; exact hl.1) rfl dX7_init_1 (Nat.le_of_ble_eq_true rfl) (Nat.le_of_ble_eq_true rfl) ?_
  refine W.eq (g2 := F0 m 4 ls []) rfl ?_
  refine lv_aload_n hx hb dX7_init_4 rfl (lv_at hl 0 rfl) ?_
  refine lv_bipush (v := 20) hx hb dX7_init_5 (by decide) ?_
  refine newI C0 hK hP hD hS hA (N := 20) (by decide) (by decide) (by decide) (Nat.le_of_ble_eq_true rfl) (Nat.le_of_ble_eq_true rfl) dX7_init_7 (fun q1 H hP hD hS => ?_)
  have hP : va_P g.1 vwCl [(h0, .inr (7, [.null, .null, .null, .null, .null, .null, .int 0, .int 0])), (q1, .inl (g.2.1, 20, .inl (fun _ => 0)))] H := hP
  have hD : va_D (A1 h0 s.heap.size) [(h0, .inr (7, [.null, .null, .null, .null, .null, .null, .int 0, .int 0])), (q1, .inl (g.2.1, 20, .inl (fun _ => 0)))] := hD
  refine putF_C C0 hin hK hP hD hS iwX7 tyX7_ok nmX7 0 rfl rfl 1 (by decide) mF_X7_9 rfl rfl rfl rfl rfl (Nat.le_of_ble_eq_true rfl) rfl dX7_init_9 (fun H locs hP hD hS => ?_)
  have hP : va_P g.1 vwCl [(h0, .inr (7, [.null, .ref q1, .null, .null, .null, .null, .int 0, .int 0])), (q1, .inl (g.2.1, 20, .inl (fun _ => 0)))] H := hP
  have hD : va_D (A1 h0 s.heap.size) [(h0, .inr (7, [.null, .ref q1, .null, .null, .null, .null, .int 0, .int 0])), (q1, .inl (g.2.1, 20, .inl (fun _ => 0)))] := hD
  refine lv_aload_n hx hb dX7_init_12 rfl (lv_at hl 0 rfl) ?_
  refine lv_bipush (v := 20) hx hb dX7_init_13 (by decide) ?_
  refine newI C0 hK hP hD hS hA (N := 20) (by decide) (by decide) (by decide) (Nat.le_of_ble_eq_true rfl) (Nat.le_of_ble_eq_true rfl) dX7_init_15 (fun q2 H hP hD hS => ?_)
  have hP : va_P g.1 vwCl [(h0, .inr (7, [.null, .ref q1, .null, .null, .null, .null, .int 0, .int 0])), (q1, .inl (g.2.1, 20, .inl (fun _ => 0))), (q2, .inl (g.2.1, 20, .inl (fun _ => 0)))] H := hP
  have hD : va_D (A1 h0 s.heap.size) [(h0, .inr (7, [.null, .ref q1, .null, .null, .null, .null, .int 0, .int 0])), (q1, .inl (g.2.1, 20, .inl (fun _ => 0))), (q2, .inl (g.2.1, 20, .inl (fun _ => 0)))] := hD
  refine putF_C C0 hin hK hP hD hS iwX7 tyX7_ok nmX7 0 rfl rfl 2 (by decide) mF_X7_15 rfl rfl rfl rfl rfl (Nat.le_of_ble_eq_true rfl) rfl dX7_init_17 (fun H locs hP hD hS => ?_)
  have hP : va_P g.1 vwCl [(h0, .inr (7, [.null, .ref q1, .ref q2, .null, .null, .null, .int 0, .int 0])), (q1, .inl (g.2.1, 20, .inl (fun _ => 0))), (q2, .inl (g.2.1, 20, .inl (fun _ => 0)))] H := hP
  have hD : va_D (A1 h0 s.heap.size) [(h0, .inr (7, [.null, .ref q1, .ref q2, .null, .null, .null, .int 0, .int 0])), (q1, .inl (g.2.1, 20, .inl (fun _ => 0))), (q2, .inl (g.2.1, 20, .inl (fun _ => 0)))] := hD
  refine lv_aload_n hx hb dX7_init_20 rfl (lv_at hl 0 rfl) ?_
  refine lv_bipush (v := 10) hx hb dX7_init_21 (by decide) ?_
  refine newI C0 hK hP hD hS hA (N := 10) (by decide) (by decide) (by decide) (Nat.le_of_ble_eq_true rfl) (Nat.le_of_ble_eq_true rfl) dX7_init_23 (fun q3 H hP hD hS => ?_)
  have hP : va_P g.1 vwCl [(h0, .inr (7, [.null, .ref q1, .ref q2, .null, .null, .null, .int 0, .int 0])), (q1, .inl (g.2.1, 20, .inl (fun _ => 0))), (q2, .inl (g.2.1, 20, .inl (fun _ => 0))), (q3, .inl (g.2.1, 10, .inl (fun _ => 0)))] H := hP
  have hD : va_D (A1 h0 s.heap.size) [(h0, .inr (7, [.null, .ref q1, .ref q2, .null, .null, .null, .int 0, .int 0])), (q1, .inl (g.2.1, 20, .inl (fun _ => 0))), (q2, .inl (g.2.1, 20, .inl (fun _ => 0))), (q3, .inl (g.2.1, 10, .inl (fun _ => 0)))] := hD
  refine putF_C C0 hin hK hP hD hS iwX7 tyX7_ok nmX7 0 rfl rfl 3 (by decide) mF_X7_18 rfl rfl rfl rfl rfl (Nat.le_of_ble_eq_true rfl) rfl dX7_init_25 (fun H locs hP hD hS => ?_)
  have hP : va_P g.1 vwCl [(h0, .inr (7, [.null, .ref q1, .ref q2, .ref q3, .null, .null, .int 0, .int 0])), (q1, .inl (g.2.1, 20, .inl (fun _ => 0))), (q2, .inl (g.2.1, 20, .inl (fun _ => 0))), (q3, .inl (g.2.1, 10, .inl (fun _ => 0)))] H := hP
  have hD : va_D (A1 h0 s.heap.size) [(h0, .inr (7, [.null, .ref q1, .ref q2, .ref q3, .null, .null, .int 0, .int 0])), (q1, .inl (g.2.1, 20, .inl (fun _ => 0))), (q2, .inl (g.2.1, 20, .inl (fun _ => 0))), (q3, .inl (g.2.1, 10, .inl (fun _ => 0)))] := hD
  refine lv_aload_n hx hb dX7_init_28 rfl (lv_at hl 0 rfl) ?_
  refine lv_bipush (v := 10) hx hb dX7_init_29 (by decide) ?_
  refine newI C0 hK hP hD hS hA (N := 10) (by decide) (by decide) (by decide) (Nat.le_of_ble_eq_true rfl) (Nat.le_of_ble_eq_true rfl) dX7_init_31 (fun q4 H hP hD hS => ?_)
  have hP : va_P g.1 vwCl [(h0, .inr (7, [.null, .ref q1, .ref q2, .ref q3, .null, .null, .int 0, .int 0])), (q1, .inl (g.2.1, 20, .inl (fun _ => 0))), (q2, .inl (g.2.1, 20, .inl (fun _ => 0))), (q3, .inl (g.2.1, 10, .inl (fun _ => 0))), (q4, .inl (g.2.1, 10, .inl (fun _ => 0)))] H := hP
  have hD : va_D (A1 h0 s.heap.size) [(h0, .inr (7, [.null, .ref q1, .ref q2, .ref q3, .null, .null, .int 0, .int 0])), (q1, .inl (g.2.1, 20, .inl (fun _ => 0))), (q2, .inl (g.2.1, 20, .inl (fun _ => 0))), (q3, .inl (g.2.1, 10, .inl (fun _ => 0))), (q4, .inl (g.2.1, 10, .inl (fun _ => 0)))] := hD
  refine putF_C C0 hin hK hP hD hS iwX7 tyX7_ok nmX7 0 rfl rfl 4 (by decide) mF_X7_21 rfl rfl rfl rfl rfl (Nat.le_of_ble_eq_true rfl) rfl dX7_init_33 (fun H locs hP hD hS => ?_)
  have hP : va_P g.1 vwCl [(h0, .inr (7, [.null, .ref q1, .ref q2, .ref q3, .ref q4, .null, .int 0, .int 0])), (q1, .inl (g.2.1, 20, .inl (fun _ => 0))), (q2, .inl (g.2.1, 20, .inl (fun _ => 0))), (q3, .inl (g.2.1, 10, .inl (fun _ => 0))), (q4, .inl (g.2.1, 10, .inl (fun _ => 0)))] H := hP
  have hD : va_D (A1 h0 s.heap.size) [(h0, .inr (7, [.null, .ref q1, .ref q2, .ref q3, .ref q4, .null, .int 0, .int 0])), (q1, .inl (g.2.1, 20, .inl (fun _ => 0))), (q2, .inl (g.2.1, 20, .inl (fun _ => 0))), (q3, .inl (g.2.1, 10, .inl (fun _ => 0))), (q4, .inl (g.2.1, 10, .inl (fun _ => 0)))] := hD
  refine lv_aload_n hx hb dX7_init_36 rfl (lv_at hl 0 rfl) ?_
  refine lv_iconst (v := 5) hx hb dX7_init_37 (by decide) ?_
  refine newI C0 hK hP hD hS hA (N := 5) (by decide) (by decide) (by decide) (Nat.le_of_ble_eq_true rfl) (Nat.le_of_ble_eq_true rfl) dX7_init_38 (fun q5 H hP hD hS => ?_)
  have hP : va_P g.1 vwCl [(h0, .inr (7, [.null, .ref q1, .ref q2, .ref q3, .ref q4, .null, .int 0, .int 0])), (q1, .inl (g.2.1, 20, .inl (fun _ => 0))), (q2, .inl (g.2.1, 20, .inl (fun _ => 0))), (q3, .inl (g.2.1, 10, .inl (fun _ => 0))), (q4, .inl (g.2.1, 10, .inl (fun _ => 0))), (q5, .inl (g.2.1, 5, .inl (fun _ => 0)))] H := hP
  have hD : va_D (A1 h0 s.heap.size) [(h0, .inr (7, [.null, .ref q1, .ref q2, .ref q3, .ref q4, .null, .int 0, .int 0])), (q1, .inl (g.2.1, 20, .inl (fun _ => 0))), (q2, .inl (g.2.1, 20, .inl (fun _ => 0))), (q3, .inl (g.2.1, 10, .inl (fun _ => 0))), (q4, .inl (g.2.1, 10, .inl (fun _ => 0))), (q5, .inl (g.2.1, 5, .inl (fun _ => 0)))] := hD
  refine putF_C C0 hin hK hP hD hS iwX7 tyX7_ok nmX7 0 rfl rfl 5 (by decide) mF_X7_24 rfl rfl rfl rfl rfl (Nat.le_of_ble_eq_true rfl) rfl dX7_init_40 (fun H locs hP hD hS => ?_)
  have hP : va_P g.1 vwCl [(h0, .inr (7, [.null, .ref q1, .ref q2, .ref q3, .ref q4, .ref q5, .int 0, .int 0])), (q1, .inl (g.2.1, 20, .inl (fun _ => 0))), (q2, .inl (g.2.1, 20, .inl (fun _ => 0))), (q3, .inl (g.2.1, 10, .inl (fun _ => 0))), (q4, .inl (g.2.1, 10, .inl (fun _ => 0))), (q5, .inl (g.2.1, 5, .inl (fun _ => 0)))] H := hP
  have hD : va_D (A1 h0 s.heap.size) [(h0, .inr (7, [.null, .ref q1, .ref q2, .ref q3, .ref q4, .ref q5, .int 0, .int 0])), (q1, .inl (g.2.1, 20, .inl (fun _ => 0))), (q2, .inl (g.2.1, 20, .inl (fun _ => 0))), (q3, .inl (g.2.1, 10, .inl (fun _ => 0))), (q4, .inl (g.2.1, 10, .inl (fun _ => 0))), (q5, .inl (g.2.1, 5, .inl (fun _ => 0)))] := hD
  refine lv_aload_n hx hb dX7_init_43 rfl (lv_at hl 0 rfl) ?_
  refine lv_iconst (v := 0) hx hb dX7_init_44 (by decide) ?_
  refine put_C C0 hK hP hD hS iwX7 tyX7_ok nmX7 0 rfl rfl 6 (by decide) mF_X7_27 rfl rfl rfl rfl (Nat.le_of_ble_eq_true rfl) rfl dX7_init_45 (fun H locs hP hD hS => ?_)
  have hP : va_P g.1 vwCl [(h0, .inr (7, [.null, .ref q1, .ref q2, .ref q3, .ref q4, .ref q5, .int 0, .int 0])), (q1, .inl (g.2.1, 20, .inl (fun _ => 0))), (q2, .inl (g.2.1, 20, .inl (fun _ => 0))), (q3, .inl (g.2.1, 10, .inl (fun _ => 0))), (q4, .inl (g.2.1, 10, .inl (fun _ => 0))), (q5, .inl (g.2.1, 5, .inl (fun _ => 0)))] H := hP
  have hD : va_D (A1 h0 s.heap.size) [(h0, .inr (7, [.null, .ref q1, .ref q2, .ref q3, .ref q4, .ref q5, .int 0, .int 0])), (q1, .inl (g.2.1, 20, .inl (fun _ => 0))), (q2, .inl (g.2.1, 20, .inl (fun _ => 0))), (q3, .inl (g.2.1, 10, .inl (fun _ => 0))), (q4, .inl (g.2.1, 10, .inl (fun _ => 0))), (q5, .inl (g.2.1, 5, .inl (fun _ => 0)))] := hD
  refine lv_aload_n hx hb dX7_init_48 rfl (lv_at hl 0 rfl) ?_
  refine lv_iconst (v := (-1)) hx hb dX7_init_49 (by decide) ?_
  refine put_C C0 hK hP hD hS iwX7 tyX7_ok nmX7 0 rfl rfl 7 (by decide) mF_X7_31 rfl rfl rfl rfl (Nat.le_of_ble_eq_true rfl) rfl dX7_init_50 (fun H locs hP hD hS => ?_)
  have hP : va_P g.1 vwCl [(h0, .inr (7, [.null, .ref q1, .ref q2, .ref q3, .ref q4, .ref q5, .int 0, .int (-1)])), (q1, .inl (g.2.1, 20, .inl (fun _ => 0))), (q2, .inl (g.2.1, 20, .inl (fun _ => 0))), (q3, .inl (g.2.1, 10, .inl (fun _ => 0))), (q4, .inl (g.2.1, 10, .inl (fun _ => 0))), (q5, .inl (g.2.1, 5, .inl (fun _ => 0)))] H := hP
  have hD : va_D (A1 h0 s.heap.size) [(h0, .inr (7, [.null, .ref q1, .ref q2, .ref q3, .ref q4, .ref q5, .int 0, .int (-1)])), (q1, .inl (g.2.1, 20, .inl (fun _ => 0))), (q2, .inl (g.2.1, 20, .inl (fun _ => 0))), (q3, .inl (g.2.1, 10, .inl (fun _ => 0))), (q4, .inl (g.2.1, 10, .inl (fun _ => 0))), (q5, .inl (g.2.1, 5, .inl (fun _ => 0)))] := hD
  refine lv_aload_n hx hb dX7_init_53 rfl (lv_at hl 0 rfl) ?_
  refine lv_aload_n hx hb dX7_init_54 rfl (lv_at hl 1 rfl) ?_
  refine putF_C C0 hin hK hP hD hS iwX7 tyX7_ok nmX7 0 rfl rfl 0 (by decide) mF_X7_34 rfl rfl rfl rfl rfl (Nat.le_of_ble_eq_true rfl) rfl dX7_init_55 (fun H locs hP hD hS => ?_)
  have hP : va_P g.1 vwCl [(h0, .inr (7, [.ref r1, .ref q1, .ref q2, .ref q3, .ref q4, .ref q5, .int 0, .int (-1)])), (q1, .inl (g.2.1, 20, .inl (fun _ => 0))), (q2, .inl (g.2.1, 20, .inl (fun _ => 0))), (q3, .inl (g.2.1, 10, .inl (fun _ => 0))), (q4, .inl (g.2.1, 10, .inl (fun _ => 0))), (q5, .inl (g.2.1, 5, .inl (fun _ => 0)))] H := hP
  have hD : va_D (A1 h0 s.heap.size) [(h0, .inr (7, [.ref r1, .ref q1, .ref q2, .ref q3, .ref q4, .ref q5, .int 0, .int (-1)])), (q1, .inl (g.2.1, 20, .inl (fun _ => 0))), (q2, .inl (g.2.1, 20, .inl (fun _ => 0))), (q3, .inl (g.2.1, 10, .inl (fun _ => 0))), (q4, .inl (g.2.1, 10, .inl (fun _ => 0))), (q5, .inl (g.2.1, 5, .inl (fun _ => 0)))] := hD
  exact ret_C C0 (fun i => [h0, q1, q2, q3, q4, q5].getD i 0) rfl hP hD hS dX7_init_58
def bX5 (g : gG) (r1 : Nat) (q : Nat → Nat) : va_W := [(q 0, .inr (5, [.ref r1, .ref (q 1), .int 0])), (q 1, .inl (g.2.1, 6, .inl (fun _ => 0)))]
theorem pkX5_init : pkI yX5_init cX5_init 2 1 := ⟨mI_X5_init, mN_X5, mC_X5_init, by decide +kernel, rfl⟩
set_option maxHeartbeats 4000000 in
set_option maxRecDepth 100000 in
theorem kX5_init (l : Launch) (g : gG) (h0 r1 sz : Nat) : Met l yX5_init (Cond.code yX5_init cX5_init 2 none :: gw) { frames := 1, cells := 1, slots := 6, locals := 24 } (pC [(h0, .inr (5, [.null, .null, .int 0]))] (eN g) g sz [.ref h0, .ref r1]) (qC (bX5 g r1) g h0 sz) 1 6 (A1 h0 sz) := by
  refine met_ofC (by decide) rfl (Nat.le_of_ble_eq_true rfl) ?_
  intro p e s m args below meth c ls C0 hin hP hD hl
  obtain ⟨hx, hb, hml, hown, hts, hr, hlk, hK, hN, hO⟩ := id C0
  have hl : lv_has ls 2 [(0, .ref h0), (1, .ref r1)] := hl
  have hA : ∀ q : Nat, s.heap.size ≤ q → A1 h0 s.heap.size q := fun q h => Or.inr h
  have hS : va_S (A1 h0 s.heap.size) s.heap s.heap [] := va_S.rf
  refine lv_aload_n hx hb dX5_init_0 rfl (lv_at hl 0 rfl) ?_
  refine W.objInit hx hb hown (hts _ mL_X5_3) (hts _ mI_objectInit) (hts _ mC_objectInit) rfl (by rw [hml]; exact hl.1) rfl dX5_init_1 (Nat.le_of_ble_eq_true rfl) (Nat.le_of_ble_eq_true rfl) ?_
  refine W.eq (g2 := F0 m 4 ls []) rfl ?_
  refine lv_aload_n hx hb dX5_init_4 rfl (lv_at hl 0 rfl) ?_
  refine lv_bipush (v := 6) hx hb dX5_init_5 (by decide) ?_
  refine newI C0 hK hP hD hS hA (N := 6) (by decide) (by decide) (by decide) (Nat.le_of_ble_eq_true rfl) (Nat.le_of_ble_eq_true rfl) dX5_init_7 (fun q1 H hP hD hS => ?_)
  have hP : va_P g.1 vwCl [(h0, .inr (5, [.null, .null, .int 0])), (q1, .inl (g.2.1, 6, .inl (fun _ => 0)))] H := hP
  have hD : va_D (A1 h0 s.heap.size) [(h0, .inr (5, [.null, .null, .int 0])), (q1, .inl (g.2.1, 6, .inl (fun _ => 0)))] := hD
  refine putF_C C0 hin hK hP hD hS iwX5 tyX5_ok nmX5 0 rfl rfl 1 (by decide) mF_X5_9 rfl rfl rfl rfl rfl (Nat.le_of_ble_eq_true rfl) rfl dX5_init_9 (fun H locs hP hD hS => ?_)
  have hP : va_P g.1 vwCl [(h0, .inr (5, [.null, .ref q1, .int 0])), (q1, .inl (g.2.1, 6, .inl (fun _ => 0)))] H := hP
  have hD : va_D (A1 h0 s.heap.size) [(h0, .inr (5, [.null, .ref q1, .int 0])), (q1, .inl (g.2.1, 6, .inl (fun _ => 0)))] := hD
  refine lv_aload_n hx hb dX5_init_12 rfl (lv_at hl 0 rfl) ?_
  refine lv_iconst (v := 0) hx hb dX5_init_13 (by decide) ?_
  refine put_C C0 hK hP hD hS iwX5 tyX5_ok nmX5 0 rfl rfl 2 (by decide) mF_X5_15 rfl rfl rfl rfl (Nat.le_of_ble_eq_true rfl) rfl dX5_init_14 (fun H locs hP hD hS => ?_)
  have hP : va_P g.1 vwCl [(h0, .inr (5, [.null, .ref q1, .int 0])), (q1, .inl (g.2.1, 6, .inl (fun _ => 0)))] H := hP
  have hD : va_D (A1 h0 s.heap.size) [(h0, .inr (5, [.null, .ref q1, .int 0])), (q1, .inl (g.2.1, 6, .inl (fun _ => 0)))] := hD
  refine lv_aload_n hx hb dX5_init_17 rfl (lv_at hl 0 rfl) ?_
  refine lv_aload_n hx hb dX5_init_18 rfl (lv_at hl 1 rfl) ?_
  refine putF_C C0 hin hK hP hD hS iwX5 tyX5_ok nmX5 0 rfl rfl 0 (by decide) mF_X5_19 rfl rfl rfl rfl rfl (Nat.le_of_ble_eq_true rfl) rfl dX5_init_19 (fun H locs hP hD hS => ?_)
  have hP : va_P g.1 vwCl [(h0, .inr (5, [.ref r1, .ref q1, .int 0])), (q1, .inl (g.2.1, 6, .inl (fun _ => 0)))] H := hP
  have hD : va_D (A1 h0 s.heap.size) [(h0, .inr (5, [.ref r1, .ref q1, .int 0])), (q1, .inl (g.2.1, 6, .inl (fun _ => 0)))] := hD
  exact ret_C C0 (fun i => [h0, q1].getD i 0) rfl hP hD hS dX5_init_22
def bX2 (g : gG) (r1 : Nat) (r2 : Nat) (r3 : Nat) (q : Nat → Nat) : va_W := [(q 0, .inr (2, [.ref r1, .ref r2, .ref r3, .ref (q 1), .int 0])), (q 1, .inl (g.2.1, 20, .inl (fun _ => 0)))]
theorem pkX2_init : pkI yX2_init cX2_init 4 3 := ⟨mI_X2_init, mN_X2, mC_X2_init, by decide +kernel, rfl⟩
set_option maxHeartbeats 4000000 in
set_option maxRecDepth 100000 in
theorem kX2_init (l : Launch) (g : gG) (h0 r1 r2 r3 sz : Nat) : Met l yX2_init (Cond.code yX2_init cX2_init 4 none :: gw) { frames := 1, cells := 1, slots := 20, locals := 24 } (pC [(h0, .inr (2, [.null, .null, .null, .null, .int 0]))] (eN g) g sz [.ref h0, .ref r1, .ref r2, .ref r3]) (qC (bX2 g r1 r2 r3) g h0 sz) 1 20 (A1 h0 sz) := by
  refine met_ofC (by decide) rfl (Nat.le_of_ble_eq_true rfl) ?_
  intro p e s m args below meth c ls C0 hin hP hD hl
  obtain ⟨hx, hb, hml, hown, hts, hr, hlk, hK, hN, hO⟩ := id C0
  have hl : lv_has ls 4 [(0, .ref h0), (1, .ref r1), (2, .ref r2), (3, .ref r3)] := hl
  have hA : ∀ q : Nat, s.heap.size ≤ q → A1 h0 s.heap.size q := fun q h => Or.inr h
  have hS : va_S (A1 h0 s.heap.size) s.heap s.heap [] := va_S.rf
  refine lv_aload_n hx hb dX2_init_0 rfl (lv_at hl 0 rfl) ?_
  refine W.objInit hx hb hown (hts _ mL_X2_3) (hts _ mI_objectInit) (hts _ mC_objectInit) rfl (by rw [hml]; exact hl.1) rfl dX2_init_1 (Nat.le_of_ble_eq_true rfl) (Nat.le_of_ble_eq_true rfl) ?_
  refine W.eq (g2 := F0 m 4 ls []) rfl ?_
  refine lv_aload_n hx hb dX2_init_4 rfl (lv_at hl 0 rfl) ?_
  refine lv_bipush (v := 20) hx hb dX2_init_5 (by decide) ?_
  refine newI C0 hK hP hD hS hA (N := 20) (by decide) (by decide) (by decide) (Nat.le_of_ble_eq_true rfl) (Nat.le_of_ble_eq_true rfl) dX2_init_7 (fun q1 H hP hD hS => ?_)
  have hP : va_P g.1 vwCl [(h0, .inr (2, [.null, .null, .null, .null, .int 0])), (q1, .inl (g.2.1, 20, .inl (fun _ => 0)))] H := hP
  have hD : va_D (A1 h0 s.heap.size) [(h0, .inr (2, [.null, .null, .null, .null, .int 0])), (q1, .inl (g.2.1, 20, .inl (fun _ => 0)))] := hD
  refine putF_C C0 hin hK hP hD hS iwX2 tyX2_ok nmX2 0 rfl rfl 3 (by decide) mF_X2_9 rfl rfl rfl rfl rfl (Nat.le_of_ble_eq_true rfl) rfl dX2_init_9 (fun H locs hP hD hS => ?_)
  have hP : va_P g.1 vwCl [(h0, .inr (2, [.null, .null, .null, .ref q1, .int 0])), (q1, .inl (g.2.1, 20, .inl (fun _ => 0)))] H := hP
  have hD : va_D (A1 h0 s.heap.size) [(h0, .inr (2, [.null, .null, .null, .ref q1, .int 0])), (q1, .inl (g.2.1, 20, .inl (fun _ => 0)))] := hD
  refine lv_aload_n hx hb dX2_init_12 rfl (lv_at hl 0 rfl) ?_
  refine lv_iconst (v := 0) hx hb dX2_init_13 (by decide) ?_
  refine put_C C0 hK hP hD hS iwX2 tyX2_ok nmX2 0 rfl rfl 4 (by decide) mF_X2_15 rfl rfl rfl rfl (Nat.le_of_ble_eq_true rfl) rfl dX2_init_14 (fun H locs hP hD hS => ?_)
  have hP : va_P g.1 vwCl [(h0, .inr (2, [.null, .null, .null, .ref q1, .int 0])), (q1, .inl (g.2.1, 20, .inl (fun _ => 0)))] H := hP
  have hD : va_D (A1 h0 s.heap.size) [(h0, .inr (2, [.null, .null, .null, .ref q1, .int 0])), (q1, .inl (g.2.1, 20, .inl (fun _ => 0)))] := hD
  refine lv_aload_n hx hb dX2_init_17 rfl (lv_at hl 0 rfl) ?_
  refine lv_aload_n hx hb dX2_init_18 rfl (lv_at hl 1 rfl) ?_
  refine putF_C C0 hin hK hP hD hS iwX2 tyX2_ok nmX2 0 rfl rfl 0 (by decide) mF_X2_19 rfl rfl rfl rfl rfl (Nat.le_of_ble_eq_true rfl) rfl dX2_init_19 (fun H locs hP hD hS => ?_)
  have hP : va_P g.1 vwCl [(h0, .inr (2, [.ref r1, .null, .null, .ref q1, .int 0])), (q1, .inl (g.2.1, 20, .inl (fun _ => 0)))] H := hP
  have hD : va_D (A1 h0 s.heap.size) [(h0, .inr (2, [.ref r1, .null, .null, .ref q1, .int 0])), (q1, .inl (g.2.1, 20, .inl (fun _ => 0)))] := hD
  refine lv_aload_n hx hb dX2_init_22 rfl (lv_at hl 0 rfl) ?_
  refine lv_aload_n hx hb dX2_init_23 rfl (lv_at hl 2 rfl) ?_
  refine putF_C C0 hin hK hP hD hS iwX2 tyX2_ok nmX2 0 rfl rfl 1 (by decide) mF_X2_23 rfl rfl rfl rfl rfl (Nat.le_of_ble_eq_true rfl) rfl dX2_init_24 (fun H locs hP hD hS => ?_)
  have hP : va_P g.1 vwCl [(h0, .inr (2, [.ref r1, .ref r2, .null, .ref q1, .int 0])), (q1, .inl (g.2.1, 20, .inl (fun _ => 0)))] H := hP
  have hD : va_D (A1 h0 s.heap.size) [(h0, .inr (2, [.ref r1, .ref r2, .null, .ref q1, .int 0])), (q1, .inl (g.2.1, 20, .inl (fun _ => 0)))] := hD
  refine lv_aload_n hx hb dX2_init_27 rfl (lv_at hl 0 rfl) ?_
  refine lv_aload_n hx hb dX2_init_28 rfl (lv_at hl 3 rfl) ?_
  refine putF_C C0 hin hK hP hD hS iwX2 tyX2_ok nmX2 0 rfl rfl 2 (by decide) mF_X2_27 rfl rfl rfl rfl rfl (Nat.le_of_ble_eq_true rfl) rfl dX2_init_29 (fun H locs hP hD hS => ?_)
  have hP : va_P g.1 vwCl [(h0, .inr (2, [.ref r1, .ref r2, .ref r3, .ref q1, .int 0])), (q1, .inl (g.2.1, 20, .inl (fun _ => 0)))] H := hP
  have hD : va_D (A1 h0 s.heap.size) [(h0, .inr (2, [.ref r1, .ref r2, .ref r3, .ref q1, .int 0])), (q1, .inl (g.2.1, 20, .inl (fun _ => 0)))] := hD
  exact ret_C C0 (fun i => [h0, q1].getD i 0) rfl hP hD hS dX2_init_32
def bX1 (g : gG) (q : Nat → Nat) : va_W := [(q 0, .inr (1, [.ref (q 1), .ref (q 2), .ref (q 3), .ref (q 4), .ref (q 5), .int 0])), (q 1, .inl (g.2.1, 5, .inl (fun _ => 0))), (q 2, .inl (g.2.1, 5, .inl (fun _ => 0))), (q 3, .inl (g.2.1, 5, .inl (fun _ => 0))), (q 4, .inl (g.2.1, 5, .inl (fun _ => 0))), (q 5, .inl (g.2.1, 3, .inl (upd (upd (upd (fun _ => 0) 0 10) 1 4) 2 2)))]
theorem pkX1_init : pkI yX1_init cX1_init 1 0 := ⟨mI_X1_init, mN_X1, mC_X1_init, by decide +kernel, rfl⟩
set_option maxHeartbeats 4000000 in
set_option maxRecDepth 100000 in
theorem kX1_init (l : Launch) (g : gG) (h0 sz : Nat) : Met l yX1_init (Cond.code yX1_init cX1_init 1 none :: gw) { frames := 1, cells := 5, slots := 23, locals := 24 } (pC [(h0, .inr (1, [.null, .null, .null, .null, .null, .int 0]))] (eN g) g sz [.ref h0]) (qC (bX1 g) g h0 sz) 5 23 (A1 h0 sz) := by
  refine met_ofC (by decide) rfl (Nat.le_of_ble_eq_true rfl) ?_
  intro p e s m args below meth c ls C0 hin hP hD hl
  obtain ⟨hx, hb, hml, hown, hts, hr, hlk, hK, hN, hO⟩ := id C0
  have hl : lv_has ls 1 [(0, .ref h0)] := hl
  have hA : ∀ q : Nat, s.heap.size ≤ q → A1 h0 s.heap.size q := fun q h => Or.inr h
  have hS : va_S (A1 h0 s.heap.size) s.heap s.heap [] := va_S.rf
  refine lv_aload_n hx hb dX1_init_0 rfl (lv_at hl 0 rfl) ?_
  refine W.objInit hx hb hown (hts _ mL_X1_3) (hts _ mI_objectInit) (hts _ mC_objectInit) rfl (by rw [hml]; exact hl.1) rfl dX1_init_1 (Nat.le_of_ble_eq_true rfl) (Nat.le_of_ble_eq_true rfl) ?_
  refine W.eq (g2 := F0 m 4 ls []) rfl ?_
  refine lv_aload_n hx hb dX1_init_4 rfl (lv_at hl 0 rfl) ?_
  refine lv_iconst (v := 5) hx hb dX1_init_5 (by decide) ?_
  refine newI C0 hK hP hD hS hA (N := 5) (by decide) (by decide) (by decide) (Nat.le_of_ble_eq_true rfl) (Nat.le_of_ble_eq_true rfl) dX1_init_6 (fun q1 H hP hD hS => ?_)
  have hP : va_P g.1 vwCl [(h0, .inr (1, [.null, .null, .null, .null, .null, .int 0])), (q1, .inl (g.2.1, 5, .inl (fun _ => 0)))] H := hP
  have hD : va_D (A1 h0 s.heap.size) [(h0, .inr (1, [.null, .null, .null, .null, .null, .int 0])), (q1, .inl (g.2.1, 5, .inl (fun _ => 0)))] := hD
  refine putF_C C0 hin hK hP hD hS iwX1 tyX1_ok nmX1 0 rfl rfl 0 (by decide) mF_X1_9 rfl rfl rfl rfl rfl (Nat.le_of_ble_eq_true rfl) rfl dX1_init_8 (fun H locs hP hD hS => ?_)
  have hP : va_P g.1 vwCl [(h0, .inr (1, [.ref q1, .null, .null, .null, .null, .int 0])), (q1, .inl (g.2.1, 5, .inl (fun _ => 0)))] H := hP
  have hD : va_D (A1 h0 s.heap.size) [(h0, .inr (1, [.ref q1, .null, .null, .null, .null, .int 0])), (q1, .inl (g.2.1, 5, .inl (fun _ => 0)))] := hD
  refine lv_aload_n hx hb dX1_init_11 rfl (lv_at hl 0 rfl) ?_
  refine lv_iconst (v := 5) hx hb dX1_init_12 (by decide) ?_
  refine newI C0 hK hP hD hS hA (N := 5) (by decide) (by decide) (by decide) (Nat.le_of_ble_eq_true rfl) (Nat.le_of_ble_eq_true rfl) dX1_init_13 (fun q2 H hP hD hS => ?_)
  have hP : va_P g.1 vwCl [(h0, .inr (1, [.ref q1, .null, .null, .null, .null, .int 0])), (q1, .inl (g.2.1, 5, .inl (fun _ => 0))), (q2, .inl (g.2.1, 5, .inl (fun _ => 0)))] H := hP
  have hD : va_D (A1 h0 s.heap.size) [(h0, .inr (1, [.ref q1, .null, .null, .null, .null, .int 0])), (q1, .inl (g.2.1, 5, .inl (fun _ => 0))), (q2, .inl (g.2.1, 5, .inl (fun _ => 0)))] := hD
  refine putF_C C0 hin hK hP hD hS iwX1 tyX1_ok nmX1 0 rfl rfl 1 (by decide) mF_X1_15 rfl rfl rfl rfl rfl (Nat.le_of_ble_eq_true rfl) rfl dX1_init_15 (fun H locs hP hD hS => ?_)
  have hP : va_P g.1 vwCl [(h0, .inr (1, [.ref q1, .ref q2, .null, .null, .null, .int 0])), (q1, .inl (g.2.1, 5, .inl (fun _ => 0))), (q2, .inl (g.2.1, 5, .inl (fun _ => 0)))] H := hP
  have hD : va_D (A1 h0 s.heap.size) [(h0, .inr (1, [.ref q1, .ref q2, .null, .null, .null, .int 0])), (q1, .inl (g.2.1, 5, .inl (fun _ => 0))), (q2, .inl (g.2.1, 5, .inl (fun _ => 0)))] := hD
  refine lv_aload_n hx hb dX1_init_18 rfl (lv_at hl 0 rfl) ?_
  refine lv_iconst (v := 5) hx hb dX1_init_19 (by decide) ?_
  refine newI C0 hK hP hD hS hA (N := 5) (by decide) (by decide) (by decide) (Nat.le_of_ble_eq_true rfl) (Nat.le_of_ble_eq_true rfl) dX1_init_20 (fun q3 H hP hD hS => ?_)
  have hP : va_P g.1 vwCl [(h0, .inr (1, [.ref q1, .ref q2, .null, .null, .null, .int 0])), (q1, .inl (g.2.1, 5, .inl (fun _ => 0))), (q2, .inl (g.2.1, 5, .inl (fun _ => 0))), (q3, .inl (g.2.1, 5, .inl (fun _ => 0)))] H := hP
  have hD : va_D (A1 h0 s.heap.size) [(h0, .inr (1, [.ref q1, .ref q2, .null, .null, .null, .int 0])), (q1, .inl (g.2.1, 5, .inl (fun _ => 0))), (q2, .inl (g.2.1, 5, .inl (fun _ => 0))), (q3, .inl (g.2.1, 5, .inl (fun _ => 0)))] := hD
  refine putF_C C0 hin hK hP hD hS iwX1 tyX1_ok nmX1 0 rfl rfl 2 (by decide) mF_X1_18 rfl rfl rfl rfl rfl (Nat.le_of_ble_eq_true rfl) rfl dX1_init_22 (fun H locs hP hD hS => ?_)
  have hP : va_P g.1 vwCl [(h0, .inr (1, [.ref q1, .ref q2, .ref q3, .null, .null, .int 0])), (q1, .inl (g.2.1, 5, .inl (fun _ => 0))), (q2, .inl (g.2.1, 5, .inl (fun _ => 0))), (q3, .inl (g.2.1, 5, .inl (fun _ => 0)))] H := hP
  have hD : va_D (A1 h0 s.heap.size) [(h0, .inr (1, [.ref q1, .ref q2, .ref q3, .null, .null, .int 0])), (q1, .inl (g.2.1, 5, .inl (fun _ => 0))), (q2, .inl (g.2.1, 5, .inl (fun _ => 0))), (q3, .inl (g.2.1, 5, .inl (fun _ => 0)))] := hD
  refine lv_aload_n hx hb dX1_init_25 rfl (lv_at hl 0 rfl) ?_
  refine lv_iconst (v := 5) hx hb dX1_init_26 (by decide) ?_
  refine newI C0 hK hP hD hS hA (N := 5) (by decide) (by decide) (by decide) (Nat.le_of_ble_eq_true rfl) (Nat.le_of_ble_eq_true rfl) dX1_init_27 (fun q4 H hP hD hS => ?_)
  have hP : va_P g.1 vwCl [(h0, .inr (1, [.ref q1, .ref q2, .ref q3, .null, .null, .int 0])), (q1, .inl (g.2.1, 5, .inl (fun _ => 0))), (q2, .inl (g.2.1, 5, .inl (fun _ => 0))), (q3, .inl (g.2.1, 5, .inl (fun _ => 0))), (q4, .inl (g.2.1, 5, .inl (fun _ => 0)))] H := hP
  have hD : va_D (A1 h0 s.heap.size) [(h0, .inr (1, [.ref q1, .ref q2, .ref q3, .null, .null, .int 0])), (q1, .inl (g.2.1, 5, .inl (fun _ => 0))), (q2, .inl (g.2.1, 5, .inl (fun _ => 0))), (q3, .inl (g.2.1, 5, .inl (fun _ => 0))), (q4, .inl (g.2.1, 5, .inl (fun _ => 0)))] := hD
  refine putF_C C0 hin hK hP hD hS iwX1 tyX1_ok nmX1 0 rfl rfl 3 (by decide) mF_X1_21 rfl rfl rfl rfl rfl (Nat.le_of_ble_eq_true rfl) rfl dX1_init_29 (fun H locs hP hD hS => ?_)
  have hP : va_P g.1 vwCl [(h0, .inr (1, [.ref q1, .ref q2, .ref q3, .ref q4, .null, .int 0])), (q1, .inl (g.2.1, 5, .inl (fun _ => 0))), (q2, .inl (g.2.1, 5, .inl (fun _ => 0))), (q3, .inl (g.2.1, 5, .inl (fun _ => 0))), (q4, .inl (g.2.1, 5, .inl (fun _ => 0)))] H := hP
  have hD : va_D (A1 h0 s.heap.size) [(h0, .inr (1, [.ref q1, .ref q2, .ref q3, .ref q4, .null, .int 0])), (q1, .inl (g.2.1, 5, .inl (fun _ => 0))), (q2, .inl (g.2.1, 5, .inl (fun _ => 0))), (q3, .inl (g.2.1, 5, .inl (fun _ => 0))), (q4, .inl (g.2.1, 5, .inl (fun _ => 0)))] := hD
  refine lv_aload_n hx hb dX1_init_32 rfl (lv_at hl 0 rfl) ?_
  refine lv_iconst (v := 3) hx hb dX1_init_33 (by decide) ?_
  refine newI C0 hK hP hD hS hA (N := 3) (by decide) (by decide) (by decide) (Nat.le_of_ble_eq_true rfl) (Nat.le_of_ble_eq_true rfl) dX1_init_34 (fun q5 H hP hD hS => ?_)
  have hP : va_P g.1 vwCl [(h0, .inr (1, [.ref q1, .ref q2, .ref q3, .ref q4, .null, .int 0])), (q1, .inl (g.2.1, 5, .inl (fun _ => 0))), (q2, .inl (g.2.1, 5, .inl (fun _ => 0))), (q3, .inl (g.2.1, 5, .inl (fun _ => 0))), (q4, .inl (g.2.1, 5, .inl (fun _ => 0))), (q5, .inl (g.2.1, 3, .inl (fun _ => 0)))] H := hP
  have hD : va_D (A1 h0 s.heap.size) [(h0, .inr (1, [.ref q1, .ref q2, .ref q3, .ref q4, .null, .int 0])), (q1, .inl (g.2.1, 5, .inl (fun _ => 0))), (q2, .inl (g.2.1, 5, .inl (fun _ => 0))), (q3, .inl (g.2.1, 5, .inl (fun _ => 0))), (q4, .inl (g.2.1, 5, .inl (fun _ => 0))), (q5, .inl (g.2.1, 3, .inl (fun _ => 0)))] := hD
  refine lv_dup hx hb dX1_init_36 rfl ?_
  refine lv_iconst (v := 0) hx hb dX1_init_37 (by decide) ?_
  refine lv_bipush (v := 10) hx hb dX1_init_38 (by decide) ?_
  refine va_iast hx hb hK hP hD hS 5 0 rfl rfl (show ¬ ((0 : Int32) < 0 ∨ 3 ≤ (0 : Int32).toNatClampNeg) by decide) dX1_init_40 (fun H locs hP hD hS => ?_)
  have hP : va_P g.1 vwCl [(h0, .inr (1, [.ref q1, .ref q2, .ref q3, .ref q4, .null, .int 0])), (q1, .inl (g.2.1, 5, .inl (fun _ => 0))), (q2, .inl (g.2.1, 5, .inl (fun _ => 0))), (q3, .inl (g.2.1, 5, .inl (fun _ => 0))), (q4, .inl (g.2.1, 5, .inl (fun _ => 0))), (q5, .inl (g.2.1, 3, .inl (upd (fun _ => 0) 0 10)))] H := hP
  have hD : va_D (A1 h0 s.heap.size) [(h0, .inr (1, [.ref q1, .ref q2, .ref q3, .ref q4, .null, .int 0])), (q1, .inl (g.2.1, 5, .inl (fun _ => 0))), (q2, .inl (g.2.1, 5, .inl (fun _ => 0))), (q3, .inl (g.2.1, 5, .inl (fun _ => 0))), (q4, .inl (g.2.1, 5, .inl (fun _ => 0))), (q5, .inl (g.2.1, 3, .inl (upd (fun _ => 0) 0 10)))] := hD
  refine lv_dup hx hb dX1_init_41 rfl ?_
  refine lv_iconst (v := 1) hx hb dX1_init_42 (by decide) ?_
  refine lv_iconst (v := 4) hx hb dX1_init_43 (by decide) ?_
  refine va_iast hx hb hK hP hD hS 5 0 rfl rfl (show ¬ ((1 : Int32) < 0 ∨ 3 ≤ (1 : Int32).toNatClampNeg) by decide) dX1_init_44 (fun H locs hP hD hS => ?_)
  have hP : va_P g.1 vwCl [(h0, .inr (1, [.ref q1, .ref q2, .ref q3, .ref q4, .null, .int 0])), (q1, .inl (g.2.1, 5, .inl (fun _ => 0))), (q2, .inl (g.2.1, 5, .inl (fun _ => 0))), (q3, .inl (g.2.1, 5, .inl (fun _ => 0))), (q4, .inl (g.2.1, 5, .inl (fun _ => 0))), (q5, .inl (g.2.1, 3, .inl (upd (upd (fun _ => 0) 0 10) 1 4)))] H := hP
  have hD : va_D (A1 h0 s.heap.size) [(h0, .inr (1, [.ref q1, .ref q2, .ref q3, .ref q4, .null, .int 0])), (q1, .inl (g.2.1, 5, .inl (fun _ => 0))), (q2, .inl (g.2.1, 5, .inl (fun _ => 0))), (q3, .inl (g.2.1, 5, .inl (fun _ => 0))), (q4, .inl (g.2.1, 5, .inl (fun _ => 0))), (q5, .inl (g.2.1, 3, .inl (upd (upd (fun _ => 0) 0 10) 1 4)))] := hD
  refine lv_dup hx hb dX1_init_45 rfl ?_
  refine lv_iconst (v := 2) hx hb dX1_init_46 (by decide) ?_
  refine lv_iconst (v := 2) hx hb dX1_init_47 (by decide) ?_
  refine va_iast hx hb hK hP hD hS 5 0 rfl rfl (show ¬ ((2 : Int32) < 0 ∨ 3 ≤ (2 : Int32).toNatClampNeg) by decide) dX1_init_48 (fun H locs hP hD hS => ?_)
  have hP : va_P g.1 vwCl [(h0, .inr (1, [.ref q1, .ref q2, .ref q3, .ref q4, .null, .int 0])), (q1, .inl (g.2.1, 5, .inl (fun _ => 0))), (q2, .inl (g.2.1, 5, .inl (fun _ => 0))), (q3, .inl (g.2.1, 5, .inl (fun _ => 0))), (q4, .inl (g.2.1, 5, .inl (fun _ => 0))), (q5, .inl (g.2.1, 3, .inl (upd (upd (upd (fun _ => 0) 0 10) 1 4) 2 2)))] H := hP
  have hD : va_D (A1 h0 s.heap.size) [(h0, .inr (1, [.ref q1, .ref q2, .ref q3, .ref q4, .null, .int 0])), (q1, .inl (g.2.1, 5, .inl (fun _ => 0))), (q2, .inl (g.2.1, 5, .inl (fun _ => 0))), (q3, .inl (g.2.1, 5, .inl (fun _ => 0))), (q4, .inl (g.2.1, 5, .inl (fun _ => 0))), (q5, .inl (g.2.1, 3, .inl (upd (upd (upd (fun _ => 0) 0 10) 1 4) 2 2)))] := hD
  refine putF_C C0 hin hK hP hD hS iwX1 tyX1_ok nmX1 0 rfl rfl 4 (by decide) mF_X1_24 rfl rfl rfl rfl rfl (Nat.le_of_ble_eq_true rfl) rfl dX1_init_49 (fun H locs hP hD hS => ?_)
  have hP : va_P g.1 vwCl [(h0, .inr (1, [.ref q1, .ref q2, .ref q3, .ref q4, .ref q5, .int 0])), (q1, .inl (g.2.1, 5, .inl (fun _ => 0))), (q2, .inl (g.2.1, 5, .inl (fun _ => 0))), (q3, .inl (g.2.1, 5, .inl (fun _ => 0))), (q4, .inl (g.2.1, 5, .inl (fun _ => 0))), (q5, .inl (g.2.1, 3, .inl (upd (upd (upd (fun _ => 0) 0 10) 1 4) 2 2)))] H := hP
  have hD : va_D (A1 h0 s.heap.size) [(h0, .inr (1, [.ref q1, .ref q2, .ref q3, .ref q4, .ref q5, .int 0])), (q1, .inl (g.2.1, 5, .inl (fun _ => 0))), (q2, .inl (g.2.1, 5, .inl (fun _ => 0))), (q3, .inl (g.2.1, 5, .inl (fun _ => 0))), (q4, .inl (g.2.1, 5, .inl (fun _ => 0))), (q5, .inl (g.2.1, 3, .inl (upd (upd (upd (fun _ => 0) 0 10) 1 4) 2 2)))] := hD
  refine lv_aload_n hx hb dX1_init_52 rfl (lv_at hl 0 rfl) ?_
  refine lv_iconst (v := 0) hx hb dX1_init_53 (by decide) ?_
  refine put_C C0 hK hP hD hS iwX1 tyX1_ok nmX1 0 rfl rfl 5 (by decide) mF_X1_27 rfl rfl rfl rfl (Nat.le_of_ble_eq_true rfl) rfl dX1_init_54 (fun H locs hP hD hS => ?_)
  have hP : va_P g.1 vwCl [(h0, .inr (1, [.ref q1, .ref q2, .ref q3, .ref q4, .ref q5, .int 0])), (q1, .inl (g.2.1, 5, .inl (fun _ => 0))), (q2, .inl (g.2.1, 5, .inl (fun _ => 0))), (q3, .inl (g.2.1, 5, .inl (fun _ => 0))), (q4, .inl (g.2.1, 5, .inl (fun _ => 0))), (q5, .inl (g.2.1, 3, .inl (upd (upd (upd (fun _ => 0) 0 10) 1 4) 2 2)))] H := hP
  have hD : va_D (A1 h0 s.heap.size) [(h0, .inr (1, [.ref q1, .ref q2, .ref q3, .ref q4, .ref q5, .int 0])), (q1, .inl (g.2.1, 5, .inl (fun _ => 0))), (q2, .inl (g.2.1, 5, .inl (fun _ => 0))), (q3, .inl (g.2.1, 5, .inl (fun _ => 0))), (q4, .inl (g.2.1, 5, .inl (fun _ => 0))), (q5, .inl (g.2.1, 3, .inl (upd (upd (upd (fun _ => 0) 0 10) 1 4) 2 2)))] := hD
  exact ret_C C0 (fun i => [h0, q1, q2, q3, q4, q5].getD i 0) rfl hP hD hS dX1_init_57
def bX0 (g : gG) (r1 : Nat) (q : Nat → Nat) : va_W := [(q 0, .inr (0, [.ref r1, .ref (q 1), .int 0])), (q 1, .inl (g.2.1, 10, .inl (fun _ => 0)))]
theorem pkX0_init : pkI yX0_init cX0_init 2 1 := ⟨mI_X0_init, mN_X0, mC_X0_init, by decide +kernel, rfl⟩
set_option maxHeartbeats 4000000 in
set_option maxRecDepth 100000 in
theorem kX0_init (l : Launch) (g : gG) (h0 r1 sz : Nat) : Met l yX0_init (Cond.code yX0_init cX0_init 2 none :: gw) { frames := 1, cells := 1, slots := 10, locals := 24 } (pC [(h0, .inr (0, [.null, .null, .int 0]))] (eN g) g sz [.ref h0, .ref r1]) (qC (bX0 g r1) g h0 sz) 1 10 (A1 h0 sz) := by
  refine met_ofC (by decide) rfl (Nat.le_of_ble_eq_true rfl) ?_
  intro p e s m args below meth c ls C0 hin hP hD hl
  obtain ⟨hx, hb, hml, hown, hts, hr, hlk, hK, hN, hO⟩ := id C0
  have hl : lv_has ls 2 [(0, .ref h0), (1, .ref r1)] := hl
  have hA : ∀ q : Nat, s.heap.size ≤ q → A1 h0 s.heap.size q := fun q h => Or.inr h
  have hS : va_S (A1 h0 s.heap.size) s.heap s.heap [] := va_S.rf
  refine lv_aload_n hx hb dX0_init_0 rfl (lv_at hl 0 rfl) ?_
  refine W.objInit hx hb hown (hts _ mL_X0_3) (hts _ mI_objectInit) (hts _ mC_objectInit) rfl (by rw [hml]; exact hl.1) rfl dX0_init_1 (Nat.le_of_ble_eq_true rfl) (Nat.le_of_ble_eq_true rfl) ?_
  refine W.eq (g2 := F0 m 4 ls []) rfl ?_
  refine lv_aload_n hx hb dX0_init_4 rfl (lv_at hl 0 rfl) ?_
  refine lv_bipush (v := 10) hx hb dX0_init_5 (by decide) ?_
  refine newI C0 hK hP hD hS hA (N := 10) (by decide) (by decide) (by decide) (Nat.le_of_ble_eq_true rfl) (Nat.le_of_ble_eq_true rfl) dX0_init_7 (fun q1 H hP hD hS => ?_)
  have hP : va_P g.1 vwCl [(h0, .inr (0, [.null, .null, .int 0])), (q1, .inl (g.2.1, 10, .inl (fun _ => 0)))] H := hP
  have hD : va_D (A1 h0 s.heap.size) [(h0, .inr (0, [.null, .null, .int 0])), (q1, .inl (g.2.1, 10, .inl (fun _ => 0)))] := hD
  refine putF_C C0 hin hK hP hD hS iwX0 tyX0_ok nmX0 0 rfl rfl 1 (by decide) mF_X0_9 rfl rfl rfl rfl rfl (Nat.le_of_ble_eq_true rfl) rfl dX0_init_9 (fun H locs hP hD hS => ?_)
  have hP : va_P g.1 vwCl [(h0, .inr (0, [.null, .ref q1, .int 0])), (q1, .inl (g.2.1, 10, .inl (fun _ => 0)))] H := hP
  have hD : va_D (A1 h0 s.heap.size) [(h0, .inr (0, [.null, .ref q1, .int 0])), (q1, .inl (g.2.1, 10, .inl (fun _ => 0)))] := hD
  refine lv_aload_n hx hb dX0_init_12 rfl (lv_at hl 0 rfl) ?_
  refine lv_iconst (v := 0) hx hb dX0_init_13 (by decide) ?_
  refine put_C C0 hK hP hD hS iwX0 tyX0_ok nmX0 0 rfl rfl 2 (by decide) mF_X0_15 rfl rfl rfl rfl (Nat.le_of_ble_eq_true rfl) rfl dX0_init_14 (fun H locs hP hD hS => ?_)
  have hP : va_P g.1 vwCl [(h0, .inr (0, [.null, .ref q1, .int 0])), (q1, .inl (g.2.1, 10, .inl (fun _ => 0)))] H := hP
  have hD : va_D (A1 h0 s.heap.size) [(h0, .inr (0, [.null, .ref q1, .int 0])), (q1, .inl (g.2.1, 10, .inl (fun _ => 0)))] := hD
  refine lv_aload_n hx hb dX0_init_17 rfl (lv_at hl 0 rfl) ?_
  refine lv_aload_n hx hb dX0_init_18 rfl (lv_at hl 1 rfl) ?_
  refine putF_C C0 hin hK hP hD hS iwX0 tyX0_ok nmX0 0 rfl rfl 0 (by decide) mF_X0_19 rfl rfl rfl rfl rfl (Nat.le_of_ble_eq_true rfl) rfl dX0_init_19 (fun H locs hP hD hS => ?_)
  have hP : va_P g.1 vwCl [(h0, .inr (0, [.ref r1, .ref q1, .int 0])), (q1, .inl (g.2.1, 10, .inl (fun _ => 0)))] H := hP
  have hD : va_D (A1 h0 s.heap.size) [(h0, .inr (0, [.ref r1, .ref q1, .int 0])), (q1, .inl (g.2.1, 10, .inl (fun _ => 0)))] := hD
  exact ret_C C0 (fun i => [h0, q1].getD i 0) rfl hP hD hS dX0_init_22
def bX3 (g : gG) (q : Nat → Nat) : va_W := [(q 0, .inr (3, [.ref (q 1), .ref (q 2), .ref (q 3), .ref (q 4), .ref (q 5), .int 0, .int 0])), (q 1, .inl (g.2.1, 100, .inl (fun _ => 0))), (q 2, .inl (g.2.1, 100, .inl (fun _ => 0))), (q 3, .inl (g.2.1, 100, .inl (fun _ => 0))), (q 4, .inl (g.2.1, 40, .inl (fun _ => 0))), (q 5, .inl (g.2.1, 40, .inl (fun _ => 0)))]
theorem pkX3_init : pkI yX3_init cX3_init 1 0 := ⟨mI_X3_init, mN_X3, mC_X3_init, by decide +kernel, rfl⟩
set_option maxHeartbeats 4000000 in
set_option maxRecDepth 100000 in
theorem kX3_init (l : Launch) (g : gG) (h0 sz : Nat) : Met l yX3_init (Cond.code yX3_init cX3_init 1 none :: gw) { frames := 1, cells := 5, slots := 380, locals := 24 } (pC [(h0, .inr (3, [.null, .null, .null, .null, .null, .int 0, .int 0]))] (eN g) g sz [.ref h0]) (qC (bX3 g) g h0 sz) 5 380 (A1 h0 sz) := by
  refine met_ofC (by decide) rfl (Nat.le_of_ble_eq_true rfl) ?_
  intro p e s m args below meth c ls C0 hin hP hD hl
  obtain ⟨hx, hb, hml, hown, hts, hr, hlk, hK, hN, hO⟩ := id C0
  have hl : lv_has ls 1 [(0, .ref h0)] := hl
  have hA : ∀ q : Nat, s.heap.size ≤ q → A1 h0 s.heap.size q := fun q h => Or.inr h
  have hS : va_S (A1 h0 s.heap.size) s.heap s.heap [] := va_S.rf
  refine lv_aload_n hx hb dX3_init_0 rfl (lv_at hl 0 rfl) ?_
  refine W.objInit hx hb hown (hts _ mL_X3_3) (hts _ mI_objectInit) (hts _ mC_objectInit) rfl (by rw [hml]; exact hl.1) rfl dX3_init_1 (Nat.le_of_ble_eq_true rfl) (Nat.le_of_ble_eq_true rfl) ?_
  refine W.eq (g2 := F0 m 4 ls []) rfl ?_
  refine lv_aload_n hx hb dX3_init_4 rfl (lv_at hl 0 rfl) ?_
  refine lv_bipush (v := 100) hx hb dX3_init_5 (by decide) ?_
  refine newI C0 hK hP hD hS hA (N := 100) (by decide) (by decide) (by decide) (Nat.le_of_ble_eq_true rfl) (Nat.le_of_ble_eq_true rfl) dX3_init_7 (fun q1 H hP hD hS => ?_)
  have hP : va_P g.1 vwCl [(h0, .inr (3, [.null, .null, .null, .null, .null, .int 0, .int 0])), (q1, .inl (g.2.1, 100, .inl (fun _ => 0)))] H := hP
  have hD : va_D (A1 h0 s.heap.size) [(h0, .inr (3, [.null, .null, .null, .null, .null, .int 0, .int 0])), (q1, .inl (g.2.1, 100, .inl (fun _ => 0)))] := hD
  refine putF_C C0 hin hK hP hD hS iwX3 tyX3_ok nmX3 0 rfl rfl 0 (by decide) mF_X3_9 rfl rfl rfl rfl rfl (Nat.le_of_ble_eq_true rfl) rfl dX3_init_9 (fun H locs hP hD hS => ?_)
  have hP : va_P g.1 vwCl [(h0, .inr (3, [.ref q1, .null, .null, .null, .null, .int 0, .int 0])), (q1, .inl (g.2.1, 100, .inl (fun _ => 0)))] H := hP
  have hD : va_D (A1 h0 s.heap.size) [(h0, .inr (3, [.ref q1, .null, .null, .null, .null, .int 0, .int 0])), (q1, .inl (g.2.1, 100, .inl (fun _ => 0)))] := hD
  refine lv_aload_n hx hb dX3_init_12 rfl (lv_at hl 0 rfl) ?_
  refine lv_bipush (v := 100) hx hb dX3_init_13 (by decide) ?_
  refine newI C0 hK hP hD hS hA (N := 100) (by decide) (by decide) (by decide) (Nat.le_of_ble_eq_true rfl) (Nat.le_of_ble_eq_true rfl) dX3_init_15 (fun q2 H hP hD hS => ?_)
  have hP : va_P g.1 vwCl [(h0, .inr (3, [.ref q1, .null, .null, .null, .null, .int 0, .int 0])), (q1, .inl (g.2.1, 100, .inl (fun _ => 0))), (q2, .inl (g.2.1, 100, .inl (fun _ => 0)))] H := hP
  have hD : va_D (A1 h0 s.heap.size) [(h0, .inr (3, [.ref q1, .null, .null, .null, .null, .int 0, .int 0])), (q1, .inl (g.2.1, 100, .inl (fun _ => 0))), (q2, .inl (g.2.1, 100, .inl (fun _ => 0)))] := hD
  refine putF_C C0 hin hK hP hD hS iwX3 tyX3_ok nmX3 0 rfl rfl 1 (by decide) mF_X3_15 rfl rfl rfl rfl rfl (Nat.le_of_ble_eq_true rfl) rfl dX3_init_17 (fun H locs hP hD hS => ?_)
  have hP : va_P g.1 vwCl [(h0, .inr (3, [.ref q1, .ref q2, .null, .null, .null, .int 0, .int 0])), (q1, .inl (g.2.1, 100, .inl (fun _ => 0))), (q2, .inl (g.2.1, 100, .inl (fun _ => 0)))] H := hP
  have hD : va_D (A1 h0 s.heap.size) [(h0, .inr (3, [.ref q1, .ref q2, .null, .null, .null, .int 0, .int 0])), (q1, .inl (g.2.1, 100, .inl (fun _ => 0))), (q2, .inl (g.2.1, 100, .inl (fun _ => 0)))] := hD
  refine lv_aload_n hx hb dX3_init_20 rfl (lv_at hl 0 rfl) ?_
  refine lv_bipush (v := 100) hx hb dX3_init_21 (by decide) ?_
  refine newI C0 hK hP hD hS hA (N := 100) (by decide) (by decide) (by decide) (Nat.le_of_ble_eq_true rfl) (Nat.le_of_ble_eq_true rfl) dX3_init_23 (fun q3 H hP hD hS => ?_)
  have hP : va_P g.1 vwCl [(h0, .inr (3, [.ref q1, .ref q2, .null, .null, .null, .int 0, .int 0])), (q1, .inl (g.2.1, 100, .inl (fun _ => 0))), (q2, .inl (g.2.1, 100, .inl (fun _ => 0))), (q3, .inl (g.2.1, 100, .inl (fun _ => 0)))] H := hP
  have hD : va_D (A1 h0 s.heap.size) [(h0, .inr (3, [.ref q1, .ref q2, .null, .null, .null, .int 0, .int 0])), (q1, .inl (g.2.1, 100, .inl (fun _ => 0))), (q2, .inl (g.2.1, 100, .inl (fun _ => 0))), (q3, .inl (g.2.1, 100, .inl (fun _ => 0)))] := hD
  refine putF_C C0 hin hK hP hD hS iwX3 tyX3_ok nmX3 0 rfl rfl 2 (by decide) mF_X3_18 rfl rfl rfl rfl rfl (Nat.le_of_ble_eq_true rfl) rfl dX3_init_25 (fun H locs hP hD hS => ?_)
  have hP : va_P g.1 vwCl [(h0, .inr (3, [.ref q1, .ref q2, .ref q3, .null, .null, .int 0, .int 0])), (q1, .inl (g.2.1, 100, .inl (fun _ => 0))), (q2, .inl (g.2.1, 100, .inl (fun _ => 0))), (q3, .inl (g.2.1, 100, .inl (fun _ => 0)))] H := hP
  have hD : va_D (A1 h0 s.heap.size) [(h0, .inr (3, [.ref q1, .ref q2, .ref q3, .null, .null, .int 0, .int 0])), (q1, .inl (g.2.1, 100, .inl (fun _ => 0))), (q2, .inl (g.2.1, 100, .inl (fun _ => 0))), (q3, .inl (g.2.1, 100, .inl (fun _ => 0)))] := hD
  refine lv_aload_n hx hb dX3_init_28 rfl (lv_at hl 0 rfl) ?_
  refine lv_bipush (v := 40) hx hb dX3_init_29 (by decide) ?_
  refine newI C0 hK hP hD hS hA (N := 40) (by decide) (by decide) (by decide) (Nat.le_of_ble_eq_true rfl) (Nat.le_of_ble_eq_true rfl) dX3_init_31 (fun q4 H hP hD hS => ?_)
  have hP : va_P g.1 vwCl [(h0, .inr (3, [.ref q1, .ref q2, .ref q3, .null, .null, .int 0, .int 0])), (q1, .inl (g.2.1, 100, .inl (fun _ => 0))), (q2, .inl (g.2.1, 100, .inl (fun _ => 0))), (q3, .inl (g.2.1, 100, .inl (fun _ => 0))), (q4, .inl (g.2.1, 40, .inl (fun _ => 0)))] H := hP
  have hD : va_D (A1 h0 s.heap.size) [(h0, .inr (3, [.ref q1, .ref q2, .ref q3, .null, .null, .int 0, .int 0])), (q1, .inl (g.2.1, 100, .inl (fun _ => 0))), (q2, .inl (g.2.1, 100, .inl (fun _ => 0))), (q3, .inl (g.2.1, 100, .inl (fun _ => 0))), (q4, .inl (g.2.1, 40, .inl (fun _ => 0)))] := hD
  refine putF_C C0 hin hK hP hD hS iwX3 tyX3_ok nmX3 0 rfl rfl 3 (by decide) mF_X3_21 rfl rfl rfl rfl rfl (Nat.le_of_ble_eq_true rfl) rfl dX3_init_33 (fun H locs hP hD hS => ?_)
  have hP : va_P g.1 vwCl [(h0, .inr (3, [.ref q1, .ref q2, .ref q3, .ref q4, .null, .int 0, .int 0])), (q1, .inl (g.2.1, 100, .inl (fun _ => 0))), (q2, .inl (g.2.1, 100, .inl (fun _ => 0))), (q3, .inl (g.2.1, 100, .inl (fun _ => 0))), (q4, .inl (g.2.1, 40, .inl (fun _ => 0)))] H := hP
  have hD : va_D (A1 h0 s.heap.size) [(h0, .inr (3, [.ref q1, .ref q2, .ref q3, .ref q4, .null, .int 0, .int 0])), (q1, .inl (g.2.1, 100, .inl (fun _ => 0))), (q2, .inl (g.2.1, 100, .inl (fun _ => 0))), (q3, .inl (g.2.1, 100, .inl (fun _ => 0))), (q4, .inl (g.2.1, 40, .inl (fun _ => 0)))] := hD
  refine lv_aload_n hx hb dX3_init_36 rfl (lv_at hl 0 rfl) ?_
  refine lv_bipush (v := 40) hx hb dX3_init_37 (by decide) ?_
  refine newI C0 hK hP hD hS hA (N := 40) (by decide) (by decide) (by decide) (Nat.le_of_ble_eq_true rfl) (Nat.le_of_ble_eq_true rfl) dX3_init_39 (fun q5 H hP hD hS => ?_)
  have hP : va_P g.1 vwCl [(h0, .inr (3, [.ref q1, .ref q2, .ref q3, .ref q4, .null, .int 0, .int 0])), (q1, .inl (g.2.1, 100, .inl (fun _ => 0))), (q2, .inl (g.2.1, 100, .inl (fun _ => 0))), (q3, .inl (g.2.1, 100, .inl (fun _ => 0))), (q4, .inl (g.2.1, 40, .inl (fun _ => 0))), (q5, .inl (g.2.1, 40, .inl (fun _ => 0)))] H := hP
  have hD : va_D (A1 h0 s.heap.size) [(h0, .inr (3, [.ref q1, .ref q2, .ref q3, .ref q4, .null, .int 0, .int 0])), (q1, .inl (g.2.1, 100, .inl (fun _ => 0))), (q2, .inl (g.2.1, 100, .inl (fun _ => 0))), (q3, .inl (g.2.1, 100, .inl (fun _ => 0))), (q4, .inl (g.2.1, 40, .inl (fun _ => 0))), (q5, .inl (g.2.1, 40, .inl (fun _ => 0)))] := hD
  refine putF_C C0 hin hK hP hD hS iwX3 tyX3_ok nmX3 0 rfl rfl 4 (by decide) mF_X3_24 rfl rfl rfl rfl rfl (Nat.le_of_ble_eq_true rfl) rfl dX3_init_41 (fun H locs hP hD hS => ?_)
  have hP : va_P g.1 vwCl [(h0, .inr (3, [.ref q1, .ref q2, .ref q3, .ref q4, .ref q5, .int 0, .int 0])), (q1, .inl (g.2.1, 100, .inl (fun _ => 0))), (q2, .inl (g.2.1, 100, .inl (fun _ => 0))), (q3, .inl (g.2.1, 100, .inl (fun _ => 0))), (q4, .inl (g.2.1, 40, .inl (fun _ => 0))), (q5, .inl (g.2.1, 40, .inl (fun _ => 0)))] H := hP
  have hD : va_D (A1 h0 s.heap.size) [(h0, .inr (3, [.ref q1, .ref q2, .ref q3, .ref q4, .ref q5, .int 0, .int 0])), (q1, .inl (g.2.1, 100, .inl (fun _ => 0))), (q2, .inl (g.2.1, 100, .inl (fun _ => 0))), (q3, .inl (g.2.1, 100, .inl (fun _ => 0))), (q4, .inl (g.2.1, 40, .inl (fun _ => 0))), (q5, .inl (g.2.1, 40, .inl (fun _ => 0)))] := hD
  refine lv_aload_n hx hb dX3_init_44 rfl (lv_at hl 0 rfl) ?_
  refine lv_iconst (v := 0) hx hb dX3_init_45 (by decide) ?_
  refine put_C C0 hK hP hD hS iwX3 tyX3_ok nmX3 0 rfl rfl 5 (by decide) mF_X3_27 rfl rfl rfl rfl (Nat.le_of_ble_eq_true rfl) rfl dX3_init_46 (fun H locs hP hD hS => ?_)
  have hP : va_P g.1 vwCl [(h0, .inr (3, [.ref q1, .ref q2, .ref q3, .ref q4, .ref q5, .int 0, .int 0])), (q1, .inl (g.2.1, 100, .inl (fun _ => 0))), (q2, .inl (g.2.1, 100, .inl (fun _ => 0))), (q3, .inl (g.2.1, 100, .inl (fun _ => 0))), (q4, .inl (g.2.1, 40, .inl (fun _ => 0))), (q5, .inl (g.2.1, 40, .inl (fun _ => 0)))] H := hP
  have hD : va_D (A1 h0 s.heap.size) [(h0, .inr (3, [.ref q1, .ref q2, .ref q3, .ref q4, .ref q5, .int 0, .int 0])), (q1, .inl (g.2.1, 100, .inl (fun _ => 0))), (q2, .inl (g.2.1, 100, .inl (fun _ => 0))), (q3, .inl (g.2.1, 100, .inl (fun _ => 0))), (q4, .inl (g.2.1, 40, .inl (fun _ => 0))), (q5, .inl (g.2.1, 40, .inl (fun _ => 0)))] := hD
  refine lv_aload_n hx hb dX3_init_49 rfl (lv_at hl 0 rfl) ?_
  refine lv_iconst (v := 0) hx hb dX3_init_50 (by decide) ?_
  refine put_C C0 hK hP hD hS iwX3 tyX3_ok nmX3 0 rfl rfl 6 (by decide) mF_X3_31 rfl rfl rfl rfl (Nat.le_of_ble_eq_true rfl) rfl dX3_init_51 (fun H locs hP hD hS => ?_)
  have hP : va_P g.1 vwCl [(h0, .inr (3, [.ref q1, .ref q2, .ref q3, .ref q4, .ref q5, .int 0, .int 0])), (q1, .inl (g.2.1, 100, .inl (fun _ => 0))), (q2, .inl (g.2.1, 100, .inl (fun _ => 0))), (q3, .inl (g.2.1, 100, .inl (fun _ => 0))), (q4, .inl (g.2.1, 40, .inl (fun _ => 0))), (q5, .inl (g.2.1, 40, .inl (fun _ => 0)))] H := hP
  have hD : va_D (A1 h0 s.heap.size) [(h0, .inr (3, [.ref q1, .ref q2, .ref q3, .ref q4, .ref q5, .int 0, .int 0])), (q1, .inl (g.2.1, 100, .inl (fun _ => 0))), (q2, .inl (g.2.1, 100, .inl (fun _ => 0))), (q3, .inl (g.2.1, 100, .inl (fun _ => 0))), (q4, .inl (g.2.1, 40, .inl (fun _ => 0))), (q5, .inl (g.2.1, 40, .inl (fun _ => 0)))] := hD
  exact ret_C C0 (fun i => [h0, q1, q2, q3, q4, q5].getD i 0) rfl hP hD hS dX3_init_54
def bX6 (g : gG) (q : Nat → Nat) : va_W := [(q 0, .inr (6, [.ref (q 1), .int 0, .int 0])), (q 1, .inl (g.2.1, 12, .inl (fun _ => 0)))]
theorem pkX6_init : pkI yX6_init cX6_init 1 0 := ⟨mI_X6_init, mN_X6, mC_X6_init, by decide +kernel, rfl⟩
set_option maxHeartbeats 4000000 in
set_option maxRecDepth 100000 in
theorem kX6_init (l : Launch) (g : gG) (h0 sz : Nat) : Met l yX6_init (Cond.code yX6_init cX6_init 1 none :: gw) { frames := 1, cells := 1, slots := 12, locals := 24 } (pC [(h0, .inr (6, [.null, .int 0, .int 0]))] (eN g) g sz [.ref h0]) (qC (bX6 g) g h0 sz) 1 12 (A1 h0 sz) := by
  refine met_ofC (by decide) rfl (Nat.le_of_ble_eq_true rfl) ?_
  intro p e s m args below meth c ls C0 hin hP hD hl
  obtain ⟨hx, hb, hml, hown, hts, hr, hlk, hK, hN, hO⟩ := id C0
  have hl : lv_has ls 1 [(0, .ref h0)] := hl
  have hA : ∀ q : Nat, s.heap.size ≤ q → A1 h0 s.heap.size q := fun q h => Or.inr h
  have hS : va_S (A1 h0 s.heap.size) s.heap s.heap [] := va_S.rf
  refine lv_aload_n hx hb dX6_init_0 rfl (lv_at hl 0 rfl) ?_
  refine W.objInit hx hb hown (hts _ mL_X6_3) (hts _ mI_objectInit) (hts _ mC_objectInit) rfl (by rw [hml]; exact hl.1) rfl dX6_init_1 (Nat.le_of_ble_eq_true rfl) (Nat.le_of_ble_eq_true rfl) ?_
  refine W.eq (g2 := F0 m 4 ls []) rfl ?_
  refine lv_aload_n hx hb dX6_init_4 rfl (lv_at hl 0 rfl) ?_
  refine lv_bipush (v := 12) hx hb dX6_init_5 (by decide) ?_
  refine newI C0 hK hP hD hS hA (N := 12) (by decide) (by decide) (by decide) (Nat.le_of_ble_eq_true rfl) (Nat.le_of_ble_eq_true rfl) dX6_init_7 (fun q1 H hP hD hS => ?_)
  have hP : va_P g.1 vwCl [(h0, .inr (6, [.null, .int 0, .int 0])), (q1, .inl (g.2.1, 12, .inl (fun _ => 0)))] H := hP
  have hD : va_D (A1 h0 s.heap.size) [(h0, .inr (6, [.null, .int 0, .int 0])), (q1, .inl (g.2.1, 12, .inl (fun _ => 0)))] := hD
  refine putF_C C0 hin hK hP hD hS iwX6 tyX6_ok nmX6 0 rfl rfl 0 (by decide) mF_X6_9 rfl rfl rfl rfl rfl (Nat.le_of_ble_eq_true rfl) rfl dX6_init_9 (fun H locs hP hD hS => ?_)
  have hP : va_P g.1 vwCl [(h0, .inr (6, [.ref q1, .int 0, .int 0])), (q1, .inl (g.2.1, 12, .inl (fun _ => 0)))] H := hP
  have hD : va_D (A1 h0 s.heap.size) [(h0, .inr (6, [.ref q1, .int 0, .int 0])), (q1, .inl (g.2.1, 12, .inl (fun _ => 0)))] := hD
  refine lv_aload_n hx hb dX6_init_12 rfl (lv_at hl 0 rfl) ?_
  refine lv_iconst (v := 0) hx hb dX6_init_13 (by decide) ?_
  refine put_C C0 hK hP hD hS iwX6 tyX6_ok nmX6 0 rfl rfl 1 (by decide) mF_X6_15 rfl rfl rfl rfl (Nat.le_of_ble_eq_true rfl) rfl dX6_init_14 (fun H locs hP hD hS => ?_)
  have hP : va_P g.1 vwCl [(h0, .inr (6, [.ref q1, .int 0, .int 0])), (q1, .inl (g.2.1, 12, .inl (fun _ => 0)))] H := hP
  have hD : va_D (A1 h0 s.heap.size) [(h0, .inr (6, [.ref q1, .int 0, .int 0])), (q1, .inl (g.2.1, 12, .inl (fun _ => 0)))] := hD
  refine lv_aload_n hx hb dX6_init_17 rfl (lv_at hl 0 rfl) ?_
  refine lv_iconst (v := 0) hx hb dX6_init_18 (by decide) ?_
  refine put_C C0 hK hP hD hS iwX6 tyX6_ok nmX6 0 rfl rfl 2 (by decide) mF_X6_19 rfl rfl rfl rfl (Nat.le_of_ble_eq_true rfl) rfl dX6_init_19 (fun H locs hP hD hS => ?_)
  have hP : va_P g.1 vwCl [(h0, .inr (6, [.ref q1, .int 0, .int 0])), (q1, .inl (g.2.1, 12, .inl (fun _ => 0)))] H := hP
  have hD : va_D (A1 h0 s.heap.size) [(h0, .inr (6, [.ref q1, .int 0, .int 0])), (q1, .inl (g.2.1, 12, .inl (fun _ => 0)))] := hD
  exact ret_C C0 (fun i => [h0, q1].getD i 0) rfl hP hD hS dX6_init_22
