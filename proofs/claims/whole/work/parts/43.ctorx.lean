def memX0 : Mem := fun k => if k = 5 then (fun j => if j = 7 then (-1) else 0) else if k = 11 then (fun j => if j = 7 then (-1) else 0) else if k = 26 then upd (upd (upd (fun _ => 0) 0 10) 1 4) 2 2 else (fun _ => 0)
theorem arr4 {cA : ClassId} {f f' : Nat → Option Nat} (h0 : f 0 = f' 0) (h1 : f 1 = f' 1) (h2 : f 2 = f' 2) (h3 : f 3 = f' 3) : vp_cell cA (4, .inr (.inr (.inr (.inr f)))) = vp_cell cA (4, .inr (.inr (.inr (.inr f')))) := by
  show arrV cA 4 (fun j => va_rf (f j)) = arrV cA 4 (fun j => va_rf (f' j))
  unfold arrV
  congr 2
  funext ⟨j, hj⟩
  rcases (show j = 0 ∨ j = 1 ∨ j = 2 ∨ j = 3 by omega) with rfl | rfl | rfl | rfl
  · exact congrArg va_rf h0
  · exact congrArg va_rf h1
  · exact congrArg va_rf h2
  · exact congrArg va_rf h3
theorem va_P.arr35 {D : va_G} {cl : List vw_C} {ws : va_W} {H : Heap} {a q0 : Nat} {cA : ClassId} {f f' : Nat → Option Nat} (hP : va_P D cl ws H) (he : ws[q0]? = some (a, .inl (cA, 4, .inr (.inr (.inr (.inr f)))))) (h0 : f 0 = f' 0) (h1 : f 1 = f' 1) (h2 : f 2 = f' 2) (h3 : f 3 = f' 3) : va_at D cl (a, .inl (cA, 4, .inr (.inr (.inr (.inr f'))))) H := by
  have h := hP q0 _ he
  show H[a]? = some (vp_cell cA (4, .inr (.inr (.inr (.inr f')))))
  rw [← arr4 h0 h1 h2 h3]
  exact h
theorem pkX8_init : pkI yX8_init cX8_init 2 0 := ⟨mI_X8_init, mN_X8, mC_X8_init, by decide +kernel, rfl⟩
set_option maxHeartbeats 4000000 in
set_option maxRecDepth 100000 in
theorem kX8_init (l : Launch) (g : gG) (h0 sz : Nat) : Met l yX8_init (Cond.code yX8_init cX8_init 2 none :: gw) { frames := 2, cells := 43, slots := 707, locals := 60 } (pC [(h0, .inr (8, [.null, .null, .null, .null, .null, .null, .null, .null, .null, .int 0]))] (eN g) g sz [.ref h0]) (qC (fun q => wX g q memX0) g h0 sz) 43 707 (A1 h0 sz) := by
  refine met_ofC (by decide) rfl (Nat.le_of_ble_eq_true rfl) ?_
  intro p e s m args below meth c ls C0 hin hP hD hl
  obtain ⟨hx, hb, hml, hown, hts, hr, hlk, hE⟩ := id C0
  obtain ⟨hK, hN, hO⟩ := id hE
  have hl : lv_has ls 2 [(0, .ref h0)] := hl
  have hA : ∀ q : Nat, s.heap.size ≤ q → A1 h0 s.heap.size q := fun q h => Or.inr h
  have hS : va_S (A1 h0 s.heap.size) s.heap s.heap [] := va_S.rf
  refine lv_aload_n hx hb dX8_init_0 rfl (lv_at hl 0 rfl) ?_
  refine W.objInit hx hb hown (hts _ mL_X8_1) (hts _ mI_objectInit) (hts _ mC_objectInit) rfl (by rw [hml]; exact hl.1) rfl dX8_init_1 (Nat.le_of_ble_eq_true rfl) (Nat.le_of_ble_eq_true rfl) ?_
  refine W.eq (g2 := F0 m 4 ls []) rfl ?_
  refine lv_aload_n hx hb dX8_init_4 rfl (lv_at hl 0 rfl) ?_
  refine newC C0 hK hP hD hS hA iwX4 tyX4_ok mA_X8_7 mB_X4 mN_X4 (ci := 4) rfl (fs := [.null, .null, .null, .int 0]) (fun j hj => by rcases (show j = 0 ∨ j = 1 ∨ j = 2 ∨ j = 3 by omega) with rfl | rfl | rfl | rfl <;> rfl) (Nat.le_of_ble_eq_true rfl) (Nat.le_of_ble_eq_true rfl) dX8_init_5 (fun n1 H hP hD hS => ?_)
  have hP : va_P g.1 vwCl ([(h0, .inr (8, [.null, .null, .null, .null, .null, .null, .null, .null, .null, .int 0]))] ++ [(n1, .inr (4, [.null, .null, .null, .int 0]))]) H := hP
  have hD : va_D (A1 h0 s.heap.size) ([(h0, .inr (8, [.null, .null, .null, .null, .null, .null, .null, .null, .null, .int 0]))] ++ [(n1, .inr (4, [.null, .null, .null, .int 0]))]) := hD
  refine lv_dup hx hb dX8_init_8 rfl ?_
  refine cN_C C0 hE hP hD hS hA pkX4_init (As := []) (rest := [.ref n1, .ref h0]) (fun sz => kX4_init l g n1 sz) nN_X8_9 ⟨rfl, rfl, Nat.le_of_ble_eq_true rfl, Nat.le_of_ble_eq_true rfl, Nat.le_of_ble_eq_true rfl, Nat.le_of_ble_eq_true rfl⟩ rfl hl.1 rfl (Nat.le_of_ble_eq_true rfl) dX8_init_9 (fun u2 Hn locsn hq hPn hDn hSn => ?_)
  subst hq
  have hS := hSn
  have hP : va_P g.1 vwCl ([(h0, .inr (8, [.null, .null, .null, .null, .null, .null, .null, .null, .null, .int 0]))] ++ bX4 g u2) Hn := hPn
  have hD : va_D (A1 h0 s.heap.size) ([(h0, .inr (8, [.null, .null, .null, .null, .null, .null, .null, .null, .null, .int 0]))] ++ bX4 g u2) := hDn
  refine putF_C C0 hin hK hP hD hS iwX8 tyX8_ok nmX8 0 rfl rfl 0 (by decide) mF_X8_10 rfl rfl rfl rfl rfl (Nat.le_of_ble_eq_true rfl) rfl dX8_init_12 (fun H locs hP hD hS => ?_)
  have hP : va_P g.1 vwCl ([(h0, .inr (8, [.ref (u2 0), .null, .null, .null, .null, .null, .null, .null, .null, .int 0]))] ++ bX4 g u2) H := hP
  have hD : va_D (A1 h0 s.heap.size) ([(h0, .inr (8, [.ref (u2 0), .null, .null, .null, .null, .null, .null, .null, .null, .int 0]))] ++ bX4 g u2) := hD
  refine lv_aload_n hx hb dX8_init_15 rfl (lv_at hl 0 rfl) ?_
  refine newC C0 hK hP hD hS hA iwX7 tyX7_ok mA_X8_16 mB_X7 mN_X7 (ci := 7) rfl (fs := [.null, .null, .null, .null, .null, .null, .int 0, .int 0]) (fun j hj => by rcases (show j = 0 ∨ j = 1 ∨ j = 2 ∨ j = 3 ∨ j = 4 ∨ j = 5 ∨ j = 6 ∨ j = 7 by omega) with rfl | rfl | rfl | rfl | rfl | rfl | rfl | rfl <;> rfl) (Nat.le_of_ble_eq_true rfl) (Nat.le_of_ble_eq_true rfl) dX8_init_16 (fun n3 H hP hD hS => ?_)
  have hP : va_P g.1 vwCl ([(h0, .inr (8, [.ref (u2 0), .null, .null, .null, .null, .null, .null, .null, .null, .int 0]))] ++ bX4 g u2 ++ [(n3, .inr (7, [.null, .null, .null, .null, .null, .null, .int 0, .int 0]))]) H := hP
  have hD : va_D (A1 h0 s.heap.size) ([(h0, .inr (8, [.ref (u2 0), .null, .null, .null, .null, .null, .null, .null, .null, .int 0]))] ++ bX4 g u2 ++ [(n3, .inr (7, [.null, .null, .null, .null, .null, .null, .int 0, .int 0]))]) := hD
  refine lv_dup hx hb dX8_init_19 rfl ?_
  refine lv_aload_n hx hb dX8_init_20 rfl (lv_at hl 0 rfl) ?_
  refine get_W C0 hK hP iwX8 0 rfl rfl 0 (by decide) mF_X8_10 rfl rfl dX8_init_21 ?_
  refine cI_C C0 hE hP hD hS hA pkX7_init (As := [.ref (u2 0)]) (rest := [.ref n3, .ref h0]) (fun sz => kX7_init l g n3 (u2 0) sz) mL_X8_18 ⟨rfl, rfl, Nat.le_of_ble_eq_true rfl, Nat.le_of_ble_eq_true rfl, Nat.le_of_ble_eq_true rfl, Nat.le_of_ble_eq_true rfl⟩ rfl hl.1 rfl (Nat.le_of_ble_eq_true rfl) dX8_init_24 (fun u4 Hn locsn hq hPn hDn hSn => ?_)
  subst hq
  have hS := hSn
  have hP : va_P g.1 vwCl ([(h0, .inr (8, [.ref (u2 0), .null, .null, .null, .null, .null, .null, .null, .null, .int 0]))] ++ bX4 g u2 ++ bX7 g (u2 0) u4) Hn := hPn
  have hD : va_D (A1 h0 s.heap.size) ([(h0, .inr (8, [.ref (u2 0), .null, .null, .null, .null, .null, .null, .null, .null, .int 0]))] ++ bX4 g u2 ++ bX7 g (u2 0) u4) := hDn
  refine putF_C C0 hin hK hP hD hS iwX8 tyX8_ok nmX8 0 rfl rfl 1 (by decide) mF_X8_21 rfl rfl rfl rfl rfl (Nat.le_of_ble_eq_true rfl) rfl dX8_init_27 (fun H locs hP hD hS => ?_)
  have hP : va_P g.1 vwCl ([(h0, .inr (8, [.ref (u2 0), .ref (u4 0), .null, .null, .null, .null, .null, .null, .null, .int 0]))] ++ bX4 g u2 ++ bX7 g (u2 0) u4) H := hP
  have hD : va_D (A1 h0 s.heap.size) ([(h0, .inr (8, [.ref (u2 0), .ref (u4 0), .null, .null, .null, .null, .null, .null, .null, .int 0]))] ++ bX4 g u2 ++ bX7 g (u2 0) u4) := hD
  refine lv_aload_n hx hb dX8_init_30 rfl (lv_at hl 0 rfl) ?_
  refine newC C0 hK hP hD hS hA iwX7 tyX7_ok mA_X8_16 mB_X7 mN_X7 (ci := 7) rfl (fs := [.null, .null, .null, .null, .null, .null, .int 0, .int 0]) (fun j hj => by rcases (show j = 0 ∨ j = 1 ∨ j = 2 ∨ j = 3 ∨ j = 4 ∨ j = 5 ∨ j = 6 ∨ j = 7 by omega) with rfl | rfl | rfl | rfl | rfl | rfl | rfl | rfl <;> rfl) (Nat.le_of_ble_eq_true rfl) (Nat.le_of_ble_eq_true rfl) dX8_init_31 (fun n5 H hP hD hS => ?_)
  have hP : va_P g.1 vwCl ([(h0, .inr (8, [.ref (u2 0), .ref (u4 0), .null, .null, .null, .null, .null, .null, .null, .int 0]))] ++ bX4 g u2 ++ bX7 g (u2 0) u4 ++ [(n5, .inr (7, [.null, .null, .null, .null, .null, .null, .int 0, .int 0]))]) H := hP
  have hD : va_D (A1 h0 s.heap.size) ([(h0, .inr (8, [.ref (u2 0), .ref (u4 0), .null, .null, .null, .null, .null, .null, .null, .int 0]))] ++ bX4 g u2 ++ bX7 g (u2 0) u4 ++ [(n5, .inr (7, [.null, .null, .null, .null, .null, .null, .int 0, .int 0]))]) := hD
  refine lv_dup hx hb dX8_init_34 rfl ?_
  refine lv_aload_n hx hb dX8_init_35 rfl (lv_at hl 0 rfl) ?_
  refine get_W C0 hK hP iwX8 0 rfl rfl 0 (by decide) mF_X8_10 rfl rfl dX8_init_36 ?_
  refine cI_C C0 hE hP hD hS hA pkX7_init (As := [.ref (u2 0)]) (rest := [.ref n5, .ref h0]) (fun sz => kX7_init l g n5 (u2 0) sz) mL_X8_18 ⟨rfl, rfl, Nat.le_of_ble_eq_true rfl, Nat.le_of_ble_eq_true rfl, Nat.le_of_ble_eq_true rfl, Nat.le_of_ble_eq_true rfl⟩ rfl hl.1 rfl (Nat.le_of_ble_eq_true rfl) dX8_init_39 (fun u6 Hn locsn hq hPn hDn hSn => ?_)
  subst hq
  have hS := hSn
  have hP : va_P g.1 vwCl ([(h0, .inr (8, [.ref (u2 0), .ref (u4 0), .null, .null, .null, .null, .null, .null, .null, .int 0]))] ++ bX4 g u2 ++ bX7 g (u2 0) u4 ++ bX7 g (u2 0) u6) Hn := hPn
  have hD : va_D (A1 h0 s.heap.size) ([(h0, .inr (8, [.ref (u2 0), .ref (u4 0), .null, .null, .null, .null, .null, .null, .null, .int 0]))] ++ bX4 g u2 ++ bX7 g (u2 0) u4 ++ bX7 g (u2 0) u6) := hDn
  refine putF_C C0 hin hK hP hD hS iwX8 tyX8_ok nmX8 0 rfl rfl 2 (by decide) mF_X8_25 rfl rfl rfl rfl rfl (Nat.le_of_ble_eq_true rfl) rfl dX8_init_42 (fun H locs hP hD hS => ?_)
  have hP : va_P g.1 vwCl ([(h0, .inr (8, [.ref (u2 0), .ref (u4 0), .ref (u6 0), .null, .null, .null, .null, .null, .null, .int 0]))] ++ bX4 g u2 ++ bX7 g (u2 0) u4 ++ bX7 g (u2 0) u6) H := hP
  have hD : va_D (A1 h0 s.heap.size) ([(h0, .inr (8, [.ref (u2 0), .ref (u4 0), .ref (u6 0), .null, .null, .null, .null, .null, .null, .int 0]))] ++ bX4 g u2 ++ bX7 g (u2 0) u4 ++ bX7 g (u2 0) u6) := hD
  refine lv_aload_n hx hb dX8_init_45 rfl (lv_at hl 0 rfl) ?_
  refine newC C0 hK hP hD hS hA iwX5 tyX5_ok mA_X8_28 mB_X5 mN_X5 (ci := 5) rfl (fs := [.null, .null, .int 0]) (fun j hj => by rcases (show j = 0 ∨ j = 1 ∨ j = 2 by omega) with rfl | rfl | rfl <;> rfl) (Nat.le_of_ble_eq_true rfl) (Nat.le_of_ble_eq_true rfl) dX8_init_46 (fun n7 H hP hD hS => ?_)
  have hP : va_P g.1 vwCl ([(h0, .inr (8, [.ref (u2 0), .ref (u4 0), .ref (u6 0), .null, .null, .null, .null, .null, .null, .int 0]))] ++ bX4 g u2 ++ bX7 g (u2 0) u4 ++ bX7 g (u2 0) u6 ++ [(n7, .inr (5, [.null, .null, .int 0]))]) H := hP
  have hD : va_D (A1 h0 s.heap.size) ([(h0, .inr (8, [.ref (u2 0), .ref (u4 0), .ref (u6 0), .null, .null, .null, .null, .null, .null, .int 0]))] ++ bX4 g u2 ++ bX7 g (u2 0) u4 ++ bX7 g (u2 0) u6 ++ [(n7, .inr (5, [.null, .null, .int 0]))]) := hD
  refine lv_dup hx hb dX8_init_49 rfl ?_
  refine lv_aload_n hx hb dX8_init_50 rfl (lv_at hl 0 rfl) ?_
  refine get_W C0 hK hP iwX8 0 rfl rfl 0 (by decide) mF_X8_10 rfl rfl dX8_init_51 ?_
  refine cI_C C0 hE hP hD hS hA pkX5_init (As := [.ref (u2 0)]) (rest := [.ref n7, .ref h0]) (fun sz => kX5_init l g n7 (u2 0) sz) mL_X8_30 ⟨rfl, rfl, Nat.le_of_ble_eq_true rfl, Nat.le_of_ble_eq_true rfl, Nat.le_of_ble_eq_true rfl, Nat.le_of_ble_eq_true rfl⟩ rfl hl.1 rfl (Nat.le_of_ble_eq_true rfl) dX8_init_54 (fun u8 Hn locsn hq hPn hDn hSn => ?_)
  subst hq
  have hS := hSn
  have hP : va_P g.1 vwCl ([(h0, .inr (8, [.ref (u2 0), .ref (u4 0), .ref (u6 0), .null, .null, .null, .null, .null, .null, .int 0]))] ++ bX4 g u2 ++ bX7 g (u2 0) u4 ++ bX7 g (u2 0) u6 ++ bX5 g (u2 0) u8) Hn := hPn
  have hD : va_D (A1 h0 s.heap.size) ([(h0, .inr (8, [.ref (u2 0), .ref (u4 0), .ref (u6 0), .null, .null, .null, .null, .null, .null, .int 0]))] ++ bX4 g u2 ++ bX7 g (u2 0) u4 ++ bX7 g (u2 0) u6 ++ bX5 g (u2 0) u8) := hDn
  refine putF_C C0 hin hK hP hD hS iwX8 tyX8_ok nmX8 0 rfl rfl 3 (by decide) mF_X8_31 rfl rfl rfl rfl rfl (Nat.le_of_ble_eq_true rfl) rfl dX8_init_57 (fun H locs hP hD hS => ?_)
  have hP : va_P g.1 vwCl ([(h0, .inr (8, [.ref (u2 0), .ref (u4 0), .ref (u6 0), .ref (u8 0), .null, .null, .null, .null, .null, .int 0]))] ++ bX4 g u2 ++ bX7 g (u2 0) u4 ++ bX7 g (u2 0) u6 ++ bX5 g (u2 0) u8) H := hP
  have hD : va_D (A1 h0 s.heap.size) ([(h0, .inr (8, [.ref (u2 0), .ref (u4 0), .ref (u6 0), .ref (u8 0), .null, .null, .null, .null, .null, .int 0]))] ++ bX4 g u2 ++ bX7 g (u2 0) u4 ++ bX7 g (u2 0) u6 ++ bX5 g (u2 0) u8) := hD
  refine lv_aload_n hx hb dX8_init_60 rfl (lv_at hl 0 rfl) ?_
  refine newC C0 hK hP hD hS hA iwX2 tyX2_ok mA_X8_35 mB_X2 mN_X2 (ci := 2) rfl (fs := [.null, .null, .null, .null, .int 0]) (fun j hj => by rcases (show j = 0 ∨ j = 1 ∨ j = 2 ∨ j = 3 ∨ j = 4 by omega) with rfl | rfl | rfl | rfl | rfl <;> rfl) (Nat.le_of_ble_eq_true rfl) (Nat.le_of_ble_eq_true rfl) dX8_init_61 (fun n9 H hP hD hS => ?_)
  have hP : va_P g.1 vwCl ([(h0, .inr (8, [.ref (u2 0), .ref (u4 0), .ref (u6 0), .ref (u8 0), .null, .null, .null, .null, .null, .int 0]))] ++ bX4 g u2 ++ bX7 g (u2 0) u4 ++ bX7 g (u2 0) u6 ++ bX5 g (u2 0) u8 ++ [(n9, .inr (2, [.null, .null, .null, .null, .int 0]))]) H := hP
  have hD : va_D (A1 h0 s.heap.size) ([(h0, .inr (8, [.ref (u2 0), .ref (u4 0), .ref (u6 0), .ref (u8 0), .null, .null, .null, .null, .null, .int 0]))] ++ bX4 g u2 ++ bX7 g (u2 0) u4 ++ bX7 g (u2 0) u6 ++ bX5 g (u2 0) u8 ++ [(n9, .inr (2, [.null, .null, .null, .null, .int 0]))]) := hD
  refine lv_dup hx hb dX8_init_64 rfl ?_
  refine lv_aload_n hx hb dX8_init_65 rfl (lv_at hl 0 rfl) ?_
  refine get_W C0 hK hP iwX8 0 rfl rfl 0 (by decide) mF_X8_10 rfl rfl dX8_init_66 ?_
  refine lv_aload_n hx hb dX8_init_69 rfl (lv_at hl 0 rfl) ?_
  refine get_W C0 hK hP iwX8 0 rfl rfl 3 (by decide) mF_X8_31 rfl rfl dX8_init_70 ?_
  refine lv_aload_n hx hb dX8_init_73 rfl (lv_at hl 0 rfl) ?_
  refine get_W C0 hK hP iwX8 0 rfl rfl 1 (by decide) mF_X8_21 rfl rfl dX8_init_74 ?_
  refine cI_C C0 hE hP hD hS hA pkX2_init (As := [.ref (u2 0), .ref (u8 0), .ref (u4 0)]) (rest := [.ref n9, .ref h0]) (fun sz => kX2_init l g n9 (u2 0) (u8 0) (u4 0) sz) mL_X8_37 ⟨rfl, rfl, Nat.le_of_ble_eq_true rfl, Nat.le_of_ble_eq_true rfl, Nat.le_of_ble_eq_true rfl, Nat.le_of_ble_eq_true rfl⟩ rfl hl.1 rfl (Nat.le_of_ble_eq_true rfl) dX8_init_77 (fun u10 Hn locsn hq hPn hDn hSn => ?_)
  subst hq
  have hS := hSn
  have hP : va_P g.1 vwCl ([(h0, .inr (8, [.ref (u2 0), .ref (u4 0), .ref (u6 0), .ref (u8 0), .null, .null, .null, .null, .null, .int 0]))] ++ bX4 g u2 ++ bX7 g (u2 0) u4 ++ bX7 g (u2 0) u6 ++ bX5 g (u2 0) u8 ++ bX2 g (u2 0) (u8 0) (u4 0) u10) Hn := hPn
  have hD : va_D (A1 h0 s.heap.size) ([(h0, .inr (8, [.ref (u2 0), .ref (u4 0), .ref (u6 0), .ref (u8 0), .null, .null, .null, .null, .null, .int 0]))] ++ bX4 g u2 ++ bX7 g (u2 0) u4 ++ bX7 g (u2 0) u6 ++ bX5 g (u2 0) u8 ++ bX2 g (u2 0) (u8 0) (u4 0) u10) := hDn
  refine putF_C C0 hin hK hP hD hS iwX8 tyX8_ok nmX8 0 rfl rfl 4 (by decide) mF_X8_40 rfl rfl rfl rfl rfl (Nat.le_of_ble_eq_true rfl) rfl dX8_init_80 (fun H locs hP hD hS => ?_)
  have hP : va_P g.1 vwCl ([(h0, .inr (8, [.ref (u2 0), .ref (u4 0), .ref (u6 0), .ref (u8 0), .ref (u10 0), .null, .null, .null, .null, .int 0]))] ++ bX4 g u2 ++ bX7 g (u2 0) u4 ++ bX7 g (u2 0) u6 ++ bX5 g (u2 0) u8 ++ bX2 g (u2 0) (u8 0) (u4 0) u10) H := hP
  have hD : va_D (A1 h0 s.heap.size) ([(h0, .inr (8, [.ref (u2 0), .ref (u4 0), .ref (u6 0), .ref (u8 0), .ref (u10 0), .null, .null, .null, .null, .int 0]))] ++ bX4 g u2 ++ bX7 g (u2 0) u4 ++ bX7 g (u2 0) u6 ++ bX5 g (u2 0) u8 ++ bX2 g (u2 0) (u8 0) (u4 0) u10) := hD
  refine lv_aload_n hx hb dX8_init_83 rfl (lv_at hl 0 rfl) ?_
  refine newC C0 hK hP hD hS hA iwX1 tyX1_ok mA_X8_44 mB_X1 mN_X1 (ci := 1) rfl (fs := [.null, .null, .null, .null, .null, .int 0]) (fun j hj => by rcases (show j = 0 ∨ j = 1 ∨ j = 2 ∨ j = 3 ∨ j = 4 ∨ j = 5 by omega) with rfl | rfl | rfl | rfl | rfl | rfl <;> rfl) (Nat.le_of_ble_eq_true rfl) (Nat.le_of_ble_eq_true rfl) dX8_init_84 (fun n11 H hP hD hS => ?_)
  have hP : va_P g.1 vwCl ([(h0, .inr (8, [.ref (u2 0), .ref (u4 0), .ref (u6 0), .ref (u8 0), .ref (u10 0), .null, .null, .null, .null, .int 0]))] ++ bX4 g u2 ++ bX7 g (u2 0) u4 ++ bX7 g (u2 0) u6 ++ bX5 g (u2 0) u8 ++ bX2 g (u2 0) (u8 0) (u4 0) u10 ++ [(n11, .inr (1, [.null, .null, .null, .null, .null, .int 0]))]) H := hP
  have hD : va_D (A1 h0 s.heap.size) ([(h0, .inr (8, [.ref (u2 0), .ref (u4 0), .ref (u6 0), .ref (u8 0), .ref (u10 0), .null, .null, .null, .null, .int 0]))] ++ bX4 g u2 ++ bX7 g (u2 0) u4 ++ bX7 g (u2 0) u6 ++ bX5 g (u2 0) u8 ++ bX2 g (u2 0) (u8 0) (u4 0) u10 ++ [(n11, .inr (1, [.null, .null, .null, .null, .null, .int 0]))]) := hD
  refine lv_dup hx hb dX8_init_87 rfl ?_
  refine cN_C C0 hE hP hD hS hA pkX1_init (As := []) (rest := [.ref n11, .ref h0]) (fun sz => kX1_init l g n11 sz) nN_X8_46 ⟨rfl, rfl, Nat.le_of_ble_eq_true rfl, Nat.le_of_ble_eq_true rfl, Nat.le_of_ble_eq_true rfl, Nat.le_of_ble_eq_true rfl⟩ rfl hl.1 rfl (Nat.le_of_ble_eq_true rfl) dX8_init_88 (fun u12 Hn locsn hq hPn hDn hSn => ?_)
  subst hq
  have hS := hSn
  have hP : va_P g.1 vwCl ([(h0, .inr (8, [.ref (u2 0), .ref (u4 0), .ref (u6 0), .ref (u8 0), .ref (u10 0), .null, .null, .null, .null, .int 0]))] ++ bX4 g u2 ++ bX7 g (u2 0) u4 ++ bX7 g (u2 0) u6 ++ bX5 g (u2 0) u8 ++ bX2 g (u2 0) (u8 0) (u4 0) u10 ++ bX1 g u12) Hn := hPn
  have hD : va_D (A1 h0 s.heap.size) ([(h0, .inr (8, [.ref (u2 0), .ref (u4 0), .ref (u6 0), .ref (u8 0), .ref (u10 0), .null, .null, .null, .null, .int 0]))] ++ bX4 g u2 ++ bX7 g (u2 0) u4 ++ bX7 g (u2 0) u6 ++ bX5 g (u2 0) u8 ++ bX2 g (u2 0) (u8 0) (u4 0) u10 ++ bX1 g u12) := hDn
  refine putF_C C0 hin hK hP hD hS iwX8 tyX8_ok nmX8 0 rfl rfl 5 (by decide) mF_X8_47 rfl rfl rfl rfl rfl (Nat.le_of_ble_eq_true rfl) rfl dX8_init_91 (fun H locs hP hD hS => ?_)
  have hP : va_P g.1 vwCl ([(h0, .inr (8, [.ref (u2 0), .ref (u4 0), .ref (u6 0), .ref (u8 0), .ref (u10 0), .ref (u12 0), .null, .null, .null, .int 0]))] ++ bX4 g u2 ++ bX7 g (u2 0) u4 ++ bX7 g (u2 0) u6 ++ bX5 g (u2 0) u8 ++ bX2 g (u2 0) (u8 0) (u4 0) u10 ++ bX1 g u12) H := hP
  have hD : va_D (A1 h0 s.heap.size) ([(h0, .inr (8, [.ref (u2 0), .ref (u4 0), .ref (u6 0), .ref (u8 0), .ref (u10 0), .ref (u12 0), .null, .null, .null, .int 0]))] ++ bX4 g u2 ++ bX7 g (u2 0) u4 ++ bX7 g (u2 0) u6 ++ bX5 g (u2 0) u8 ++ bX2 g (u2 0) (u8 0) (u4 0) u10 ++ bX1 g u12) := hD
  refine lv_aload_n hx hb dX8_init_94 rfl (lv_at hl 0 rfl) ?_
  refine newC C0 hK hP hD hS hA iwX0 tyX0_ok mA_X8_51 mB_X0 mN_X0 (ci := 0) rfl (fs := [.null, .null, .int 0]) (fun j hj => by rcases (show j = 0 ∨ j = 1 ∨ j = 2 by omega) with rfl | rfl | rfl <;> rfl) (Nat.le_of_ble_eq_true rfl) (Nat.le_of_ble_eq_true rfl) dX8_init_95 (fun n13 H hP hD hS => ?_)
  have hP : va_P g.1 vwCl ([(h0, .inr (8, [.ref (u2 0), .ref (u4 0), .ref (u6 0), .ref (u8 0), .ref (u10 0), .ref (u12 0), .null, .null, .null, .int 0]))] ++ bX4 g u2 ++ bX7 g (u2 0) u4 ++ bX7 g (u2 0) u6 ++ bX5 g (u2 0) u8 ++ bX2 g (u2 0) (u8 0) (u4 0) u10 ++ bX1 g u12 ++ [(n13, .inr (0, [.null, .null, .int 0]))]) H := hP
  have hD : va_D (A1 h0 s.heap.size) ([(h0, .inr (8, [.ref (u2 0), .ref (u4 0), .ref (u6 0), .ref (u8 0), .ref (u10 0), .ref (u12 0), .null, .null, .null, .int 0]))] ++ bX4 g u2 ++ bX7 g (u2 0) u4 ++ bX7 g (u2 0) u6 ++ bX5 g (u2 0) u8 ++ bX2 g (u2 0) (u8 0) (u4 0) u10 ++ bX1 g u12 ++ [(n13, .inr (0, [.null, .null, .int 0]))]) := hD
  refine lv_dup hx hb dX8_init_98 rfl ?_
  refine lv_aload_n hx hb dX8_init_99 rfl (lv_at hl 0 rfl) ?_
  refine get_W C0 hK hP iwX8 0 rfl rfl 0 (by decide) mF_X8_10 rfl rfl dX8_init_100 ?_
  refine cI_C C0 hE hP hD hS hA pkX0_init (As := [.ref (u2 0)]) (rest := [.ref n13, .ref h0]) (fun sz => kX0_init l g n13 (u2 0) sz) mL_X8_53 ⟨rfl, rfl, Nat.le_of_ble_eq_true rfl, Nat.le_of_ble_eq_true rfl, Nat.le_of_ble_eq_true rfl, Nat.le_of_ble_eq_true rfl⟩ rfl hl.1 rfl (Nat.le_of_ble_eq_true rfl) dX8_init_103 (fun u14 Hn locsn hq hPn hDn hSn => ?_)
  subst hq
  have hS := hSn
  have hP : va_P g.1 vwCl ([(h0, .inr (8, [.ref (u2 0), .ref (u4 0), .ref (u6 0), .ref (u8 0), .ref (u10 0), .ref (u12 0), .null, .null, .null, .int 0]))] ++ bX4 g u2 ++ bX7 g (u2 0) u4 ++ bX7 g (u2 0) u6 ++ bX5 g (u2 0) u8 ++ bX2 g (u2 0) (u8 0) (u4 0) u10 ++ bX1 g u12 ++ bX0 g (u2 0) u14) Hn := hPn
  have hD : va_D (A1 h0 s.heap.size) ([(h0, .inr (8, [.ref (u2 0), .ref (u4 0), .ref (u6 0), .ref (u8 0), .ref (u10 0), .ref (u12 0), .null, .null, .null, .int 0]))] ++ bX4 g u2 ++ bX7 g (u2 0) u4 ++ bX7 g (u2 0) u6 ++ bX5 g (u2 0) u8 ++ bX2 g (u2 0) (u8 0) (u4 0) u10 ++ bX1 g u12 ++ bX0 g (u2 0) u14) := hDn
  refine putF_C C0 hin hK hP hD hS iwX8 tyX8_ok nmX8 0 rfl rfl 6 (by decide) mF_X8_54 rfl rfl rfl rfl rfl (Nat.le_of_ble_eq_true rfl) rfl dX8_init_106 (fun H locs hP hD hS => ?_)
  have hP : va_P g.1 vwCl ([(h0, .inr (8, [.ref (u2 0), .ref (u4 0), .ref (u6 0), .ref (u8 0), .ref (u10 0), .ref (u12 0), .ref (u14 0), .null, .null, .int 0]))] ++ bX4 g u2 ++ bX7 g (u2 0) u4 ++ bX7 g (u2 0) u6 ++ bX5 g (u2 0) u8 ++ bX2 g (u2 0) (u8 0) (u4 0) u10 ++ bX1 g u12 ++ bX0 g (u2 0) u14) H := hP
  have hD : va_D (A1 h0 s.heap.size) ([(h0, .inr (8, [.ref (u2 0), .ref (u4 0), .ref (u6 0), .ref (u8 0), .ref (u10 0), .ref (u12 0), .ref (u14 0), .null, .null, .int 0]))] ++ bX4 g u2 ++ bX7 g (u2 0) u4 ++ bX7 g (u2 0) u6 ++ bX5 g (u2 0) u8 ++ bX2 g (u2 0) (u8 0) (u4 0) u10 ++ bX1 g u12 ++ bX0 g (u2 0) u14) := hD
  refine lv_aload_n hx hb dX8_init_109 rfl (lv_at hl 0 rfl) ?_
  refine newC C0 hK hP hD hS hA iwX3 tyX3_ok mA_X8_58 mB_X3 mN_X3 (ci := 3) rfl (fs := [.null, .null, .null, .null, .null, .int 0, .int 0]) (fun j hj => by rcases (show j = 0 ∨ j = 1 ∨ j = 2 ∨ j = 3 ∨ j = 4 ∨ j = 5 ∨ j = 6 by omega) with rfl | rfl | rfl | rfl | rfl | rfl | rfl <;> rfl) (Nat.le_of_ble_eq_true rfl) (Nat.le_of_ble_eq_true rfl) dX8_init_110 (fun n15 H hP hD hS => ?_)
  have hP : va_P g.1 vwCl ([(h0, .inr (8, [.ref (u2 0), .ref (u4 0), .ref (u6 0), .ref (u8 0), .ref (u10 0), .ref (u12 0), .ref (u14 0), .null, .null, .int 0]))] ++ bX4 g u2 ++ bX7 g (u2 0) u4 ++ bX7 g (u2 0) u6 ++ bX5 g (u2 0) u8 ++ bX2 g (u2 0) (u8 0) (u4 0) u10 ++ bX1 g u12 ++ bX0 g (u2 0) u14 ++ [(n15, .inr (3, [.null, .null, .null, .null, .null, .int 0, .int 0]))]) H := hP
  have hD : va_D (A1 h0 s.heap.size) ([(h0, .inr (8, [.ref (u2 0), .ref (u4 0), .ref (u6 0), .ref (u8 0), .ref (u10 0), .ref (u12 0), .ref (u14 0), .null, .null, .int 0]))] ++ bX4 g u2 ++ bX7 g (u2 0) u4 ++ bX7 g (u2 0) u6 ++ bX5 g (u2 0) u8 ++ bX2 g (u2 0) (u8 0) (u4 0) u10 ++ bX1 g u12 ++ bX0 g (u2 0) u14 ++ [(n15, .inr (3, [.null, .null, .null, .null, .null, .int 0, .int 0]))]) := hD
  refine lv_dup hx hb dX8_init_113 rfl ?_
  refine cN_C C0 hE hP hD hS hA pkX3_init (As := []) (rest := [.ref n15, .ref h0]) (fun sz => kX3_init l g n15 sz) nN_X8_60 ⟨rfl, rfl, Nat.le_of_ble_eq_true rfl, Nat.le_of_ble_eq_true rfl, Nat.le_of_ble_eq_true rfl, Nat.le_of_ble_eq_true rfl⟩ rfl hl.1 rfl (Nat.le_of_ble_eq_true rfl) dX8_init_114 (fun u16 Hn locsn hq hPn hDn hSn => ?_)
  subst hq
  have hS := hSn
  have hP : va_P g.1 vwCl ([(h0, .inr (8, [.ref (u2 0), .ref (u4 0), .ref (u6 0), .ref (u8 0), .ref (u10 0), .ref (u12 0), .ref (u14 0), .null, .null, .int 0]))] ++ bX4 g u2 ++ bX7 g (u2 0) u4 ++ bX7 g (u2 0) u6 ++ bX5 g (u2 0) u8 ++ bX2 g (u2 0) (u8 0) (u4 0) u10 ++ bX1 g u12 ++ bX0 g (u2 0) u14 ++ bX3 g u16) Hn := hPn
  have hD : va_D (A1 h0 s.heap.size) ([(h0, .inr (8, [.ref (u2 0), .ref (u4 0), .ref (u6 0), .ref (u8 0), .ref (u10 0), .ref (u12 0), .ref (u14 0), .null, .null, .int 0]))] ++ bX4 g u2 ++ bX7 g (u2 0) u4 ++ bX7 g (u2 0) u6 ++ bX5 g (u2 0) u8 ++ bX2 g (u2 0) (u8 0) (u4 0) u10 ++ bX1 g u12 ++ bX0 g (u2 0) u14 ++ bX3 g u16) := hDn
  refine putF_C C0 hin hK hP hD hS iwX8 tyX8_ok nmX8 0 rfl rfl 7 (by decide) mF_X8_61 rfl rfl rfl rfl rfl (Nat.le_of_ble_eq_true rfl) rfl dX8_init_117 (fun H locs hP hD hS => ?_)
  have hP : va_P g.1 vwCl ([(h0, .inr (8, [.ref (u2 0), .ref (u4 0), .ref (u6 0), .ref (u8 0), .ref (u10 0), .ref (u12 0), .ref (u14 0), .ref (u16 0), .null, .int 0]))] ++ bX4 g u2 ++ bX7 g (u2 0) u4 ++ bX7 g (u2 0) u6 ++ bX5 g (u2 0) u8 ++ bX2 g (u2 0) (u8 0) (u4 0) u10 ++ bX1 g u12 ++ bX0 g (u2 0) u14 ++ bX3 g u16) H := hP
  have hD : va_D (A1 h0 s.heap.size) ([(h0, .inr (8, [.ref (u2 0), .ref (u4 0), .ref (u6 0), .ref (u8 0), .ref (u10 0), .ref (u12 0), .ref (u14 0), .ref (u16 0), .null, .int 0]))] ++ bX4 g u2 ++ bX7 g (u2 0) u4 ++ bX7 g (u2 0) u6 ++ bX5 g (u2 0) u8 ++ bX2 g (u2 0) (u8 0) (u4 0) u10 ++ bX1 g u12 ++ bX0 g (u2 0) u14 ++ bX3 g u16) := hD
  refine lv_aload_n hx hb dX8_init_120 rfl (lv_at hl 0 rfl) ?_
  refine lv_iconst (v := 4) hx hb dX8_init_121 (by decide) ?_
  refine newO C0 hK hO hP hD hS hA mA_X8_65 (N := 4) (by decide) (by decide) (by decide) (Nat.le_of_ble_eq_true rfl) (Nat.le_of_ble_eq_true rfl) dX8_init_122 (fun a17 H hP hD hS => ?_)
  have hP : va_P g.1 vwCl ([(h0, .inr (8, [.ref (u2 0), .ref (u4 0), .ref (u6 0), .ref (u8 0), .ref (u10 0), .ref (u12 0), .ref (u14 0), .ref (u16 0), .null, .int 0]))] ++ bX4 g u2 ++ bX7 g (u2 0) u4 ++ bX7 g (u2 0) u6 ++ bX5 g (u2 0) u8 ++ bX2 g (u2 0) (u8 0) (u4 0) u10 ++ bX1 g u12 ++ bX0 g (u2 0) u14 ++ bX3 g u16 ++ [(a17, .inl (g.2.2.2, 4, .inr (.inr (.inr (.inr (fun _ => none))))))]) H := hP
  have hD : va_D (A1 h0 s.heap.size) ([(h0, .inr (8, [.ref (u2 0), .ref (u4 0), .ref (u6 0), .ref (u8 0), .ref (u10 0), .ref (u12 0), .ref (u14 0), .ref (u16 0), .null, .int 0]))] ++ bX4 g u2 ++ bX7 g (u2 0) u4 ++ bX7 g (u2 0) u6 ++ bX5 g (u2 0) u8 ++ bX2 g (u2 0) (u8 0) (u4 0) u10 ++ bX1 g u12 ++ bX0 g (u2 0) u14 ++ bX3 g u16 ++ [(a17, .inl (g.2.2.2, 4, .inr (.inr (.inr (.inr (fun _ => none))))))]) := hD
  refine putF_C C0 hin hK hP hD hS iwX8 tyX8_ok nmX8 0 rfl rfl 8 (by decide) mF_X8_67 rfl rfl rfl rfl rfl (Nat.le_of_ble_eq_true rfl) rfl dX8_init_125 (fun H locs hP hD hS => ?_)
  have hP : va_P g.1 vwCl ([(h0, .inr (8, [.ref (u2 0), .ref (u4 0), .ref (u6 0), .ref (u8 0), .ref (u10 0), .ref (u12 0), .ref (u14 0), .ref (u16 0), .ref a17, .int 0]))] ++ bX4 g u2 ++ bX7 g (u2 0) u4 ++ bX7 g (u2 0) u6 ++ bX5 g (u2 0) u8 ++ bX2 g (u2 0) (u8 0) (u4 0) u10 ++ bX1 g u12 ++ bX0 g (u2 0) u14 ++ bX3 g u16 ++ [(a17, .inl (g.2.2.2, 4, .inr (.inr (.inr (.inr (fun _ => none))))))]) H := hP
  have hD : va_D (A1 h0 s.heap.size) ([(h0, .inr (8, [.ref (u2 0), .ref (u4 0), .ref (u6 0), .ref (u8 0), .ref (u10 0), .ref (u12 0), .ref (u14 0), .ref (u16 0), .ref a17, .int 0]))] ++ bX4 g u2 ++ bX7 g (u2 0) u4 ++ bX7 g (u2 0) u6 ++ bX5 g (u2 0) u8 ++ bX2 g (u2 0) (u8 0) (u4 0) u10 ++ bX1 g u12 ++ bX0 g (u2 0) u14 ++ bX3 g u16 ++ [(a17, .inl (g.2.2.2, 4, .inr (.inr (.inr (.inr (fun _ => none))))))]) := hD
  refine lv_iconst (v := 0) hx hb dX8_init_128 (by decide) ?_
  refine lv_istore_n (lv' := [(1, .int 0), (0, .ref h0)]) hx hb dX8_init_129 rfl hl (by decide) rfl (fun ls hl => ?_)
  refine lv_iload_n hx hb dX8_init_130 rfl (lv_at hl 0 rfl) ?_
  refine lv_aload_n hx hb dX8_init_131 rfl (lv_at hl 1 rfl) ?_
  refine get_W C0 hK hP iwX8 0 rfl rfl 8 (by decide) mF_X8_67 rfl rfl dX8_init_132 ?_
  refine va_alen hx hb hK hP 35 2 rfl rfl (v := 4) rfl dX8_init_135 ?_
  refine lv_icmp_ge (tgt := 158) hx hb dX8_init_136 (by decide) (fun cc => absurd cc (by decide)) (fun _ => ?_)
  refine lv_aload_n hx hb dX8_init_139 rfl (lv_at hl 1 rfl) ?_
  refine get_W C0 hK hP iwX8 0 rfl rfl 8 (by decide) mF_X8_67 rfl rfl dX8_init_140 ?_
  refine lv_iload_n hx hb dX8_init_143 rfl (lv_at hl 0 rfl) ?_
  refine newC C0 hK hP hD hS hA iwX6 tyX6_ok mA_X8_65 mB_X6 mN_X6 (ci := 6) rfl (fs := [.null, .int 0, .int 0]) (fun j hj => by rcases (show j = 0 ∨ j = 1 ∨ j = 2 by omega) with rfl | rfl | rfl <;> rfl) (Nat.le_of_ble_eq_true rfl) (Nat.le_of_ble_eq_true rfl) dX8_init_144 (fun n18 H hP hD hS => ?_)
  have hP : va_P g.1 vwCl ([(h0, .inr (8, [.ref (u2 0), .ref (u4 0), .ref (u6 0), .ref (u8 0), .ref (u10 0), .ref (u12 0), .ref (u14 0), .ref (u16 0), .ref a17, .int 0]))] ++ bX4 g u2 ++ bX7 g (u2 0) u4 ++ bX7 g (u2 0) u6 ++ bX5 g (u2 0) u8 ++ bX2 g (u2 0) (u8 0) (u4 0) u10 ++ bX1 g u12 ++ bX0 g (u2 0) u14 ++ bX3 g u16 ++ [(a17, .inl (g.2.2.2, 4, .inr (.inr (.inr (.inr (fun _ => none))))))] ++ [(n18, .inr (6, [.null, .int 0, .int 0]))]) H := hP
  have hD : va_D (A1 h0 s.heap.size) ([(h0, .inr (8, [.ref (u2 0), .ref (u4 0), .ref (u6 0), .ref (u8 0), .ref (u10 0), .ref (u12 0), .ref (u14 0), .ref (u16 0), .ref a17, .int 0]))] ++ bX4 g u2 ++ bX7 g (u2 0) u4 ++ bX7 g (u2 0) u6 ++ bX5 g (u2 0) u8 ++ bX2 g (u2 0) (u8 0) (u4 0) u10 ++ bX1 g u12 ++ bX0 g (u2 0) u14 ++ bX3 g u16 ++ [(a17, .inl (g.2.2.2, 4, .inr (.inr (.inr (.inr (fun _ => none))))))] ++ [(n18, .inr (6, [.null, .int 0, .int 0]))]) := hD
  refine lv_dup hx hb dX8_init_147 rfl ?_
  refine cN_C C0 hE hP hD hS hA pkX6_init (As := []) (rest := [.ref n18, .int 0, .ref a17]) (fun sz => kX6_init l g n18 sz) nN_X8_71 ⟨rfl, rfl, Nat.le_of_ble_eq_true rfl, Nat.le_of_ble_eq_true rfl, Nat.le_of_ble_eq_true rfl, Nat.le_of_ble_eq_true rfl⟩ rfl hl.1 rfl (Nat.le_of_ble_eq_true rfl) dX8_init_148 (fun u19 Hn locsn hq hPn hDn hSn => ?_)
  subst hq
  have hS := hSn
  have hP : va_P g.1 vwCl ([(h0, .inr (8, [.ref (u2 0), .ref (u4 0), .ref (u6 0), .ref (u8 0), .ref (u10 0), .ref (u12 0), .ref (u14 0), .ref (u16 0), .ref a17, .int 0]))] ++ bX4 g u2 ++ bX7 g (u2 0) u4 ++ bX7 g (u2 0) u6 ++ bX5 g (u2 0) u8 ++ bX2 g (u2 0) (u8 0) (u4 0) u10 ++ bX1 g u12 ++ bX0 g (u2 0) u14 ++ bX3 g u16 ++ [(a17, .inl (g.2.2.2, 4, .inr (.inr (.inr (.inr (fun _ => none))))))] ++ bX6 g u19) Hn := hPn
  have hD : va_D (A1 h0 s.heap.size) ([(h0, .inr (8, [.ref (u2 0), .ref (u4 0), .ref (u6 0), .ref (u8 0), .ref (u10 0), .ref (u12 0), .ref (u14 0), .ref (u16 0), .ref a17, .int 0]))] ++ bX4 g u2 ++ bX7 g (u2 0) u4 ++ bX7 g (u2 0) u6 ++ bX5 g (u2 0) u8 ++ bX2 g (u2 0) (u8 0) (u4 0) u10 ++ bX1 g u12 ++ bX0 g (u2 0) u14 ++ bX3 g u16 ++ [(a17, .inl (g.2.2.2, 4, .inr (.inr (.inr (.inr (fun _ => none))))))] ++ bX6 g u19) := hDn
  refine va_astq hx hb hK hP hD hS 35 2 36 6 rfl rfl rfl rfl (show ¬ ((0 : Int32) < 0 ∨ 4 ≤ (0 : Int32).toNatClampNeg) by decide) dX8_init_151 (fun H locs hP hD hS => ?_)
  have hP : va_P g.1 vwCl ([(h0, .inr (8, [.ref (u2 0), .ref (u4 0), .ref (u6 0), .ref (u8 0), .ref (u10 0), .ref (u12 0), .ref (u14 0), .ref (u16 0), .ref a17, .int 0]))] ++ bX4 g u2 ++ bX7 g (u2 0) u4 ++ bX7 g (u2 0) u6 ++ bX5 g (u2 0) u8 ++ bX2 g (u2 0) (u8 0) (u4 0) u10 ++ bX1 g u12 ++ bX0 g (u2 0) u14 ++ bX3 g u16 ++ [(a17, .inl (g.2.2.2, 4, .inr (.inr (.inr (.inr (va_up (fun _ => none) 0 (some (u19 0))))))))] ++ bX6 g u19) H := hP
  have hD : va_D (A1 h0 s.heap.size) ([(h0, .inr (8, [.ref (u2 0), .ref (u4 0), .ref (u6 0), .ref (u8 0), .ref (u10 0), .ref (u12 0), .ref (u14 0), .ref (u16 0), .ref a17, .int 0]))] ++ bX4 g u2 ++ bX7 g (u2 0) u4 ++ bX7 g (u2 0) u6 ++ bX5 g (u2 0) u8 ++ bX2 g (u2 0) (u8 0) (u4 0) u10 ++ bX1 g u12 ++ bX0 g (u2 0) u14 ++ bX3 g u16 ++ [(a17, .inl (g.2.2.2, 4, .inr (.inr (.inr (.inr (va_up (fun _ => none) 0 (some (u19 0))))))))] ++ bX6 g u19) := hD
  refine lv_iinc (v := 1) (lv' := [(1, .int 1), (0, .ref h0)]) hx hb dX8_init_152 hl (k := 0) rfl (by decide) (by decide) rfl (fun ls hl => ?_)
  refine lv_goto (tgt := 130) hx hb dX8_init_155 (by decide) ?_
  refine lv_iload_n hx hb dX8_init_130 rfl (lv_at hl 0 rfl) ?_
  refine lv_aload_n hx hb dX8_init_131 rfl (lv_at hl 1 rfl) ?_
  refine get_W C0 hK hP iwX8 0 rfl rfl 8 (by decide) mF_X8_67 rfl rfl dX8_init_132 ?_
  refine va_alen hx hb hK hP 35 2 rfl rfl (v := 4) rfl dX8_init_135 ?_
  refine lv_icmp_ge (tgt := 158) hx hb dX8_init_136 (by decide) (fun cc => absurd cc (by decide)) (fun _ => ?_)
  refine lv_aload_n hx hb dX8_init_139 rfl (lv_at hl 1 rfl) ?_
  refine get_W C0 hK hP iwX8 0 rfl rfl 8 (by decide) mF_X8_67 rfl rfl dX8_init_140 ?_
  refine lv_iload_n hx hb dX8_init_143 rfl (lv_at hl 0 rfl) ?_
  refine newC C0 hK hP hD hS hA iwX6 tyX6_ok mA_X8_65 mB_X6 mN_X6 (ci := 6) rfl (fs := [.null, .int 0, .int 0]) (fun j hj => by rcases (show j = 0 ∨ j = 1 ∨ j = 2 by omega) with rfl | rfl | rfl <;> rfl) (Nat.le_of_ble_eq_true rfl) (Nat.le_of_ble_eq_true rfl) dX8_init_144 (fun n20 H hP hD hS => ?_)
  have hP : va_P g.1 vwCl ([(h0, .inr (8, [.ref (u2 0), .ref (u4 0), .ref (u6 0), .ref (u8 0), .ref (u10 0), .ref (u12 0), .ref (u14 0), .ref (u16 0), .ref a17, .int 0]))] ++ bX4 g u2 ++ bX7 g (u2 0) u4 ++ bX7 g (u2 0) u6 ++ bX5 g (u2 0) u8 ++ bX2 g (u2 0) (u8 0) (u4 0) u10 ++ bX1 g u12 ++ bX0 g (u2 0) u14 ++ bX3 g u16 ++ [(a17, .inl (g.2.2.2, 4, .inr (.inr (.inr (.inr (va_up (fun _ => none) 0 (some (u19 0))))))))] ++ bX6 g u19 ++ [(n20, .inr (6, [.null, .int 0, .int 0]))]) H := hP
  have hD : va_D (A1 h0 s.heap.size) ([(h0, .inr (8, [.ref (u2 0), .ref (u4 0), .ref (u6 0), .ref (u8 0), .ref (u10 0), .ref (u12 0), .ref (u14 0), .ref (u16 0), .ref a17, .int 0]))] ++ bX4 g u2 ++ bX7 g (u2 0) u4 ++ bX7 g (u2 0) u6 ++ bX5 g (u2 0) u8 ++ bX2 g (u2 0) (u8 0) (u4 0) u10 ++ bX1 g u12 ++ bX0 g (u2 0) u14 ++ bX3 g u16 ++ [(a17, .inl (g.2.2.2, 4, .inr (.inr (.inr (.inr (va_up (fun _ => none) 0 (some (u19 0))))))))] ++ bX6 g u19 ++ [(n20, .inr (6, [.null, .int 0, .int 0]))]) := hD
  refine lv_dup hx hb dX8_init_147 rfl ?_
  refine cN_C C0 hE hP hD hS hA pkX6_init (As := []) (rest := [.ref n20, .int 1, .ref a17]) (fun sz => kX6_init l g n20 sz) nN_X8_71 ⟨rfl, rfl, Nat.le_of_ble_eq_true rfl, Nat.le_of_ble_eq_true rfl, Nat.le_of_ble_eq_true rfl, Nat.le_of_ble_eq_true rfl⟩ rfl hl.1 rfl (Nat.le_of_ble_eq_true rfl) dX8_init_148 (fun u21 Hn locsn hq hPn hDn hSn => ?_)
  subst hq
  have hS := hSn
  have hP : va_P g.1 vwCl ([(h0, .inr (8, [.ref (u2 0), .ref (u4 0), .ref (u6 0), .ref (u8 0), .ref (u10 0), .ref (u12 0), .ref (u14 0), .ref (u16 0), .ref a17, .int 0]))] ++ bX4 g u2 ++ bX7 g (u2 0) u4 ++ bX7 g (u2 0) u6 ++ bX5 g (u2 0) u8 ++ bX2 g (u2 0) (u8 0) (u4 0) u10 ++ bX1 g u12 ++ bX0 g (u2 0) u14 ++ bX3 g u16 ++ [(a17, .inl (g.2.2.2, 4, .inr (.inr (.inr (.inr (va_up (fun _ => none) 0 (some (u19 0))))))))] ++ bX6 g u19 ++ bX6 g u21) Hn := hPn
  have hD : va_D (A1 h0 s.heap.size) ([(h0, .inr (8, [.ref (u2 0), .ref (u4 0), .ref (u6 0), .ref (u8 0), .ref (u10 0), .ref (u12 0), .ref (u14 0), .ref (u16 0), .ref a17, .int 0]))] ++ bX4 g u2 ++ bX7 g (u2 0) u4 ++ bX7 g (u2 0) u6 ++ bX5 g (u2 0) u8 ++ bX2 g (u2 0) (u8 0) (u4 0) u10 ++ bX1 g u12 ++ bX0 g (u2 0) u14 ++ bX3 g u16 ++ [(a17, .inl (g.2.2.2, 4, .inr (.inr (.inr (.inr (va_up (fun _ => none) 0 (some (u19 0))))))))] ++ bX6 g u19 ++ bX6 g u21) := hDn
  refine va_astq hx hb hK hP hD hS 35 2 38 6 rfl rfl rfl rfl (show ¬ ((1 : Int32) < 0 ∨ 4 ≤ (1 : Int32).toNatClampNeg) by decide) dX8_init_151 (fun H locs hP hD hS => ?_)
  have hP : va_P g.1 vwCl ([(h0, .inr (8, [.ref (u2 0), .ref (u4 0), .ref (u6 0), .ref (u8 0), .ref (u10 0), .ref (u12 0), .ref (u14 0), .ref (u16 0), .ref a17, .int 0]))] ++ bX4 g u2 ++ bX7 g (u2 0) u4 ++ bX7 g (u2 0) u6 ++ bX5 g (u2 0) u8 ++ bX2 g (u2 0) (u8 0) (u4 0) u10 ++ bX1 g u12 ++ bX0 g (u2 0) u14 ++ bX3 g u16 ++ [(a17, .inl (g.2.2.2, 4, .inr (.inr (.inr (.inr (va_up (va_up (fun _ => none) 0 (some (u19 0))) 1 (some (u21 0))))))))] ++ bX6 g u19 ++ bX6 g u21) H := hP
  have hD : va_D (A1 h0 s.heap.size) ([(h0, .inr (8, [.ref (u2 0), .ref (u4 0), .ref (u6 0), .ref (u8 0), .ref (u10 0), .ref (u12 0), .ref (u14 0), .ref (u16 0), .ref a17, .int 0]))] ++ bX4 g u2 ++ bX7 g (u2 0) u4 ++ bX7 g (u2 0) u6 ++ bX5 g (u2 0) u8 ++ bX2 g (u2 0) (u8 0) (u4 0) u10 ++ bX1 g u12 ++ bX0 g (u2 0) u14 ++ bX3 g u16 ++ [(a17, .inl (g.2.2.2, 4, .inr (.inr (.inr (.inr (va_up (va_up (fun _ => none) 0 (some (u19 0))) 1 (some (u21 0))))))))] ++ bX6 g u19 ++ bX6 g u21) := hD
  refine lv_iinc (v := 2) (lv' := [(1, .int 2), (0, .ref h0)]) hx hb dX8_init_152 hl (k := 0) rfl (by decide) (by decide) rfl (fun ls hl => ?_)
  refine lv_goto (tgt := 130) hx hb dX8_init_155 (by decide) ?_
  refine lv_iload_n hx hb dX8_init_130 rfl (lv_at hl 0 rfl) ?_
  refine lv_aload_n hx hb dX8_init_131 rfl (lv_at hl 1 rfl) ?_
  refine get_W C0 hK hP iwX8 0 rfl rfl 8 (by decide) mF_X8_67 rfl rfl dX8_init_132 ?_
  refine va_alen hx hb hK hP 35 2 rfl rfl (v := 4) rfl dX8_init_135 ?_
  refine lv_icmp_ge (tgt := 158) hx hb dX8_init_136 (by decide) (fun cc => absurd cc (by decide)) (fun _ => ?_)
  refine lv_aload_n hx hb dX8_init_139 rfl (lv_at hl 1 rfl) ?_
  refine get_W C0 hK hP iwX8 0 rfl rfl 8 (by decide) mF_X8_67 rfl rfl dX8_init_140 ?_
  refine lv_iload_n hx hb dX8_init_143 rfl (lv_at hl 0 rfl) ?_
  refine newC C0 hK hP hD hS hA iwX6 tyX6_ok mA_X8_65 mB_X6 mN_X6 (ci := 6) rfl (fs := [.null, .int 0, .int 0]) (fun j hj => by rcases (show j = 0 ∨ j = 1 ∨ j = 2 by omega) with rfl | rfl | rfl <;> rfl) (Nat.le_of_ble_eq_true rfl) (Nat.le_of_ble_eq_true rfl) dX8_init_144 (fun n22 H hP hD hS => ?_)
  have hP : va_P g.1 vwCl ([(h0, .inr (8, [.ref (u2 0), .ref (u4 0), .ref (u6 0), .ref (u8 0), .ref (u10 0), .ref (u12 0), .ref (u14 0), .ref (u16 0), .ref a17, .int 0]))] ++ bX4 g u2 ++ bX7 g (u2 0) u4 ++ bX7 g (u2 0) u6 ++ bX5 g (u2 0) u8 ++ bX2 g (u2 0) (u8 0) (u4 0) u10 ++ bX1 g u12 ++ bX0 g (u2 0) u14 ++ bX3 g u16 ++ [(a17, .inl (g.2.2.2, 4, .inr (.inr (.inr (.inr (va_up (va_up (fun _ => none) 0 (some (u19 0))) 1 (some (u21 0))))))))] ++ bX6 g u19 ++ bX6 g u21 ++ [(n22, .inr (6, [.null, .int 0, .int 0]))]) H := hP
  have hD : va_D (A1 h0 s.heap.size) ([(h0, .inr (8, [.ref (u2 0), .ref (u4 0), .ref (u6 0), .ref (u8 0), .ref (u10 0), .ref (u12 0), .ref (u14 0), .ref (u16 0), .ref a17, .int 0]))] ++ bX4 g u2 ++ bX7 g (u2 0) u4 ++ bX7 g (u2 0) u6 ++ bX5 g (u2 0) u8 ++ bX2 g (u2 0) (u8 0) (u4 0) u10 ++ bX1 g u12 ++ bX0 g (u2 0) u14 ++ bX3 g u16 ++ [(a17, .inl (g.2.2.2, 4, .inr (.inr (.inr (.inr (va_up (va_up (fun _ => none) 0 (some (u19 0))) 1 (some (u21 0))))))))] ++ bX6 g u19 ++ bX6 g u21 ++ [(n22, .inr (6, [.null, .int 0, .int 0]))]) := hD
  refine lv_dup hx hb dX8_init_147 rfl ?_
  refine cN_C C0 hE hP hD hS hA pkX6_init (As := []) (rest := [.ref n22, .int 2, .ref a17]) (fun sz => kX6_init l g n22 sz) nN_X8_71 ⟨rfl, rfl, Nat.le_of_ble_eq_true rfl, Nat.le_of_ble_eq_true rfl, Nat.le_of_ble_eq_true rfl, Nat.le_of_ble_eq_true rfl⟩ rfl hl.1 rfl (Nat.le_of_ble_eq_true rfl) dX8_init_148 (fun u23 Hn locsn hq hPn hDn hSn => ?_)
  subst hq
  have hS := hSn
  have hP : va_P g.1 vwCl ([(h0, .inr (8, [.ref (u2 0), .ref (u4 0), .ref (u6 0), .ref (u8 0), .ref (u10 0), .ref (u12 0), .ref (u14 0), .ref (u16 0), .ref a17, .int 0]))] ++ bX4 g u2 ++ bX7 g (u2 0) u4 ++ bX7 g (u2 0) u6 ++ bX5 g (u2 0) u8 ++ bX2 g (u2 0) (u8 0) (u4 0) u10 ++ bX1 g u12 ++ bX0 g (u2 0) u14 ++ bX3 g u16 ++ [(a17, .inl (g.2.2.2, 4, .inr (.inr (.inr (.inr (va_up (va_up (fun _ => none) 0 (some (u19 0))) 1 (some (u21 0))))))))] ++ bX6 g u19 ++ bX6 g u21 ++ bX6 g u23) Hn := hPn
  have hD : va_D (A1 h0 s.heap.size) ([(h0, .inr (8, [.ref (u2 0), .ref (u4 0), .ref (u6 0), .ref (u8 0), .ref (u10 0), .ref (u12 0), .ref (u14 0), .ref (u16 0), .ref a17, .int 0]))] ++ bX4 g u2 ++ bX7 g (u2 0) u4 ++ bX7 g (u2 0) u6 ++ bX5 g (u2 0) u8 ++ bX2 g (u2 0) (u8 0) (u4 0) u10 ++ bX1 g u12 ++ bX0 g (u2 0) u14 ++ bX3 g u16 ++ [(a17, .inl (g.2.2.2, 4, .inr (.inr (.inr (.inr (va_up (va_up (fun _ => none) 0 (some (u19 0))) 1 (some (u21 0))))))))] ++ bX6 g u19 ++ bX6 g u21 ++ bX6 g u23) := hDn
  refine va_astq hx hb hK hP hD hS 35 2 40 6 rfl rfl rfl rfl (show ¬ ((2 : Int32) < 0 ∨ 4 ≤ (2 : Int32).toNatClampNeg) by decide) dX8_init_151 (fun H locs hP hD hS => ?_)
  have hP : va_P g.1 vwCl ([(h0, .inr (8, [.ref (u2 0), .ref (u4 0), .ref (u6 0), .ref (u8 0), .ref (u10 0), .ref (u12 0), .ref (u14 0), .ref (u16 0), .ref a17, .int 0]))] ++ bX4 g u2 ++ bX7 g (u2 0) u4 ++ bX7 g (u2 0) u6 ++ bX5 g (u2 0) u8 ++ bX2 g (u2 0) (u8 0) (u4 0) u10 ++ bX1 g u12 ++ bX0 g (u2 0) u14 ++ bX3 g u16 ++ [(a17, .inl (g.2.2.2, 4, .inr (.inr (.inr (.inr (va_up (va_up (va_up (fun _ => none) 0 (some (u19 0))) 1 (some (u21 0))) 2 (some (u23 0))))))))] ++ bX6 g u19 ++ bX6 g u21 ++ bX6 g u23) H := hP
  have hD : va_D (A1 h0 s.heap.size) ([(h0, .inr (8, [.ref (u2 0), .ref (u4 0), .ref (u6 0), .ref (u8 0), .ref (u10 0), .ref (u12 0), .ref (u14 0), .ref (u16 0), .ref a17, .int 0]))] ++ bX4 g u2 ++ bX7 g (u2 0) u4 ++ bX7 g (u2 0) u6 ++ bX5 g (u2 0) u8 ++ bX2 g (u2 0) (u8 0) (u4 0) u10 ++ bX1 g u12 ++ bX0 g (u2 0) u14 ++ bX3 g u16 ++ [(a17, .inl (g.2.2.2, 4, .inr (.inr (.inr (.inr (va_up (va_up (va_up (fun _ => none) 0 (some (u19 0))) 1 (some (u21 0))) 2 (some (u23 0))))))))] ++ bX6 g u19 ++ bX6 g u21 ++ bX6 g u23) := hD
  refine lv_iinc (v := 3) (lv' := [(1, .int 3), (0, .ref h0)]) hx hb dX8_init_152 hl (k := 0) rfl (by decide) (by decide) rfl (fun ls hl => ?_)
  refine lv_goto (tgt := 130) hx hb dX8_init_155 (by decide) ?_
  refine lv_iload_n hx hb dX8_init_130 rfl (lv_at hl 0 rfl) ?_
  refine lv_aload_n hx hb dX8_init_131 rfl (lv_at hl 1 rfl) ?_
  refine get_W C0 hK hP iwX8 0 rfl rfl 8 (by decide) mF_X8_67 rfl rfl dX8_init_132 ?_
  refine va_alen hx hb hK hP 35 2 rfl rfl (v := 4) rfl dX8_init_135 ?_
  refine lv_icmp_ge (tgt := 158) hx hb dX8_init_136 (by decide) (fun cc => absurd cc (by decide)) (fun _ => ?_)
  refine lv_aload_n hx hb dX8_init_139 rfl (lv_at hl 1 rfl) ?_
  refine get_W C0 hK hP iwX8 0 rfl rfl 8 (by decide) mF_X8_67 rfl rfl dX8_init_140 ?_
  refine lv_iload_n hx hb dX8_init_143 rfl (lv_at hl 0 rfl) ?_
  refine newC C0 hK hP hD hS hA iwX6 tyX6_ok mA_X8_65 mB_X6 mN_X6 (ci := 6) rfl (fs := [.null, .int 0, .int 0]) (fun j hj => by rcases (show j = 0 ∨ j = 1 ∨ j = 2 by omega) with rfl | rfl | rfl <;> rfl) (Nat.le_of_ble_eq_true rfl) (Nat.le_of_ble_eq_true rfl) dX8_init_144 (fun n24 H hP hD hS => ?_)
  have hP : va_P g.1 vwCl ([(h0, .inr (8, [.ref (u2 0), .ref (u4 0), .ref (u6 0), .ref (u8 0), .ref (u10 0), .ref (u12 0), .ref (u14 0), .ref (u16 0), .ref a17, .int 0]))] ++ bX4 g u2 ++ bX7 g (u2 0) u4 ++ bX7 g (u2 0) u6 ++ bX5 g (u2 0) u8 ++ bX2 g (u2 0) (u8 0) (u4 0) u10 ++ bX1 g u12 ++ bX0 g (u2 0) u14 ++ bX3 g u16 ++ [(a17, .inl (g.2.2.2, 4, .inr (.inr (.inr (.inr (va_up (va_up (va_up (fun _ => none) 0 (some (u19 0))) 1 (some (u21 0))) 2 (some (u23 0))))))))] ++ bX6 g u19 ++ bX6 g u21 ++ bX6 g u23 ++ [(n24, .inr (6, [.null, .int 0, .int 0]))]) H := hP
  have hD : va_D (A1 h0 s.heap.size) ([(h0, .inr (8, [.ref (u2 0), .ref (u4 0), .ref (u6 0), .ref (u8 0), .ref (u10 0), .ref (u12 0), .ref (u14 0), .ref (u16 0), .ref a17, .int 0]))] ++ bX4 g u2 ++ bX7 g (u2 0) u4 ++ bX7 g (u2 0) u6 ++ bX5 g (u2 0) u8 ++ bX2 g (u2 0) (u8 0) (u4 0) u10 ++ bX1 g u12 ++ bX0 g (u2 0) u14 ++ bX3 g u16 ++ [(a17, .inl (g.2.2.2, 4, .inr (.inr (.inr (.inr (va_up (va_up (va_up (fun _ => none) 0 (some (u19 0))) 1 (some (u21 0))) 2 (some (u23 0))))))))] ++ bX6 g u19 ++ bX6 g u21 ++ bX6 g u23 ++ [(n24, .inr (6, [.null, .int 0, .int 0]))]) := hD
  refine lv_dup hx hb dX8_init_147 rfl ?_
  refine cN_C C0 hE hP hD hS hA pkX6_init (As := []) (rest := [.ref n24, .int 3, .ref a17]) (fun sz => kX6_init l g n24 sz) nN_X8_71 ⟨rfl, rfl, Nat.le_of_ble_eq_true rfl, Nat.le_of_ble_eq_true rfl, Nat.le_of_ble_eq_true rfl, Nat.le_of_ble_eq_true rfl⟩ rfl hl.1 rfl (Nat.le_of_ble_eq_true rfl) dX8_init_148 (fun u25 Hn locsn hq hPn hDn hSn => ?_)
  subst hq
  have hS := hSn
  have hP : va_P g.1 vwCl ([(h0, .inr (8, [.ref (u2 0), .ref (u4 0), .ref (u6 0), .ref (u8 0), .ref (u10 0), .ref (u12 0), .ref (u14 0), .ref (u16 0), .ref a17, .int 0]))] ++ bX4 g u2 ++ bX7 g (u2 0) u4 ++ bX7 g (u2 0) u6 ++ bX5 g (u2 0) u8 ++ bX2 g (u2 0) (u8 0) (u4 0) u10 ++ bX1 g u12 ++ bX0 g (u2 0) u14 ++ bX3 g u16 ++ [(a17, .inl (g.2.2.2, 4, .inr (.inr (.inr (.inr (va_up (va_up (va_up (fun _ => none) 0 (some (u19 0))) 1 (some (u21 0))) 2 (some (u23 0))))))))] ++ bX6 g u19 ++ bX6 g u21 ++ bX6 g u23 ++ bX6 g u25) Hn := hPn
  have hD : va_D (A1 h0 s.heap.size) ([(h0, .inr (8, [.ref (u2 0), .ref (u4 0), .ref (u6 0), .ref (u8 0), .ref (u10 0), .ref (u12 0), .ref (u14 0), .ref (u16 0), .ref a17, .int 0]))] ++ bX4 g u2 ++ bX7 g (u2 0) u4 ++ bX7 g (u2 0) u6 ++ bX5 g (u2 0) u8 ++ bX2 g (u2 0) (u8 0) (u4 0) u10 ++ bX1 g u12 ++ bX0 g (u2 0) u14 ++ bX3 g u16 ++ [(a17, .inl (g.2.2.2, 4, .inr (.inr (.inr (.inr (va_up (va_up (va_up (fun _ => none) 0 (some (u19 0))) 1 (some (u21 0))) 2 (some (u23 0))))))))] ++ bX6 g u19 ++ bX6 g u21 ++ bX6 g u23 ++ bX6 g u25) := hDn
  refine va_astq hx hb hK hP hD hS 35 2 42 6 rfl rfl rfl rfl (show ¬ ((3 : Int32) < 0 ∨ 4 ≤ (3 : Int32).toNatClampNeg) by decide) dX8_init_151 (fun H locs hP hD hS => ?_)
  have hP : va_P g.1 vwCl ([(h0, .inr (8, [.ref (u2 0), .ref (u4 0), .ref (u6 0), .ref (u8 0), .ref (u10 0), .ref (u12 0), .ref (u14 0), .ref (u16 0), .ref a17, .int 0]))] ++ bX4 g u2 ++ bX7 g (u2 0) u4 ++ bX7 g (u2 0) u6 ++ bX5 g (u2 0) u8 ++ bX2 g (u2 0) (u8 0) (u4 0) u10 ++ bX1 g u12 ++ bX0 g (u2 0) u14 ++ bX3 g u16 ++ [(a17, .inl (g.2.2.2, 4, .inr (.inr (.inr (.inr (va_up (va_up (va_up (va_up (fun _ => none) 0 (some (u19 0))) 1 (some (u21 0))) 2 (some (u23 0))) 3 (some (u25 0))))))))] ++ bX6 g u19 ++ bX6 g u21 ++ bX6 g u23 ++ bX6 g u25) H := hP
  have hD : va_D (A1 h0 s.heap.size) ([(h0, .inr (8, [.ref (u2 0), .ref (u4 0), .ref (u6 0), .ref (u8 0), .ref (u10 0), .ref (u12 0), .ref (u14 0), .ref (u16 0), .ref a17, .int 0]))] ++ bX4 g u2 ++ bX7 g (u2 0) u4 ++ bX7 g (u2 0) u6 ++ bX5 g (u2 0) u8 ++ bX2 g (u2 0) (u8 0) (u4 0) u10 ++ bX1 g u12 ++ bX0 g (u2 0) u14 ++ bX3 g u16 ++ [(a17, .inl (g.2.2.2, 4, .inr (.inr (.inr (.inr (va_up (va_up (va_up (va_up (fun _ => none) 0 (some (u19 0))) 1 (some (u21 0))) 2 (some (u23 0))) 3 (some (u25 0))))))))] ++ bX6 g u19 ++ bX6 g u21 ++ bX6 g u23 ++ bX6 g u25) := hD
  refine lv_iinc (v := 4) (lv' := [(1, .int 4), (0, .ref h0)]) hx hb dX8_init_152 hl (k := 0) rfl (by decide) (by decide) rfl (fun ls hl => ?_)
  refine lv_goto (tgt := 130) hx hb dX8_init_155 (by decide) ?_
  refine lv_iload_n hx hb dX8_init_130 rfl (lv_at hl 0 rfl) ?_
  refine lv_aload_n hx hb dX8_init_131 rfl (lv_at hl 1 rfl) ?_
  refine get_W C0 hK hP iwX8 0 rfl rfl 8 (by decide) mF_X8_67 rfl rfl dX8_init_132 ?_
  refine va_alen hx hb hK hP 35 2 rfl rfl (v := 4) rfl dX8_init_135 ?_
  refine lv_icmp_ge (tgt := 158) hx hb dX8_init_136 (by decide) (fun _ => ?_) (fun cc => absurd cc (by decide))
  refine lv_aload_n hx hb dX8_init_158 rfl (lv_at hl 1 rfl) ?_
  refine lv_iconst (v := 0) hx hb dX8_init_159 (by decide) ?_
  refine put_C C0 hK hP hD hS iwX8 tyX8_ok nmX8 0 rfl rfl 9 (by decide) mF_X8_72 rfl rfl rfl rfl (Nat.le_of_ble_eq_true rfl) rfl dX8_init_160 (fun H locs hP hD hS => ?_)
  have hP : va_P g.1 vwCl ([(h0, .inr (8, [.ref (u2 0), .ref (u4 0), .ref (u6 0), .ref (u8 0), .ref (u10 0), .ref (u12 0), .ref (u14 0), .ref (u16 0), .ref a17, .int 0]))] ++ bX4 g u2 ++ bX7 g (u2 0) u4 ++ bX7 g (u2 0) u6 ++ bX5 g (u2 0) u8 ++ bX2 g (u2 0) (u8 0) (u4 0) u10 ++ bX1 g u12 ++ bX0 g (u2 0) u14 ++ bX3 g u16 ++ [(a17, .inl (g.2.2.2, 4, .inr (.inr (.inr (.inr (va_up (va_up (va_up (va_up (fun _ => none) 0 (some (u19 0))) 1 (some (u21 0))) 2 (some (u23 0))) 3 (some (u25 0))))))))] ++ bX6 g u19 ++ bX6 g u21 ++ bX6 g u23 ++ bX6 g u25) H := hP
  have hD : va_D (A1 h0 s.heap.size) ([(h0, .inr (8, [.ref (u2 0), .ref (u4 0), .ref (u6 0), .ref (u8 0), .ref (u10 0), .ref (u12 0), .ref (u14 0), .ref (u16 0), .ref a17, .int 0]))] ++ bX4 g u2 ++ bX7 g (u2 0) u4 ++ bX7 g (u2 0) u6 ++ bX5 g (u2 0) u8 ++ bX2 g (u2 0) (u8 0) (u4 0) u10 ++ bX1 g u12 ++ bX0 g (u2 0) u14 ++ bX3 g u16 ++ [(a17, .inl (g.2.2.2, 4, .inr (.inr (.inr (.inr (va_up (va_up (va_up (va_up (fun _ => none) 0 (some (u19 0))) 1 (some (u21 0))) 2 (some (u23 0))) 3 (some (u25 0))))))))] ++ bX6 g u19 ++ bX6 g u21 ++ bX6 g u23 ++ bX6 g u25) := hD
  have hP9 : va_P g.1 vwCl (wX g (fun i => [h0, u2 0, u2 1, u2 2, u2 3, u4 0, u4 1, u4 2, u4 3, u4 4, u4 5, u6 0, u6 1, u6 2, u6 3, u6 4, u6 5, u8 0, u8 1, u10 0, u10 1, u12 0, u12 1, u12 2, u12 3, u12 4, u12 5, u14 0, u14 1, u16 0, u16 1, u16 2, u16 3, u16 4, u16 5, a17, u19 0, u19 1, u21 0, u21 1, u23 0, u23 1, u25 0, u25 1].getD i 0) memX0) H := va_P_set' (q0 := 35) hP hD rfl (hP.arr35 (q0 := 35) (a := a17) (f := va_up (va_up (va_up (va_up (fun _ => none) 0 (some (u19 0))) 1 (some (u21 0))) 2 (some (u23 0))) 3 (some (u25 0))) rfl rfl rfl rfl rfl) (fun _ _ _ => rfl)
  have hD9 : va_D (A1 h0 s.heap.size) (wX g (fun i => [h0, u2 0, u2 1, u2 2, u2 3, u4 0, u4 1, u4 2, u4 3, u4 4, u4 5, u6 0, u6 1, u6 2, u6 3, u6 4, u6 5, u8 0, u8 1, u10 0, u10 1, u12 0, u12 1, u12 2, u12 3, u12 4, u12 5, u14 0, u14 1, u16 0, u16 1, u16 2, u16 3, u16 4, u16 5, a17, u19 0, u19 1, u21 0, u21 1, u23 0, u23 1, u25 0, u25 1].getD i 0) memX0) := hD.set (p := 35) rfl
  exact ret_C C0 (fun i => [h0, u2 0, u2 1, u2 2, u2 3, u4 0, u4 1, u4 2, u4 3, u4 4, u4 5, u6 0, u6 1, u6 2, u6 3, u6 4, u6 5, u8 0, u8 1, u10 0, u10 1, u12 0, u12 1, u12 2, u12 3, u12 4, u12 5, u14 0, u14 1, u16 0, u16 1, u16 2, u16 3, u16 4, u16 5, a17, u19 0, u19 1, u21 0, u21 1, u23 0, u23 1, u25 0, u25 1].getD i 0) rfl hP9 hD9 hS dX8_init_163
