theorem six_exit {L t : Nat} (hL : L ≤ 3072) (ht : t ≤ 512) (h : ¬ (nI L - 6 < nI (6 * t))) : 6 * t + 6 ≤ L := by
  have e : (nI L - 6).toInt = (L : Int) - 6 := pk_sub_toInt (a := L) (b := 6) (by omega) (by omega)
  rw [Int32.lt_iff_toInt_lt, e, nI_toInt (by omega)] at h
  omega
theorem in_six {L t k : Nat} (hL : L ≤ 3072) (h : 6 * t + 6 ≤ L) (hk : k < 6) : vp_in (nI (6 * t) + nI k) L := by
  rw [nI_add]; exact vp_in_nI (by omega) (by omega)
set_option maxHeartbeats 4000000 in
set_option maxRecDepth 100000 in
theorem law_loop {p : Program} {l : Launch} {e : Env} {s : State} {m : MethodId} {below : List Frame} {meth : Method} {c : Code} {g : gG} {adX adM : Nat → Nat} {tk b L : Nat} {xs : Nat → Int32} (hL : L ≤ 3072) (C : lawC g adX adM tk b L xs p s m meth c) : ∀ (d t : Nat) (mX mM : Mem) (H : Heap) (locs : List Loc) (ls : Array Slot), t + d = 512 → Rel t mX mM → va_P g.1 vwCl (wX g adX mX) H → va_P g.1 vwCl (wM g adM mM) H → va_S (fun q : Nat => s.heap.size ≤ q) s.heap H locs → lv_has ls 4 [(0, .ref b), (1, .ref (adX 0)), (2, .ref (adM 0)), (3, .int (nI (6 * t)))] → W p l e room_1 s m #[Value.ref b] below meth c H locs 600000 7302250 (lw_Z below #[Value.ref b] s) (F0 m 18 ls []) := by
  obtain ⟨⟨hx, hb, hml, hown, hts, hr, hlk, -⟩, hX, hbl, -⟩ := id C
  have hbA : ¬ (fun q : Nat => s.heap.size ≤ q) b := Nat.not_le.mpr hbl
  have hout : ∀ (t : Nat) (H : Heap) (locs : List Loc) (ls : Array Slot), va_S (fun q : Nat => s.heap.size ≤ q) s.heap H locs → W p l e room_1 s m #[Value.ref b] below meth c H locs 600000 7302250 (lw_Z below #[Value.ref b] s) (F0 m 1226 ls []) := by
    intro t H locs ls hS
    refine va_forget (fun q hq => hS.2.2 q hq) ?_
    refine lv_iconst (v := 1) hx hb dL_law_1226 (by decide) ?_
    exact lw_ret hx hb hr hlk dL_law_1227
  intro d
  induction d with
  | zero =>
    intro t mX mM H locs ls htd hR hPX hPM hS hl
    refine lv_iload_n hx hb dL_law_18 rfl (lv_at hl 3 rfl) ?_
    refine lv_aload_n hx hb dL_law_19 rfl (lv_at hl 0 rfl) ?_
    refine va_slen hx hb hX hbl hbA hS dL_law_20 ?_
    refine lv_bipush (v := 6) hx hb dL_law_21 (by decide) ?_
    refine lv_isub hx hb dL_law_23 ?_
    refine lv_icmp_gt (tgt := 1226) hx hb dL_law_24 (by decide) (fun _ => hout t _ _ _ hS) (fun cc => ?_)
    have := six_exit hL (by omega) cc
    omega
  | succ d ih =>
    intro t mX mM H locs ls htd hR hPX hPM hS hl
    refine lv_iload_n hx hb dL_law_18 rfl (lv_at hl 3 rfl) ?_
    refine lv_aload_n hx hb dL_law_19 rfl (lv_at hl 0 rfl) ?_
    refine va_slen hx hb hX hbl hbA hS dL_law_20 ?_
    refine lv_bipush (v := 6) hx hb dL_law_21 (by decide) ?_
    refine lv_isub hx hb dL_law_23 ?_
    refine lv_icmp_gt (tgt := 1226) hx hb dL_law_24 (by decide) (fun _ => hout t _ _ _ hS) (fun cc => ?_)
    have h6 := six_exit hL (by omega) cc
    have ht : t < 512 := by omega
    have hk : ∀ (mX mM : Mem) (H : Heap) (locs : List Loc) (ls : Array Slot), Rel (t + 1) mX mM → va_P g.1 vwCl (wX g adX mX) H → va_P g.1 vwCl (wM g adM mM) H → va_S (fun q : Nat => s.heap.size ≤ q) s.heap H locs → lv_has ls 4 [(0, .ref b), (1, .ref (adX 0)), (2, .ref (adM 0)), (3, .int (nI (6 * t)))] → W p l e room_1 s m #[Value.ref b] below meth c H locs 600000 7302250 (lw_Z below #[Value.ref b] s) (F0 m 1220 ls []) := by
      intro mX mM H locs ls hR hPX hPM hS hl
      refine lv_iinc (v := nI (6 * (t + 1))) (lv' := [(3, .int (nI (6 * (t + 1)))), (0, .ref b), (1, .ref (adX 0)), (2, .ref (adM 0))]) hx hb dL_law_1220 hl (k := 3) rfl (nI_add (6 * t) 6) (by decide) rfl (fun ls hl => ?_)
      refine lv_goto (tgt := 18) hx hb dL_law_1223 (by decide) ?_
      exact ih (t + 1) mX mM _ _ ls (by omega) hR hPX hPM hS (lv_sub hl [1, 2, 3, 0] rfl)
    have h1 : vp_in (nI (6 * t) + 1) L := in_six (k := 1) hL h6 (by omega)
    have h2 : vp_in (nI (6 * t) + 2) L := in_six (k := 2) hL h6 (by omega)
    have h3 : vp_in (nI (6 * t) + 3) L := in_six (k := 3) hL h6 (by omega)
    have h4 : vp_in (nI (6 * t) + 4) L := in_six (k := 4) hL h6 (by omega)
    have h5 : vp_in (nI (6 * t) + 5) L := in_six (k := 5) hL h6 (by omega)
    have h0 : vp_in (nI (6 * t)) L := vp_in_nI (by omega) (by omega)
    refine lv_aload_n hx hb dL_law_27 rfl (lv_at hl 0 rfl) ?_
    refine lv_iload_n hx hb dL_law_28 rfl (lv_at hl 3 rfl) ?_
    refine va_sld hx hb hX hbl hbA hS h0 dL_law_29 ?_
    refine lv_bipush (v := 63) hx hb dL_law_30 (by decide) ?_
    refine lv_iand hx hb dL_law_32 ?_
    generalize xs (nI (6 * t)).toNatClampNeg &&& 63 = z
    by_cases c0 : z = 0
    · refine lv_tableIn (off := 151) (tgt := 184) hx hb dL_law_33 (by rw [c0]; decide) (by rw [c0]; decide) (by rw [c0]; rfl) (by decide) ?_
      exact lawc_0 C ht hR h1 h2 h3 h4 h5 hk _ _ ls hPX hPM hS hl
    by_cases c1 : z = 1
    · refine lv_tableIn (off := 184) (tgt := 217) hx hb dL_law_33 (by rw [c1]; decide) (by rw [c1]; decide) (by rw [c1]; rfl) (by decide) ?_
      exact lawc_1 C ht hR h1 h2 h3 h4 h5 hk _ _ ls hPX hPM hS hl
    by_cases c2 : z = 2
    · refine lv_tableIn (off := 217) (tgt := 250) hx hb dL_law_33 (by rw [c2]; decide) (by rw [c2]; decide) (by rw [c2]; rfl) (by decide) ?_
      exact lawc_2 C ht hR h1 h2 h3 h4 h5 hk _ _ ls hPX hPM hS hl
    by_cases c3 : z = 3
    · refine lv_tableIn (off := 266) (tgt := 299) hx hb dL_law_33 (by rw [c3]; decide) (by rw [c3]; decide) (by rw [c3]; rfl) (by decide) ?_
      exact lawc_3 C ht hR h1 h2 h3 h4 h5 hk _ _ ls hPX hPM hS hl
    by_cases c4 : z = 4
    · refine lv_tableIn (off := 299) (tgt := 332) hx hb dL_law_33 (by rw [c4]; decide) (by rw [c4]; decide) (by rw [c4]; rfl) (by decide) ?_
      exact lawc_4 C ht hR h1 h2 h3 h4 h5 hk _ _ ls hPX hPM hS hl
    by_cases c5 : z = 5
    · refine lv_tableIn (off := 322) (tgt := 355) hx hb dL_law_33 (by rw [c5]; decide) (by rw [c5]; decide) (by rw [c5]; rfl) (by decide) ?_
      exact lawc_5 C ht hR h1 h2 h3 h4 h5 hk _ _ ls hPX hPM hS hl
    by_cases c6 : z = 6
    · refine lv_tableIn (off := 355) (tgt := 388) hx hb dL_law_33 (by rw [c6]; decide) (by rw [c6]; decide) (by rw [c6]; rfl) (by decide) ?_
      exact lawc_6 C ht hR h1 h2 h3 h4 h5 hk _ _ ls hPX hPM hS hl
    by_cases c7 : z = 7
    · refine lv_tableIn (off := 388) (tgt := 421) hx hb dL_law_33 (by rw [c7]; decide) (by rw [c7]; decide) (by rw [c7]; rfl) (by decide) ?_
      exact lawc_7 C ht hR h1 h2 h3 h4 h5 hk _ _ ls hPX hPM hS hl
    by_cases c8 : z = 8
    · refine lv_tableIn (off := 411) (tgt := 444) hx hb dL_law_33 (by rw [c8]; decide) (by rw [c8]; decide) (by rw [c8]; rfl) (by decide) ?_
      exact lawc_8 C ht hR h1 h2 h3 h4 h5 hk _ _ ls hPX hPM hS hl
    by_cases c9 : z = 9
    · refine lv_tableIn (off := 424) (tgt := 457) hx hb dL_law_33 (by rw [c9]; decide) (by rw [c9]; decide) (by rw [c9]; rfl) (by decide) ?_
      exact lawc_9 C ht hR h1 h2 h3 h4 h5 hk _ _ ls hPX hPM hS hl
    by_cases c10 : z = 10
    · refine lv_tableIn (off := 473) (tgt := 506) hx hb dL_law_33 (by rw [c10]; decide) (by rw [c10]; decide) (by rw [c10]; rfl) (by decide) ?_
      exact lawc_10 C ht hR h1 h2 h3 h4 h5 hk _ _ ls hPX hPM hS hl
    by_cases c11 : z = 11
    · refine lv_tableIn (off := 506) (tgt := 539) hx hb dL_law_33 (by rw [c11]; decide) (by rw [c11]; decide) (by rw [c11]; rfl) (by decide) ?_
      exact lawc_11 C ht hR h1 h2 h3 h4 h5 hk _ _ ls hPX hPM hS hl
    by_cases c12 : z = 12
    · refine lv_tableIn (off := 529) (tgt := 562) hx hb dL_law_33 (by rw [c12]; decide) (by rw [c12]; decide) (by rw [c12]; rfl) (by decide) ?_
      exact lawc_12 C ht hR h1 h2 h3 h4 h5 hk _ _ ls hPX hPM hS hl
    by_cases c13 : z = 13
    · refine lv_tableIn (off := 578) (tgt := 611) hx hb dL_law_33 (by rw [c13]; decide) (by rw [c13]; decide) (by rw [c13]; rfl) (by decide) ?_
      exact lawc_13 C ht hR h1 h2 h3 h4 h5 hk _ _ ls hPX hPM hS hl
    by_cases c14 : z = 14
    · refine lv_tableIn (off := 591) (tgt := 624) hx hb dL_law_33 (by rw [c14]; decide) (by rw [c14]; decide) (by rw [c14]; rfl) (by decide) ?_
      exact lawc_14 C ht hR h1 h2 h3 h4 h5 hk _ _ ls hPX hPM hS hl
    by_cases c15 : z = 15
    · refine lv_tableIn (off := 604) (tgt := 637) hx hb dL_law_33 (by rw [c15]; decide) (by rw [c15]; decide) (by rw [c15]; rfl) (by decide) ?_
      exact lawc_15 C ht hR h1 h2 h3 h4 h5 hk _ _ ls hPX hPM hS hl
    by_cases c16 : z = 16
    · refine lv_tableIn (off := 627) (tgt := 660) hx hb dL_law_33 (by rw [c16]; decide) (by rw [c16]; decide) (by rw [c16]; rfl) (by decide) ?_
      exact lawc_16 C ht hR h1 h2 h3 h4 h5 hk _ _ ls hPX hPM hS hl
    by_cases c17 : z = 17
    · refine lv_tableIn (off := 640) (tgt := 673) hx hb dL_law_33 (by rw [c17]; decide) (by rw [c17]; decide) (by rw [c17]; rfl) (by decide) ?_
      exact lawc_17 C ht hR h1 h2 h3 h4 h5 hk _ _ ls hPX hPM hS hl
    by_cases c18 : z = 18
    · refine lv_tableIn (off := 663) (tgt := 696) hx hb dL_law_33 (by rw [c18]; decide) (by rw [c18]; decide) (by rw [c18]; rfl) (by decide) ?_
      exact lawc_18 C ht hR h1 h2 h3 h4 h5 hk _ _ ls hPX hPM hS hl
    by_cases c19 : z = 19
    · refine lv_tableIn (off := 696) (tgt := 729) hx hb dL_law_33 (by rw [c19]; decide) (by rw [c19]; decide) (by rw [c19]; rfl) (by decide) ?_
      exact lawc_19 C ht hR h1 h2 h3 h4 h5 hk _ _ ls hPX hPM hS hl
    by_cases c20 : z = 20
    · refine lv_tableIn (off := 709) (tgt := 742) hx hb dL_law_33 (by rw [c20]; decide) (by rw [c20]; decide) (by rw [c20]; rfl) (by decide) ?_
      exact lawc_20 C ht hR h1 h2 h3 h4 h5 hk _ _ ls hPX hPM hS hl
    by_cases c21 : z = 21
    · refine lv_tableIn (off := 742) (tgt := 775) hx hb dL_law_33 (by rw [c21]; decide) (by rw [c21]; decide) (by rw [c21]; rfl) (by decide) ?_
      exact lawc_21 C ht hR h1 h2 h3 h4 h5 hk _ _ ls hPX hPM hS hl
    by_cases c22 : z = 22
    · refine lv_tableIn (off := 765) (tgt := 798) hx hb dL_law_33 (by rw [c22]; decide) (by rw [c22]; decide) (by rw [c22]; rfl) (by decide) ?_
      exact lawc_22 C ht hR h1 h2 h3 h4 h5 hk _ _ ls hPX hPM hS hl
    by_cases c23 : z = 23
    · refine lv_tableIn (off := 788) (tgt := 821) hx hb dL_law_33 (by rw [c23]; decide) (by rw [c23]; decide) (by rw [c23]; rfl) (by decide) ?_
      exact lawc_23 C ht hR h1 h2 h3 h4 h5 hk _ _ ls hPX hPM hS hl
    by_cases c24 : z = 24
    · refine lv_tableIn (off := 841) (tgt := 874) hx hb dL_law_33 (by rw [c24]; decide) (by rw [c24]; decide) (by rw [c24]; rfl) (by decide) ?_
      exact lawc_24 C ht hR h1 h2 h3 h4 h5 hk _ _ ls hPX hPM hS hl
    by_cases c25 : z = 25
    · refine lv_tableIn (off := 854) (tgt := 887) hx hb dL_law_33 (by rw [c25]; decide) (by rw [c25]; decide) (by rw [c25]; rfl) (by decide) ?_
      exact lawc_25 C ht hR h1 h2 h3 h4 h5 hk _ _ ls hPX hPM hS hl
    by_cases c26 : z = 26
    · refine lv_tableIn (off := 893) (tgt := 926) hx hb dL_law_33 (by rw [c26]; decide) (by rw [c26]; decide) (by rw [c26]; rfl) (by decide) ?_
      exact lawc_26 C ht hR h1 h2 h3 h4 h5 hk _ _ ls hPX hPM hS hl
    by_cases c27 : z = 27
    · refine lv_tableIn (off := 926) (tgt := 959) hx hb dL_law_33 (by rw [c27]; decide) (by rw [c27]; decide) (by rw [c27]; rfl) (by decide) ?_
      exact lawc_27 C ht hR h1 h2 h3 h4 h5 hk _ _ ls hPX hPM hS hl
    by_cases c28 : z = 28
    · refine lv_tableIn (off := 959) (tgt := 992) hx hb dL_law_33 (by rw [c28]; decide) (by rw [c28]; decide) (by rw [c28]; rfl) (by decide) ?_
      exact lawc_28 C ht hR h1 h2 h3 h4 h5 hk _ _ ls hPX hPM hS hl
    by_cases c29 : z = 29
    · refine lv_tableIn (off := 992) (tgt := 1025) hx hb dL_law_33 (by rw [c29]; decide) (by rw [c29]; decide) (by rw [c29]; rfl) (by decide) ?_
      exact lawc_29 C ht hR h1 h2 h3 h4 h5 hk _ _ ls hPX hPM hS hl
    by_cases c30 : z = 30
    · refine lv_tableIn (off := 1035) (tgt := 1068) hx hb dL_law_33 (by rw [c30]; decide) (by rw [c30]; decide) (by rw [c30]; rfl) (by decide) ?_
      exact lawc_30 C ht hR h1 h2 h3 h4 h5 hk _ _ ls hPX hPM hS hl
    by_cases c31 : z = 31
    · refine lv_tableIn (off := 1078) (tgt := 1111) hx hb dL_law_33 (by rw [c31]; decide) (by rw [c31]; decide) (by rw [c31]; rfl) (by decide) ?_
      exact lawc_31 C ht hR h1 h2 h3 h4 h5 hk _ _ ls hPX hPM hS hl
    by_cases c32 : z = 32
    · refine lv_tableIn (off := 1141) (tgt := 1174) hx hb dL_law_33 (by rw [c32]; decide) (by rw [c32]; decide) (by rw [c32]; rfl) (by decide) ?_
      exact lawc_32 C ht hR h1 h2 h3 h4 h5 hk _ _ ls hPX hPM hS hl
    by_cases c33 : z = 33
    · refine lv_tableIn (off := 1164) (tgt := 1197) hx hb dL_law_33 (by rw [c33]; decide) (by rw [c33]; decide) (by rw [c33]; rfl) (by decide) ?_
      exact lawc_33 C ht hR h1 h2 h3 h4 h5 hk _ _ ls hPX hPM hS hl
    have t0 := ne_toInt c0 (k := 0) rfl
    have t1 := ne_toInt c1 (k := 1) rfl
    have t2 := ne_toInt c2 (k := 2) rfl
    have t3 := ne_toInt c3 (k := 3) rfl
    have t4 := ne_toInt c4 (k := 4) rfl
    have t5 := ne_toInt c5 (k := 5) rfl
    have t6 := ne_toInt c6 (k := 6) rfl
    have t7 := ne_toInt c7 (k := 7) rfl
    have t8 := ne_toInt c8 (k := 8) rfl
    have t9 := ne_toInt c9 (k := 9) rfl
    have t10 := ne_toInt c10 (k := 10) rfl
    have t11 := ne_toInt c11 (k := 11) rfl
    have t12 := ne_toInt c12 (k := 12) rfl
    have t13 := ne_toInt c13 (k := 13) rfl
    have t14 := ne_toInt c14 (k := 14) rfl
    have t15 := ne_toInt c15 (k := 15) rfl
    have t16 := ne_toInt c16 (k := 16) rfl
    have t17 := ne_toInt c17 (k := 17) rfl
    have t18 := ne_toInt c18 (k := 18) rfl
    have t19 := ne_toInt c19 (k := 19) rfl
    have t20 := ne_toInt c20 (k := 20) rfl
    have t21 := ne_toInt c21 (k := 21) rfl
    have t22 := ne_toInt c22 (k := 22) rfl
    have t23 := ne_toInt c23 (k := 23) rfl
    have t24 := ne_toInt c24 (k := 24) rfl
    have t25 := ne_toInt c25 (k := 25) rfl
    have t26 := ne_toInt c26 (k := 26) rfl
    have t27 := ne_toInt c27 (k := 27) rfl
    have t28 := ne_toInt c28 (k := 28) rfl
    have t29 := ne_toInt c29 (k := 29) rfl
    have t30 := ne_toInt c30 (k := 30) rfl
    have t31 := ne_toInt c31 (k := 31) rfl
    have t32 := ne_toInt c32 (k := 32) rfl
    have t33 := ne_toInt c33 (k := 33) rfl
    refine lv_tableOut (tgt := 1220) hx hb dL_law_33 (by omega) (by decide) ?_
    exact hk _ _ _ _ ls (Rel_mono hR) hPX hPM hS hl
theorem law_K {s : State} {a : Array Value} (hts : ∀ w ∈ lw_tbl, w.before a s = true) : ∃ g : gG, va_K g.1 vwCl (tyG g) s := by
  have hg : ∀ w ∈ gw, w.before a s = true := fun w h => hts w (gw_tbl h)
  obtain ⟨c0, i0, k0⟩ := u_known (C := RX0) (T := TX0) (N := 3) (n := 3) hg iwX0 (hg _ mB_X0)
  obtain ⟨c1, i1, k1⟩ := u_known (C := RX1) (T := TX1) (N := 6) (n := 6) hg iwX1 (hg _ mB_X1)
  obtain ⟨c2, i2, k2⟩ := u_known (C := RX2) (T := TX2) (N := 5) (n := 5) hg iwX2 (hg _ mB_X2)
  obtain ⟨c3, i3, k3⟩ := u_known (C := RX3) (T := TX3) (N := 7) (n := 7) hg iwX3 (hg _ mB_X3)
  obtain ⟨c4, i4, k4⟩ := u_known (C := RX4) (T := TX4) (N := 4) (n := 4) hg iwX4 (hg _ mB_X4)
  obtain ⟨c5, i5, k5⟩ := u_known (C := RX5) (T := TX5) (N := 3) (n := 3) hg iwX5 (hg _ mB_X5)
  obtain ⟨c6, i6, k6⟩ := u_known (C := RX6) (T := TX6) (N := 3) (n := 3) hg iwX6 (hg _ mB_X6)
  obtain ⟨c7, i7, k7⟩ := u_known (C := RX7) (T := TX7) (N := 8) (n := 8) hg iwX7 (hg _ mB_X7)
  obtain ⟨c8, i8, k8⟩ := u_known (C := RX8) (T := TX8) (N := 10) (n := 10) hg iwX8 (hg _ mB_X8)
  obtain ⟨c9, i9, k9⟩ := u_known (C := RX9) (T := TX9) (N := 39) (n := 39) hg iwX9 (hg _ mB_X9)
  obtain ⟨cI, kI, pI, a1, a2, a3⟩ := Cond.arrayClass_spec (hg _ mY_int)
  obtain ⟨cZ, kZ, pZ, b1, b2, b3⟩ := Cond.arrayClass_spec (hg _ mY_boolean)
  obtain ⟨pO, cO, kO, o1, o2, o3, o4, o5⟩ := Cond.arrayOver_spec (n := "SpeakHall$Sheet") (hts (.arrayOver (.object "SpeakHall$Sheet")) (by decide +kernel))
  refine ⟨((fun k => [c0, c1, c2, c3, c4, c5, c6, c7, c8, c9].getD k c0, fun k => [i0, i1, i2, i3, i4, i5, i6, i7, i8, i9].getD k i0), cI, cZ, cO), ?_, ?_⟩
  · intro k q hq
    match k, hq with
    | 0, hq => cases hq; exact k0
    | 1, hq => cases hq; exact k1
    | 2, hq => cases hq; exact k2
    | 3, hq => cases hq; exact k3
    | 4, hq => cases hq; exact k4
    | 5, hq => cases hq; exact k5
    | 6, hq => cases hq; exact k6
    | 7, hq => cases hq; exact k7
    | 8, hq => cases hq; exact k8
    | 9, hq => cases hq; exact k9
    | k + 10, hq => simp [vwCl] at hq
  · intro k q hq
    match k, hq with
    | 0, hq => cases hq; exact ⟨fun n z => ⟨fun k h => (by cases h), kI, a2, pI, a3⟩, a1⟩
    | 1, hq => cases hq; exact ⟨fun n z => ⟨fun k h => (by cases h), kZ, b2, pZ, b3⟩, b1⟩
    | 2, hq => cases hq; exact ⟨fun n z => ⟨fun k h => (by cases h), kO, o3, pO, o4⟩, kO, pO, o3, o4, o1, o5⟩
    | k + 3, hq => simp at hq
theorem law_T {s : State} {a : Array Value} (hgv : (Jvm.Cond.and given_1 narrow_1).before a s = true) (hts : ∀ w ∈ lw_tbl, w.before a s = true) : ∃ tk : Nat, rdT tk 4 kab s s.heap ∧ ∀ A : Nat → Prop, (∀ q, q < s.heap.size → ¬ A q) → va_Z "SpeakHall$Roster" "KIND_ABOVE" "[I" (.ref tk) A s s.heap := by
  have hs := flat_of_before _ hgv
  have harr : (Cond.arrayOf (.static "SpeakHall$Roster" "KIND_ABOVE" "[I") .int).before a s = true := hs _ (by decide +kernel)
  have hlen : (Cond.eq (.length (.static "SpeakHall$Roster" "KIND_ABOVE" "[I")) (.int 4)).before a s = true := hs _ (by decide +kernel)
  have e0 : (Cond.eq (.elem (.static "SpeakHall$Roster" "KIND_ABOVE" "[I") (.int 0)) (.int 0)).before a s = true := hs _ (by decide +kernel)
  have e1 : (Cond.eq (.elem (.static "SpeakHall$Roster" "KIND_ABOVE" "[I") (.int 1)) (.int 0)).before a s = true := hs _ (by decide +kernel)
  have e2 : (Cond.eq (.elem (.static "SpeakHall$Roster" "KIND_ABOVE" "[I") (.int 2)) (.int 0)).before a s = true := hs _ (by decide +kernel)
  have e3 : (Cond.eq (.elem (.static "SpeakHall$Roster" "KIND_ABOVE" "[I") (.int 3)) (.int 1)).before a s = true := hs _ (by decide +kernel)
  obtain ⟨tk, ht, hT⟩ := va_Tof (tm := .static "SpeakHall$Roster" "KIND_ABOVE" "[I") (ty := .int) (N := 4) (f := fun j => .int (kab j)) (A := fun _ => False) (by decide) harr (va_eqt hlen) (fun j hj => by
    rcases (show j = 0 ∨ j = 1 ∨ j = 2 ∨ j = 3 by omega) with rfl | rfl | rfl | rfl
    · exact va_eqt e0
    · exact va_eqt e1
    · exact va_eqt e2
    · exact va_eqt e3) (fun _ _ h => h)
  exact ⟨tk, hT, fun A hA => va_Zof (hts (.laysStatic "SpeakHall$Roster" "KIND_ABOVE" "[I") (by decide +kernel)) (hts (.initialized "SpeakHall$Roster") (by decide +kernel)) ht hA⟩
set_option maxHeartbeats 4000000 in
set_option maxRecDepth 100000 in
/-- THE LAW, from its entry -/
theorem whole_start {p : Program} {e : Env} {s : State} {m : MethodId} {below : List Frame} {meth : Method} {c : Code} (l : Launch) {b L : Nat} {xs : Nat → Int32} (hL : L ≤ 3072) (C0 : lw_At p s m meth c b L xs) : W p l e room_1 s m #[Value.ref b] below meth c s.heap [] 0 0 (lw_Z below #[Value.ref b] s) (entryFrame m ([Value.ref b] : List Value).toArray 4) := by
  obtain ⟨hx, hb, hr, hml, hown, hts, hX, hbl, hlocks, hgv⟩ := id C0
  obtain ⟨g, hK⟩ := law_K hts
  obtain ⟨tk, hT, hZ⟩ := law_T hgv hts
  have C1 : cxt (fun _ => True) cL_law 4 RL ret p s m #[Value.ref b] meth c := ⟨hx, hb, hml, hown, fun w h => hts w (gw_tbl h), hr, hlocks, trivial⟩
  have hN : ∀ w ∈ nw, va_Nw w s := by
    intro w hw
    have h := hts w (nw_tbl w hw)
    obtain ⟨a, i, x, z, rfl⟩ := nw_meth w hw
    exact va_Nw.of rfl h
  have hO : va_AO "SpeakHall$Sheet" s := va_AO.of (hts (.arrayOver (.object "SpeakHall$Sheet")) (by decide +kernel))
  have hE : eN g s := ⟨hK, hN, hO⟩
  have hA : ∀ q : Nat, s.heap.size ≤ q → (fun q : Nat => s.heap.size ≤ q) q := fun _ h => h
  have hS : va_S (fun q : Nat => s.heap.size ≤ q) s.heap s.heap [] := va_S.rf
  have hP : va_P g.1 vwCl [] s.heap := fun k q h => by simp at h
  have hD : va_D (fun q : Nat => s.heap.size ≤ q) [] := ⟨fun i j p q h => by simp at h, fun k q h => by simp at h⟩
  have hl := lv_entry ([.ref b]) (n := 4) (Nat.le_of_ble_eq_true rfl)
  rw [lg_entry_eq]
  generalize (lg_sl ([.ref b]) ++ List.replicate (4 - (lg_sl ([.ref b])).length) Slot.unset).toArray = ls at hl ⊢
  have hl : lv_has ls 4 [(0, .ref b)] := hl
  refine newC C1 hK hP hD hS hA iwX8 tyX8_ok mA_L_7 mB_X8 mN_X8 (ci := 8) rfl (fs := [.null, .null, .null, .null, .null, .null, .null, .null, .null, .int 0]) (fun j hj => by rcases (show j = 0 ∨ j = 1 ∨ j = 2 ∨ j = 3 ∨ j = 4 ∨ j = 5 ∨ j = 6 ∨ j = 7 ∨ j = 8 ∨ j = 9 by omega) with rfl | rfl | rfl | rfl | rfl | rfl | rfl | rfl | rfl | rfl <;> rfl) (Nat.le_of_ble_eq_true rfl) (Nat.le_of_ble_eq_true rfl) dL_law_0 (fun n1 H hP hD hS => ?_)
  refine lv_dup hx hb dL_law_3 rfl ?_
  refine cI_C (ws := []) C1 hE hP hD hS hA pkX8_init (As := []) (rest := [.ref n1]) (fun sz => kX8_init l g n1 sz) mL_L_9 ⟨rfl, rfl, Nat.le_of_ble_eq_true rfl, Nat.le_of_ble_eq_true rfl, Nat.le_of_ble_eq_true rfl, Nat.le_of_ble_eq_true rfl⟩ rfl hl.1 rfl (Nat.le_of_ble_eq_true rfl) dL_law_4 (fun u1 Hn locsn hq hPn hDn hSn => ?_)
  subst hq
  have hS := hSn
  have hP : va_P g.1 vwCl (wX g u1 memX0) Hn := hPn
  have hD : va_D (fun q : Nat => s.heap.size ≤ q) (wX g u1 memX0) := hDn
  refine lv_astore_n (lv' := [(1, .ref (u1 0)), (0, .ref b)]) hx hb dL_law_7 rfl hl (by decide) rfl (fun ls hl => ?_)
  refine newC C1 hK hP hD hS hA iwX9 tyX9_ok mA_L_10 mB_X9 mN_X9 (ci := 9) rfl (fs := [.int 0, .null, .null, .null, .null, .null, .int 0, .null, .null, .int 0, .null, .int 0, .int 0, .null, .null, .null, .null, .null, .int 0, .null, .int 0, .int 0, .null, .null, .null, .int 0, .null, .null, .null, .null, .null, .int 0, .null, .int 0, .null, .null, .null, .null, .null]) (fun j hj => by rcases (show j = 0 ∨ j = 1 ∨ j = 2 ∨ j = 3 ∨ j = 4 ∨ j = 5 ∨ j = 6 ∨ j = 7 ∨ j = 8 ∨ j = 9 ∨ j = 10 ∨ j = 11 ∨ j = 12 ∨ j = 13 ∨ j = 14 ∨ j = 15 ∨ j = 16 ∨ j = 17 ∨ j = 18 ∨ j = 19 ∨ j = 20 ∨ j = 21 ∨ j = 22 ∨ j = 23 ∨ j = 24 ∨ j = 25 ∨ j = 26 ∨ j = 27 ∨ j = 28 ∨ j = 29 ∨ j = 30 ∨ j = 31 ∨ j = 32 ∨ j = 33 ∨ j = 34 ∨ j = 35 ∨ j = 36 ∨ j = 37 ∨ j = 38 by omega) with rfl | rfl | rfl | rfl | rfl | rfl | rfl | rfl | rfl | rfl | rfl | rfl | rfl | rfl | rfl | rfl | rfl | rfl | rfl | rfl | rfl | rfl | rfl | rfl | rfl | rfl | rfl | rfl | rfl | rfl | rfl | rfl | rfl | rfl | rfl | rfl | rfl | rfl | rfl <;> rfl) (Nat.le_of_ble_eq_true rfl) (Nat.le_of_ble_eq_true rfl) dL_law_8 (fun n2 H hP hD hS => ?_)
  refine lv_dup hx hb dL_law_11 rfl ?_
  refine cI_C C1 hE hP hD hS hA pkX9_init (As := []) (rest := [.ref n2]) (fun sz => kX9_init l g n2 sz) mL_L_12 ⟨rfl, rfl, Nat.le_of_ble_eq_true rfl, Nat.le_of_ble_eq_true rfl, Nat.le_of_ble_eq_true rfl, Nat.le_of_ble_eq_true rfl⟩ rfl hl.1 rfl (Nat.le_of_ble_eq_true rfl) dL_law_12 (fun u2 Hn locsn hq hPn hDn hSn => ?_)
  subst hq
  have hS := hSn
  have hP : va_P g.1 vwCl (wX g u1 memX0 ++ wM g u2 memM0) Hn := hPn
  have hD : va_D (fun q : Nat => s.heap.size ≤ q) (wX g u1 memX0 ++ wM g u2 memM0) := hDn
  refine lv_astore_n (lv' := [(2, .ref (u2 0)), (1, .ref (u1 0)), (0, .ref b)]) hx hb dL_law_15 rfl hl (by decide) rfl (fun ls hl => ?_)
  refine lv_iconst (v := nI 0) hx hb dL_law_16 (by decide) ?_
  refine lv_istore_n (lv' := [(3, .int (nI 0)), (2, .ref (u2 0)), (1, .ref (u1 0)), (0, .ref b)]) hx hb dL_law_17 rfl hl (by decide) rfl (fun ls hl => ?_)
  obtain ⟨aX, fX⟩ := D_apt (va_D_l hD) wX_fst
  obtain ⟨aM, fM⟩ := D_apt (va_D_r hD) wM_fst
  have hnA : ∀ q, q < s.heap.size → ¬ AW 44 u1 q := fun q h z => by
    obtain ⟨k, hk, rfl⟩ := z
    exact absurd (fX k hk) (Nat.not_le.mpr h)
  have hEX : eX g u1 tk s := ⟨hK, hN, aX, hZ _ hnA, hT, hnA tk (rdT_lt hT)⟩
  refine W.widen (k := 600000) (n := 7302250) (Nat.le_of_ble_eq_true rfl) (Nat.le_of_ble_eq_true rfl) ?_
  exact law_loop hL ⟨C1, hX, hbl, hEX, ⟨hK, aM⟩, fX, fM, va_D_x hD wX_fst wM_fst⟩ 512 0 memX0 memM0 _ _ ls rfl Rel_0 (va_P_l hP) (va_P_r hP) hS (lv_sub hl [3, 2, 1, 0] rfl)
