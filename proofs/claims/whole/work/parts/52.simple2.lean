theorem timeOf_loop {M : Mem} {d : Int32} {nm : Nat} (hm : M 0 0 = nI nm) (hn : nm ≤ 10) : ∀ k i n, i + k = nm → k < n → fX9_timeOf_4 M d n (tsum (M 2) (M 4) d i) (nI i) = some (tsum (M 2) (M 4) d nm) := by
  intro k
  induction k with
  | zero =>
    intro i n hi hk
    obtain ⟨n', rfl⟩ : ∃ n', n = n' + 1 := ⟨n - 1, by omega⟩
    have : i = nm := by omega
    subst this
    rw [fX9_timeOf_4, hm, if_pos (nI_le (Nat.le_refl i) (by omega))]
  | succ k ih =>
    intro i n hi hk
    obtain ⟨n', rfl⟩ : ∃ n', n = n' + 1 := ⟨n - 1, by omega⟩
    have hs := ih (i + 1) n' (by omega) (by omega)
    rw [fX9_timeOf_4, hm, if_neg (nI_ge (by omega) (by omega)), gI_nI (by omega) (by omega), nI_clamp (by omega), nI_1]
    by_cases c : M 2 i = d
    · rw [if_pos c, gI_nI (by omega) (by omega)]
      rw [tsum, if_pos c] at hs
      exact hs
    · rw [if_neg c]
      rw [tsum, if_neg c] at hs
      exact hs
theorem timeOf_eq {nm : Nat} {X M : Mem} (h : rRos nm X M) (d : Int32) : fX9_timeOf M d = some (tsum (M 2) (M 4) d nm) :=
  timeOf_loop h.2.2.1 h.1 nm 0 fu (by omega) (by have := fu_gt; have := h.1; omega)
theorem sim_time {t : Nat} {X M : Mem} (h : Rel t X M) (_ht : t < 512) (a1 : Int32) : ∃ (r : Int32) (X2 M2 : Mem), fX8_time X a1 = some (r, X2) ∧ fX9_time M a1 = some (r, M2) ∧ Rel (t + 1) X2 M2 := by
  obtain ⟨nm, na, nk, nf, nr, ng, nq, h1, h2, -⟩ := id h
  unfold fX8_time fX9_time fX7_delegationTime
  rw [isIn_eq]
  rcases isIn_cases a1 0 4 with ⟨e, -⟩ | ⟨e, g1, g2⟩
  · simp only [e, ob1_some, ob2_some', fX8_fin, fX9_fin, ↓reduceIte]
    exact ⟨_, _, _, rfl, rfl, Rel_fnd h⟩
  · obtain ⟨j, hj, rfl⟩ := isIn_nat (n := 4) (by decide) g1 g2
    simp only [e, ob1_some, n10, ↓reduceIte, timeOf_eq h1, atF_nI (show j < 5 by omega) (show 5 < 2 ^ 31 by decide), h2.2.2.2.2.2.2.2.2.1 j (by omega)]
    exact ⟨_, _, _, rfl, rfl, Rel_mono h⟩
theorem sim_present {t : Nat} {X M : Mem} (h : Rel t X M) (_ht : t < 512) (a1 a2 : Int32) : ∃ (r : Int32) (X2 M2 : Mem), fX8_present X a1 a2 = some (r, X2) ∧ fX9_present M a1 a2 = some (r, M2) ∧ Rel (t + 1) X2 M2 := by
  obtain ⟨nm, na, nk, nf, nr, ng, nq, h1, h2, h3, h4, h5, h6, h7, h8, h9, h10, h11⟩ := Rel_mono h
  have hn := h1.1
  unfold fX8_present fX9_present
  rw [has_eq h1]
  rcases mem_cases h1 a1 with e | ⟨e, j, hj, rfl⟩
  · simp only [e, ob1_some, ob2_some', fX8_fin, fX9_fin, ↓reduceIte]
    exact ⟨_, _, _, rfl, rfl, Rel_fnd h⟩
  · have hset : fX4_setHere X (nI j) a2 = some (up2 X 4 j (vp_nar .boolean a2)) := by
      unfold fX4_setHere
      rw [if_neg (nI_pos (by omega)), if_neg (show ¬ (10 : Int32) ≤ nI j from nI_ge (b := 10) (by omega) (by decide)), gI_nI (show j < 10 by omega) (by decide), nI_clamp (by omega)]
    simp only [e, ob1_some, n10, ↓reduceIte, here_eq h1 (show j < 10 by omega), hset, gI_nI (show j < 10 by omega) (show 10 < 2 ^ 31 by decide), nI_clamp (show j < 2 ^ 31 by omega)]
    obtain ⟨q1, q2, q3, q4, q5, q6, q7, q8, q9⟩ := h1
    by_cases c : M 3 j = a2
    · simp only [c, ↓reduceIte]
      have hb : isB a2 := c ▸ q7 j (by omega)
      have hu : up2 M 3 j (vp_nar .boolean a2) = M := by
        rw [nar_B hb, ← c]
        funext a b
        unfold up2 upc upd
        by_cases ca : a = 3
        · rw [if_pos ca, ca]
          by_cases cb : b = j
          · rw [if_pos cb, cb]
          · rw [if_neg cb]
        · rw [if_neg ca]
      rw [hu]
      exact ⟨_, _, _, rfl, rfl, Rel_mono h⟩
    · simp only [c, ↓reduceIte]
      refine ⟨_, _, _, rfl, rfl, nm, na, nk, nf, nr, ng, nq, ⟨q1, q2, q3, q4, q5, fun i hi => ?_, fun i hi => ?_, q8, q9⟩, h2, h3, h4, h5, h6, h7, h8, h9, h10, h11⟩
      · show upd (X 4) j _ i = upd (M 3) j _ i
        unfold upd; rw [q6 i hi]
      · show isB (upd (M 3) j _ i)
        unfold upd
        by_cases ci : i = j
        · rw [if_pos ci]; exact nar_isB a2
        · rw [if_neg ci]; exact q7 i hi
theorem sim_of {t : Nat} {X M : Mem} (h : Rel t X M) (_ht : t < 512) (a1 a2 : Int32) : ∃ (r : Int32) (X2 M2 : Mem), fX8_of X a1 a2 = some (r, X2) ∧ fX9_of M a1 a2 = some (r, M2) ∧ Rel (t + 1) X2 M2 := by
  obtain ⟨nm, na, nk, nf, nr, ng, nq, h1, h2, -⟩ := id h
  have hn := h1.1
  unfold fX8_of fX9_of fX4_kindOf fX4_delegationOf fX7_timeOf fX7_speechesOf
  rw [has_eq h1]
  rcases mem_cases h1 a1 with e | ⟨e, j, hj, rfl⟩
  · simp only [e, ob1_some, ob2_some', fX8_fin, fX9_fin, ↓reduceIte]
    exact ⟨_, _, _, rfl, rfl, Rel_fnd h⟩
  · have hj10 : j < 10 := by omega
    obtain ⟨q1, q2, q3, q4, q5, q6, q7, q8, q9⟩ := id h1
    obtain ⟨p1, p2, p3, p4, p5, p6, p7, p8, p9, p10, p11⟩ := id h2
    rcases isIn_cases a2 0 4 with ⟨e2, g⟩ | ⟨e2, g1, g2⟩
    · have n0 : ¬ a2 = 0 := by rintro rfl; revert g; decide
      have n1 : ¬ a2 = 1 := by rintro rfl; revert g; decide
      have n2 : ¬ a2 = 2 := by rintro rfl; revert g; decide
      have n3 : ¬ a2 = 3 := by rintro rfl; revert g; decide
      have n4 : ¬ a2 = 4 := by rintro rfl; revert g; decide
      simp only [e, e2, ob1_some, ob2_some', fX8_fin, fX9_fin, n10, n0, n1, n2, n3, n4, ↓reduceIte]
      exact ⟨_, _, _, rfl, rfl, Rel_fnd h⟩
    · obtain ⟨b, hb, rfl⟩ := isIn_nat (n := 4) (by decide) g1 g2
      simp only [e, e2, ob1_some, n10, ↓reduceIte, gI_nI hj10 (show 10 < 2 ^ 31 by decide), nI_clamp (show j < 2 ^ 31 by omega), atF_nI hj10 (show 10 < 2 ^ 31 by decide), here_eq h1 hj10, q4 j hj10, q5 j hj10, p6 j hj10, p7 j hj10]
      rcases (show b = 0 ∨ b = 1 ∨ b = 2 ∨ b = 3 ∨ b = 4 by omega) with rfl | rfl | rfl | rfl | rfl
      · exact ⟨_, _, _, rfl, rfl, Rel_mono h⟩
      · exact ⟨_, _, _, rfl, rfl, Rel_mono h⟩
      · by_cases c : M 3 j = 0
        · simp only [c, ↓reduceIte]
          exact ⟨_, _, _, rfl, rfl, Rel_mono h⟩
        · simp only [c, ↓reduceIte]
          exact ⟨_, _, _, rfl, rfl, Rel_mono h⟩
      · exact ⟨_, _, _, rfl, rfl, Rel_mono h⟩
      · exact ⟨_, _, _, rfl, rfl, Rel_mono h⟩
theorem size_eq {T nr ng : Nat} {X M : Mem} (h : rMin T nr ng X M) (hT : T ≤ 60000) : fX3_size X = some (nI nr) := by
  obtain ⟨q1, q2, q3, q4, q5, q6, -⟩ := h
  unfold fX3_size
  rw [q6]
  by_cases c : (100 : Int32) < nI (ng + nr)
  · have c' : 100 < ng + nr := (nI_ltI (a := 100) (by decide) (by omega)).mp c
    rw [if_pos c]
    have : nr = 100 := by
      rcases Nat.eq_zero_or_pos ng with z | z
      · omega
      · exact q3 z
    rw [this]; rfl
  · have c' : ¬ 100 < ng + nr := fun q => c ((nI_ltI (a := 100) (by decide) (by omega)).mpr q)
    rw [if_neg c]
    have : ng = 0 := by
      rcases Nat.eq_zero_or_pos ng with z | z
      · exact z
      · have := q3 z; omega
    rw [this, Nat.zero_add]
theorem open_eq {X M : Mem} (h : rVot X M) : fX0_isOpen X = some (M 0 18) := by
  unfold fX0_isOpen
  rw [h.1, gB_ok h.2.1]
theorem sim_told {t : Nat} {X M : Mem} (h : Rel t X M) (ht : t < 512) (a1 : Int32) : ∃ (r : Int32) (X2 M2 : Mem), fX8_told X a1 = some (r, X2) ∧ fX9_told M a1 = some (r, M2) ∧ Rel (t + 1) X2 M2 := by
  obtain ⟨nm, na, nk, nf, nr, ng, nq, h1, h2, h3, h4, h5, h6, h7, h8, h9, h10, h11⟩ := id h
  unfold fX8_told fX9_told fX4_size fX7_size fX5_size fX3_latestCount
  simp only [size_eq h8 (by omega), open_eq h7, ob1_some, ob2_some', fX8_fin, fX9_fin, h1.2.1, h1.2.2.1, h2.2.1, h2.2.2.1, h5.2.1, h5.2.2.1, h8.2.2.2.1, h9.2.1, h9.2.2.1, show X 0 9 = M 0 31 from h11]
  by_cases c0 : a1 = 0
  · simp only [c0, ↓reduceIte]; exact ⟨_, _, _, rfl, rfl, Rel_mono h⟩
  by_cases c1 : a1 = 1
  · simp only [c0, c1, ↓reduceIte, n10]; exact ⟨_, _, _, rfl, rfl, Rel_mono h⟩
  by_cases c2 : a1 = 2
  · simp only [c0, c1, if_pos c2, ↓reduceIte]; exact ⟨_, _, _, rfl, rfl, Rel_mono h⟩
  by_cases c3 : a1 = 3
  · simp only [c0, c1, c2, if_pos c3, ↓reduceIte]; exact ⟨_, _, _, rfl, rfl, Rel_mono h⟩
  by_cases c4 : a1 = 4
  · simp only [c0, c1, c2, c3, if_pos c4, ↓reduceIte]; exact ⟨_, _, _, rfl, rfl, Rel_mono h⟩
  by_cases c5 : a1 = 5
  · simp only [c0, c1, c2, c3, c4, if_pos c5, ↓reduceIte]; exact ⟨_, _, _, rfl, rfl, Rel_mono h⟩
  by_cases c6 : a1 = 6
  · simp only [c0, c1, c2, c3, c4, c5, if_pos c6, ↓reduceIte]
    by_cases c : M 0 18 = 0
    · simp only [c, ↓reduceIte]; exact ⟨_, _, _, rfl, rfl, Rel_mono h⟩
    · simp only [c, ↓reduceIte]; exact ⟨_, _, _, rfl, rfl, Rel_mono h⟩
  simp only [c0, c1, c2, c3, c4, c5, c6, ↓reduceIte]
  rw [show M 0 31 = X 0 9 from h11.symm]
  refine ⟨_, _, _, rfl, rfl, ?_⟩
  have := Rel_fnd h
  rw [show M 0 31 = X 0 9 from h11.symm] at this
  exact this
theorem sim_noKeys {t : Nat} {X M : Mem} (h : Rel t X M) (_ht : t < 512) : ∃ (r : Int32) (X2 M2 : Mem), fX8_noKeys X = some (r, X2) ∧ fX9_noKeys M = some (r, M2) ∧ Rel (t + 1) X2 M2 := by
  obtain ⟨nm, na, nk, nf, nr, ng, nq, h1, h2, h3, h4, h5, h6, h7, h8, h9, h10, h11⟩ := Rel_mono h
  unfold fX8_noKeys fX9_noKeys fX5_size fX5_clear
  simp only [ob1_some, h5.2.1, h5.2.2.1]
  exact ⟨_, _, _, rfl, rfl, nm, na, 0, nf, nr, ng, nq, h1, h2, h3, h4, ⟨by omega, rfl, rfl, h5.2.2.2.1, fun j hj => absurd hj (Nat.not_lt_zero j)⟩, h6, h7, h8, h9, h10, h11⟩
theorem sim_floor {t : Nat} {X M : Mem} (h : Rel t X M) (_ht : t < 512) (a1 : Int32) : ∃ (r : Int32) (X2 M2 : Mem), fX8_floor X a1 = some (r, X2) ∧ fX9_floor M a1 = some (r, M2) ∧ Rel (t + 1) X2 M2 := by
  obtain ⟨nm, na, nk, nf, nr, ng, nq, h1, h2, h3, h4, h5, h6, h7, h8, h9, h10, h11⟩ := id h
  obtain ⟨q1, q2, q3, q4, q5, q6, q7, q8, q9, q10, q11⟩ := h6
  unfold fX8_floor fX9_floor fX1_behind fX1_holder fX1_sortHeld fX1_ticksLeft fX1_isHeld
  rw [isIn_eq, q2, q3]
  rcases isIn_cases a1 0 3 with ⟨e, -⟩ | ⟨e, g1, g2⟩
  · simp only [e, ob1_some, ob2_some', fX8_fin, fX9_fin, ↓reduceIte]
    exact ⟨_, _, _, rfl, rfl, Rel_fnd h⟩
  · obtain ⟨b, hb, rfl⟩ := isIn_nat (n := 3) (by decide) g1 g2
    rcases Nat.eq_zero_or_pos nf with rfl | hf
    · have z0 : nI 0 = 0 := rfl
      rcases (show b = 0 ∨ b = 1 ∨ b = 2 ∨ b = 3 by omega) with rfl | rfl | rfl | rfl
      · simp only [e, z0, ob1_some, ob2_some', fX8_fin, fX9_fin, n10, ↓reduceIte, show ¬ (0 : Int32) = 3 by decide, show (0 : Int32) ≤ 0 by decide]
        exact ⟨_, _, _, rfl, rfl, Rel_fnd h⟩
      · simp only [e, z0, ob1_some, ob2_some', fX8_fin, fX9_fin, n10, ↓reduceIte, show ¬ nI 1 = 3 by decide, show (0 : Int32) ≤ 0 by decide]
        exact ⟨_, _, _, rfl, rfl, Rel_fnd h⟩
      · simp only [e, z0, ob1_some, ob2_some', fX8_fin, fX9_fin, n10, ↓reduceIte, show ¬ nI 2 = 3 by decide, show (0 : Int32) ≤ 0 by decide]
        exact ⟨_, _, _, rfl, rfl, Rel_fnd h⟩
      · simp only [e, ob1_some, n10, ↓reduceIte, show nI 3 = 3 from rfl, show nI 0 = 0 from rfl, show ¬ (0 : Int32) < 0 - 1 by decide]
        exact ⟨_, _, _, rfl, rfl, Rel_mono h⟩
    · obtain ⟨k, rfl⟩ : ∃ k, nf = k + 1 := ⟨nf - 1, by omega⟩
      have c1 : ¬ nI (k + 1) ≤ 0 := nI_nle (by omega) (by omega)
      have c2 : ¬ nI (k + 1) = 0 := nI_ne0 (by omega) (by omega)
      have k5 : k < 5 := by omega
      simp only [e, ob1_some, n10, ↓reduceIte, c1, c2, nI_pred, gI_nI k5 (show 5 < 2 ^ 31 by decide), nI_clamp (show k < 2 ^ 31 by omega), atF_nI k5 (show 5 < 2 ^ 31 by decide), q4 k k5, q5 k k5, q6 k k5]
      rcases (show b = 0 ∨ b = 1 ∨ b = 2 ∨ b = 3 by omega) with rfl | rfl | rfl | rfl
      · exact ⟨_, _, _, rfl, rfl, Rel_mono h⟩
      · exact ⟨_, _, _, rfl, rfl, Rel_mono h⟩
      · exact ⟨_, _, _, rfl, rfl, Rel_mono h⟩
      · simp only [show nI 3 = 3 from rfl, ↓reduceIte]
        rcases Nat.eq_zero_or_pos k with rfl | hk
        · exact ⟨_, _, _, rfl, rfl, Rel_mono h⟩
        · rw [if_pos (show (0 : Int32) < nI k from nI_lt (a := 0) hk (by omega))]
          exact ⟨_, _, _, rfl, rfl, Rel_mono h⟩
