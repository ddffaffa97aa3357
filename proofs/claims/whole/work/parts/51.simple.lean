theorem sim_as {t : Nat} {X M : Mem} (h : Rel t X M) (_ht : t < 512) (a1 a2 : Int32) : ∃ (r : Int32) (X2 M2 : Mem), fX8_as X a1 a2 = some (r, X2) ∧ fX9_as M a1 a2 = some (r, M2) ∧ Rel (t + 1) X2 M2 := by
  obtain ⟨nm, na, nk, nf, nr, ng, nq, h1, -⟩ := id h
  have hn := h1.1
  unfold fX8_as fX9_as
  rw [has_eq h1, isIn_eq]
  rcases mem_cases h1 a1 with e | ⟨e, j, hj, rfl⟩
  · simp only [e, ob1_some, ob2_some', fX8_fin, fX9_fin, ↓reduceIte]
    exact ⟨_, _, _, rfl, rfl, Rel_fnd h⟩
  · rcases isIn_cases a2 0 3 with ⟨e2, -⟩ | ⟨e2, g1, g2⟩
    · simp only [e, e2, ob1_some, ob2_some', fX8_fin, fX9_fin, n10, ↓reduceIte]
      exact ⟨_, _, _, rfl, rfl, Rel_fnd h⟩
    · obtain ⟨b, hb, rfl⟩ := isIn_nat (n := 3) (by decide) g1 g2
      simp only [e, e2, ob1_some, ob2_some', fX8_fin, fX9_fin, n10, ↓reduceIte, ofKind_eq h1 (show j < 10 by omega) (show b < 4 by omega), gI_nI (show j < 10 by omega) (show 10 < 2 ^ 31 by decide), nI_clamp (show j < 2 ^ 31 by omega), guest_eq h1 (show j < 10 by omega)]
      by_cases c0 : nI b = 0
      · simp only [c0, true_or, ↓reduceIte, n10]
        exact ⟨_, _, _, rfl, rfl, Rel_mono h⟩
      · by_cases c1 : nI b = M 1 j
        · simp only [c0, c1, true_or, or_true, false_or, ↓reduceIte, n10]
          rw [← c1, if_neg c0]
          exact ⟨_, _, _, rfl, rfl, Rel_mono h⟩
        · by_cases c2 : nI b = 1
          · by_cases c3 : M 1 j = 3
            · simp only [c0, c1, c2, c3, or_true, and_self, ↓reduceIte, n10]
              rw [c2] at c0 c1
              simp only [c0, ↓reduceIte, show ¬ (1 : Int32) = 3 by decide]
              exact ⟨_, _, _, rfl, rfl, Rel_mono h⟩
            · rw [c2] at c0 c1 ⊢
              have c4 : ¬ M 1 j = 1 := fun q => c1 q.symm
              simp only [c0, c1, c3, c4, or_self, and_false, ↓reduceIte]
              exact ⟨_, _, _, rfl, rfl, Rel_fnd h⟩
          · simp only [c0, c1, c2, false_and, or_self, ↓reduceIte]
            exact ⟨_, _, _, rfl, rfl, Rel_fnd h⟩
theorem sim_limit {t : Nat} {X M : Mem} (h : Rel t X M) (_ht : t < 512) (a1 a2 : Int32) : ∃ (r : Int32) (X2 M2 : Mem), fX8_limit X a1 a2 = some (r, X2) ∧ fX9_limit M a1 a2 = some (r, M2) ∧ Rel (t + 1) X2 M2 := by
  obtain ⟨nm, na, nk, nf, nr, ng, nq, h1, h2, h3, h4, h5, h6, h7, h8, h9, h10, h11⟩ := Rel_mono h
  unfold fX8_limit fX9_limit fX9_isSort fX1_limitOf fX1_setLimit
  rw [isIn_eq]
  rcases isIn_cases a1 0 2 with ⟨e, -⟩ | ⟨e, g1, g2⟩
  · simp only [e, ob1_some, ob2_some', fX8_fin, fX9_fin, ↓reduceIte]
    exact ⟨_, _, _, rfl, rfl, Rel_fnd h⟩
  · rcases isIn_cases a2 1 50 with ⟨e2, -⟩ | ⟨e2, k1, k2⟩
    · simp only [e, e2, ob1_some, ob2_some', fX8_fin, fX9_fin, n10, ↓reduceIte]
      exact ⟨_, _, _, rfl, rfl, Rel_fnd h⟩
    · obtain ⟨j, hj, rfl⟩ := isIn_nat (n := 2) (by decide) g1 g2
      obtain ⟨v, hv, rfl⟩ := isIn_nat (v := a2) (n := 50) (by decide) (fun q => k1 (by rw [Int32.lt_iff_toInt_lt] at q ⊢; exact Int.lt_trans q (by decide))) k2
      have hv1 : 1 ≤ v := by
        rcases Nat.eq_zero_or_pos v with rfl | q
        · exact absurd (show nI 0 < 1 by decide) k1
        · exact q
      simp only [e, e2, ob1_some, n10, ↓reduceIte, gI_nI (show j < 3 by omega) (show 3 < 2 ^ 31 by decide), nI_clamp (show j < 2 ^ 31 by omega), atF_nI (show j < 3 by omega) (show 3 < 2 ^ 31 by decide), setF_nI (show j < 3 by omega) (show 3 < 2 ^ 31 by decide)]
      obtain ⟨q1, q2, q3, q4, q5, q6, q7, q8, q9, q10, q11⟩ := h6
      rw [q10 j (by omega)]
      refine ⟨_, _, _, rfl, rfl, nm, na, nk, nf, nr, ng, nq, h1, h2, h3, h4, h5, ⟨q1, q2, q3, q4, q5, q6, q7, q8, q9, fun s hs => ?_, fun s hs => ?_⟩, h7, h8, h9, h10, h11⟩
      · show upd (X 26) j (nI v) s = upd (M 13) j (nI v) s
        unfold upd; rw [q10 s hs]
      · show ∃ w, 1 ≤ w ∧ w ≤ 50 ∧ upd (M 13) j (nI v) s = nI w
        unfold upd
        by_cases c : s = j
        · rw [if_pos c]; exact ⟨v, hv1, hv, rfl⟩
        · rw [if_neg c]; exact q11 s hs
