theorem rowW {T nr ng i : Nat} {X M : Mem} (h : rMin T nr ng X M) (hT : T ≤ 60000) : fX3_rowWritten X (nI i) = some (nI (ng + i)) := by
  unfold fX3_rowWritten
  rw [size_eq h hT, ob1_some, h.2.2.2.2.2.1, pk_sub (by omega), nI_add, show ng + nr - nr = ng by omega]
theorem slotW {T nr ng i : Nat} {X M : Mem} (h : rMin T nr ng X M) (hT : T ≤ 60000) (hi : i < nr) : fX3_slotOf X (nI i) = some (nI ((ng + i) % 100)) := by
  have h1 := h.1
  have h2 := h.2.1
  unfold fX3_slotOf
  rw [rowW h hT, ob1_some]
  congr 1
  exact pk_rem (a := ng + i) (d := 100) (by omega) (by omega) (by omega)
theorem memW {T nr ng i : Nat} {X M : Mem} (h : rMin T nr ng X M) (hT : T ≤ 60000) (hi : i < nr) : fX3_memberAt X (nI i) = some (M 15 i) := by
  unfold fX3_memberAt
  rw [slotW h hT hi, ob1_some, atF_nI (Nat.mod_lt _ (by omega)) (by decide), h.2.2.2.2.2.2.1 i hi]
theorem sorW {T nr ng i : Nat} {X M : Mem} (h : rMin T nr ng X M) (hT : T ≤ 60000) (hi : i < nr) : fX3_sortAt X (nI i) = some (M 16 i) := by
  unfold fX3_sortAt
  rw [slotW h hT hi, ob1_some, atF_nI (Nat.mod_lt _ (by omega)) (by decide), h.2.2.2.2.2.2.2.1 i hi]
theorem firW {T nr ng i : Nat} {X M : Mem} (h : rMin T nr ng X M) (hT : T ≤ 60000) (hi : i < nr) : fX3_firstTicksAt X (nI i) = some (M 17 i) := by
  unfold fX3_firstTicksAt
  rw [slotW h hT hi, ob1_some, atF_nI (Nat.mod_lt _ (by omega)) (by decide), h.2.2.2.2.2.2.2.2 i hi]
def tks (M : Mem) (ng i : Nat) : Nat → Int32
  | 0 => M 17 i
  | k + 1 => if M 18 (k + 1) = nI (ng + i) then M 19 (k + 1) else tks M ng i k
theorem tksX {T nr ng nq i : Nat} {X M : Mem} (h : rMin T nr ng X M) (hT : T ≤ 60000) (h9 : rRig nq X M) (hi : i < nr) {z : Int32} : ∀ c n, c ≤ nq → c < n → fX3_ticksAsOf_16 X (nI i) z (nI (ng + i)) n (nI c) = some (tks M ng i c) := by
  have hq := h9.1
  intro c
  induction c with
  | zero =>
    intro n _ hn
    obtain ⟨n', rfl⟩ : ∃ n', n = n' + 1 := ⟨n - 1, by omega⟩
    rw [fX3_ticksAsOf_16, if_pos (show nI 0 ≤ 0 by decide), firW h hT hi, ob1_some, tks]
  | succ c ih =>
    intro n hc hn
    obtain ⟨n', rfl⟩ : ∃ n', n = n' + 1 := ⟨n - 1, by omega⟩
    rw [fX3_ticksAsOf_16, if_neg (nI_nle (by omega) (by omega)), nI_pred, pk_m1, atF_nI (show c < 40 by omega) (by decide), atF_nI (show c < 40 by omega) (by decide), h9.2.2.2.1 c (by omega), h9.2.2.2.2 c (by omega), tks, ih n' (by omega) (by omega)]
    by_cases q : M 18 (c + 1) = nI (ng + i)
    · rw [if_pos q, if_pos q]
    · rw [if_neg q, if_neg q]
theorem asOfX {T nr ng nq i K : Nat} {X M : Mem} (h : rMin T nr ng X M) (hT : T ≤ 60000) (h9 : rRig nq X M) (hi : i < nr) (hK : K ≤ nq) : fX3_ticksAsOf X (nI i) (nI K) = some (tks M ng i K) := by
  have hq := h9.1
  unfold fX3_ticksAsOf
  rw [rowW h hT, ob1_some, h9.2.1, if_neg (nI_nlt hK (by omega))]
  exact tksX h hT h9 hi K fu hK (by have := fu_gt; omega)
theorem tksM {T nr ng nq i K : Nat} {X M : Mem} (h : rMin T nr ng X M) (h9 : rRig nq X M) (hK : K ≤ nq) : ∀ k c n, c + k = K → k < n → fX9_ticksOf_10 M (nI i) (nI K) n (tks M ng i c) (nI (c + 1)) = some (tks M ng i K) := by
  have hq := h9.1
  intro k
  induction k with
  | zero =>
    intro c n hc hn
    obtain ⟨n', rfl⟩ : ∃ n', n = n' + 1 := ⟨n - 1, by omega⟩
    have : c = K := by omega
    subst this
    rw [fX9_ticksOf_10, if_pos (nI_lt (by omega) (by omega))]
  | succ k ih =>
    intro c n hc hn
    obtain ⟨n', rfl⟩ : ∃ n', n = n' + 1 := ⟨n - 1, by omega⟩
    have hs := ih (c + 1) n' (by omega) (by omega)
    rw [fX9_ticksOf_10, if_neg (nI_nlt (by omega) (by omega)), gI_nI (show c + 1 < 41 by omega) (by decide), gI_nI (show c + 1 < 41 by omega) (by decide), nI_clamp (by omega), nI_1, h.2.2.2.2.1, nI_add]
    rw [tks] at hs
    by_cases q : M 18 (c + 1) = nI (ng + i)
    · rw [if_pos q] at hs ⊢; exact hs
    · rw [if_neg q] at hs ⊢; exact hs
theorem asOfM {T nr ng nq i K : Nat} {X M : Mem} (h : rMin T nr ng X M) (h9 : rRig nq X M) (hi : i < nr) (hK : K ≤ nq) : fX9_ticksOf M (nI i) (nI K) = some (tks M ng i K) := by
  have h1 := h.1
  have hq := h9.1
  unfold fX9_ticksOf
  rw [gI_nI (show i < 100 by omega) (by decide), nI_clamp (by omega)]
  exact tksM h h9 hK K 0 fu (by omega) (by have := fu_gt; omega)
theorem has3_bad {T nr ng : Nat} {X M : Mem} {a : Int32} (h : rMin T nr ng X M) (hT : T ≤ 60000) (hb : a < 0 ∨ nI nr ≤ a) : fX3_has X a = some 0 := by
  unfold fX3_has
  by_cases c : a < 0
  · rw [if_pos c]
  · rw [if_neg c, size_eq h hT, ob1_some, if_pos (hb.resolve_left c)]
theorem has3_ok {T nr ng i : Nat} {X M : Mem} (h : rMin T nr ng X M) (hT : T ≤ 60000) (hi : i < nr) : fX3_has X (nI i) = some 1 := by
  have h1 := h.1
  unfold fX3_has
  rw [if_neg (nI_pos (by omega)), size_eq h hT, ob1_some, if_neg (nI_ge hi (by omega))]
theorem sim_minutes {t : Nat} {X M : Mem} (h : Rel t X M) (ht : t < 512) (a1 a2 : Int32) : ∃ (r : Int32) (X2 M2 : Mem), fX8_minutes X a1 a2 = some (r, X2) ∧ fX9_minutes M a1 a2 = some (r, M2) ∧ Rel (t + 1) X2 M2 := by
  obtain ⟨nm, na, nk, nf, nr, ng, nq, h1, h2, h3, h4, h5, h6, h7, h8, h9, h10, h11⟩ := id h
  have hr := h8.1
  have hT : 100 * t ≤ 60000 := by omega
  unfold fX8_minutes fX9_minutes fX3_latestCount
  rw [h8.2.2.2.1, h9.2.1, h9.2.2.1]
  rcases pk_ix a1 (n := nr) (by omega) with c | c | ⟨i, hi, rfl⟩
  · simp only [has3_bad h8 hT (Or.inl c), if_pos c, ob1_some, ob2_some', fX8_fin, fX9_fin, ↓reduceIte]
    exact ⟨_, _, _, rfl, rfl, Rel_fnd h⟩
  · by_cases c0 : a1 < 0
    · simp only [has3_bad h8 hT (Or.inl c0), if_pos c0, ob1_some, ob2_some', fX8_fin, fX9_fin, ↓reduceIte]
      exact ⟨_, _, _, rfl, rfl, Rel_fnd h⟩
    · simp only [has3_bad h8 hT (Or.inr c), if_neg c0, if_pos c, ob1_some, ob2_some', fX8_fin, fX9_fin, ↓reduceIte]
      exact ⟨_, _, _, rfl, rfl, Rel_fnd h⟩
  · rw [if_neg (nI_pos (show i < 2 ^ 31 by omega)), if_neg (nI_ge hi (by omega)), has3_ok h8 hT hi]
    rcases isIn_cases a2 0 3 with ⟨e2, g⟩ | ⟨e2, g1, g2⟩
    · have n0 : ¬ a2 = 0 := by rintro rfl; revert g; decide
      have n1 : ¬ a2 = 1 := by rintro rfl; revert g; decide
      have n2 : ¬ a2 = 2 := by rintro rfl; revert g; decide
      have n3 : ¬ a2 = 3 := by rintro rfl; revert g; decide
      simp only [e2, ob1_some, ob2_some', fX8_fin, fX9_fin, n10, n0, n1, n2, n3, ↓reduceIte]
      exact ⟨_, _, _, rfl, rfl, Rel_fnd h⟩
    · obtain ⟨b, hb, rfl⟩ := isIn_nat (n := 3) (by decide) g1 g2
      simp only [e2, ob1_some, n10, ↓reduceIte, memW h8 hT hi, sorW h8 hT hi, firW h8 hT hi, asOfX h8 hT h9 hi (Nat.le_refl nq), asOfM h8 h9 hi (Nat.le_refl nq), gI_nI (show i < 100 by omega) (show 100 < 2 ^ 31 by decide), nI_clamp (show i < 2 ^ 31 by omega)]
      rcases (show b = 0 ∨ b = 1 ∨ b = 2 ∨ b = 3 by omega) with rfl | rfl | rfl | rfl
      · exact ⟨_, _, _, rfl, rfl, Rel_mono h⟩
      · exact ⟨_, _, _, rfl, rfl, Rel_mono h⟩
      · exact ⟨_, _, _, rfl, rfl, Rel_mono h⟩
      · exact ⟨_, _, _, rfl, rfl, Rel_mono h⟩
theorem correct_def (X : Mem) (a1 a2 : Int32) : fX3_correct X a1 a2 = if 40 ≤ X 29 6 then some X else ob1 (fX3_rowWritten X a1) (fun r3 => some (up2 (upc (upc X 33 (setF (X 33) 40 (X 29 6) r3)) 34 (setF (X 34) 40 (X 29 6) a2)) 29 6 (X 29 6 + 1))) := rfl
theorem rightM_def (M : Mem) (a1 a2 : Int32) : fX9_right M a1 a2 = if a1 < 0 then (ob2 (fX9_finding M (-100001)) (fun r4 m3 => some (r4, m3))) else (if M 0 20 ≤ a1 then (ob2 (fX9_finding M (-100001)) (fun r8 m7 => some (r8, m7))) else (ob1 (fX9_isIn a2 0 200) (fun r10 => if r10 = 0 then (ob2 (fX9_finding M (-100001)) (fun r21 m20 => some (r21, m20))) else (if M 0 25 = 40 then (ob2 (fX9_finding M (-100005)) (fun r18 m17 => some (r18, m17))) else (gI (M 0 25 + 1) 41 (gI (M 0 25 + 1) 41 (some (M 0 25 + 1, up2 (up2 (up2 M 0 25 (M 0 25 + 1)) 18 (M 0 25 + 1).toNatClampNeg (M 0 21 + a1)) 19 (M 0 25 + 1).toNatClampNeg a2)))))))) := rfl
theorem sim_right {t : Nat} {X M : Mem} (h : Rel t X M) (ht : t < 512) (a1 a2 : Int32) : ∃ (r : Int32) (X2 M2 : Mem), fX8_right X a1 a2 = some (r, X2) ∧ fX9_right M a1 a2 = some (r, M2) ∧ Rel (t + 1) X2 M2 := by
  obtain ⟨nm, na, nk, nf, nr, ng, nq, h1, h2, h3, h4, h5, h6, h7, h8, h9, h10, h11⟩ := Rel_mono h
  have hr := h8.1
  have hT : 100 * (t + 1) ≤ 60000 := by omega
  rw [rightM_def]
  unfold fX8_right fX3_latestCount
  rw [h8.2.2.2.1, h9.2.1, h9.2.2.1, h8.2.2.2.2.1, isIn_eq]
  rcases pk_ix a1 (n := nr) (by omega) with c | c | ⟨i, hi, rfl⟩
  · simp only [has3_bad h8 hT (Or.inl c), if_pos c, ob1_some, ob2_some', fX8_fin, fX9_fin, ↓reduceIte]
    exact ⟨_, _, _, rfl, rfl, Rel_fnd h⟩
  · by_cases c0 : a1 < 0
    · simp only [has3_bad h8 hT (Or.inl c0), if_pos c0, ob1_some, ob2_some', fX8_fin, fX9_fin, ↓reduceIte]
      exact ⟨_, _, _, rfl, rfl, Rel_fnd h⟩
    · simp only [has3_bad h8 hT (Or.inr c), if_neg c0, if_pos c, ob1_some, ob2_some', fX8_fin, fX9_fin, ↓reduceIte]
      exact ⟨_, _, _, rfl, rfl, Rel_fnd h⟩
  · rw [if_neg (nI_pos (show i < 2 ^ 31 by omega)), if_neg (nI_ge hi (by omega)), has3_ok h8 hT hi]
    rcases isIn_cases a2 0 200 with ⟨e2, -⟩ | ⟨e2, -⟩
    · simp only [e2, ob1_some, ob2_some', fX8_fin, fX9_fin, n10, ↓reduceIte]
      exact ⟨_, _, _, rfl, rfl, Rel_fnd h⟩
    · have hq := h9.1
      rcases Nat.lt_or_ge nq 40 with hn | hn
      · have c1 : nI nq < 40 := nI_lt (b := 40) hn (by decide)
        have c2 : ¬ nI nq = 40 := nI_ne (b := 40) (by omega) (by decide) (by omega)
        have c3 : ¬ 40 ≤ nI nq := nI_ge (b := 40) hn (by decide)
        simp only [e2, ob1_some, n10, ↓reduceIte, correct_def, h9.2.1, c1, c2, c3, rowW h8 hT, setF_nI hn (show 40 < 2 ^ 31 by decide), nI_1, nI_add, gI_nI (show nq + 1 < 41 by omega) (show 41 < 2 ^ 31 by decide), nI_clamp (show nq + 1 < 2 ^ 31 by omega)]
        refine ⟨_, _, _, rfl, rfl, nm, na, nk, nf, nr, ng, nq + 1, h1, h2, h3, h4, h5, h6, h7, h8, ⟨by omega, rfl, rfl, fun j hj => ?_, fun j hj => ?_⟩, h10, h11⟩
        · show upd (X 33) nq (nI (ng + i)) j = upd (M 18) (nq + 1) (nI (ng + i)) (j + 1)
          by_cases cj : j = nq
          · rw [cj, upd_s, upd_s]
          · rw [upd_n cj, upd_n (by omega)]; exact h9.2.2.2.1 j (by omega)
        · show upd (X 34) nq a2 j = upd (M 19) (nq + 1) a2 (j + 1)
          by_cases cj : j = nq
          · rw [cj, upd_s, upd_s]
          · rw [upd_n cj, upd_n (by omega)]; exact h9.2.2.2.2 j (by omega)
      · have : nq = 40 := by omega
        subst this
        simp only [e2, ob1_some, ob2_some', fX8_fin, fX9_fin, n10, ↓reduceIte, show nI 40 = 40 from rfl, show ¬ (40 : Int32) < 40 by decide]
        exact ⟨_, _, _, rfl, rfl, Rel_fnd h⟩
def ssum (M : Mem) (ng K : Nat) (m : Int32) : Nat → Int32
  | 0 => 0
  | i + 1 => if M 15 i = m then ssum M ng K m i + tks M ng i K else ssum M ng K m i
theorem sumX {T nr ng nq K : Nat} {X M : Mem} {m : Int32} (h : rMin T nr ng X M) (hT : T ≤ 60000) (h9 : rRig nq X M) (hK : K ≤ nq) : ∀ k i n, i + k = nr → k < n → fX3_ticksOfMember_5 X m (nI K) n (ssum M ng K m i) (nI i) = some (ssum M ng K m nr) := by
  have hr := h.1
  intro k
  induction k with
  | zero =>
    intro i n hi hn
    obtain ⟨n', rfl⟩ : ∃ n', n = n' + 1 := ⟨n - 1, by omega⟩
    have : i = nr := by omega
    subst this
    rw [fX3_ticksOfMember_5, size_eq h hT, ob1_some, if_pos (nI_le (Nat.le_refl i) (by omega))]
  | succ k ih =>
    intro i n hi hn
    obtain ⟨n', rfl⟩ : ∃ n', n = n' + 1 := ⟨n - 1, by omega⟩
    have hs := ih (i + 1) n' (by omega) (by omega)
    rw [fX3_ticksOfMember_5, size_eq h hT, ob1_some, if_neg (nI_ge (by omega) (by omega)), memW h hT (by omega), ob1_some, asOfX h hT h9 (by omega) hK, ob1_some, nI_1]
    rw [ssum] at hs
    by_cases c : M 15 i = m
    · rw [if_pos c] at hs ⊢; exact hs
    · rw [if_neg c] at hs ⊢; exact hs
theorem sumM {T nr ng nq K : Nat} {X M : Mem} {m : Int32} (h : rMin T nr ng X M) (h9 : rRig nq X M) (hK : K ≤ nq) : ∀ k i n, i + k = nr → k < n → fX9_sum_32 M m (nI K) n (ssum M ng K m i) (nI i) = some (ssum M ng K m nr, M) := by
  have hr := h.1
  intro k
  induction k with
  | zero =>
    intro i n hi hn
    obtain ⟨n', rfl⟩ : ∃ n', n = n' + 1 := ⟨n - 1, by omega⟩
    have : i = nr := by omega
    subst this
    rw [fX9_sum_32, h.2.2.2.1, if_pos (nI_le (Nat.le_refl i) (by omega))]
  | succ k ih =>
    intro i n hi hn
    obtain ⟨n', rfl⟩ : ∃ n', n = n' + 1 := ⟨n - 1, by omega⟩
    have hs := ih (i + 1) n' (by omega) (by omega)
    rw [fX9_sum_32, h.2.2.2.1, if_neg (nI_ge (by omega) (by omega)), gI_nI (show i < 100 by omega) (by decide), nI_clamp (by omega), asOfM h h9 (by omega) hK, ob1_some, nI_1, Int32.add_zero]
    rw [ssum] at hs
    by_cases c : M 15 i = m
    · rw [if_pos c] at hs ⊢; exact hs
    · rw [if_neg c] at hs ⊢; exact hs
theorem sim_sum {t : Nat} {X M : Mem} (h : Rel t X M) (ht : t < 512) (a1 a2 : Int32) : ∃ (r : Int32) (X2 M2 : Mem), fX8_sum X a1 a2 = some (r, X2) ∧ fX9_sum M a1 a2 = some (r, M2) ∧ Rel (t + 1) X2 M2 := by
  obtain ⟨nm, na, nk, nf, nr, ng, nq, h1, h2, h3, h4, h5, h6, h7, h8, h9, h10, h11⟩ := id h
  have hT : 100 * t ≤ 60000 := by omega
  have hq := h9.1
  have hr := h8.1
  have hf := fu_gt
  unfold fX8_sum fX9_sum fX3_latestCount fX3_ticksOfMember
  rw [has_eq h1, isIn_eq, h9.2.1, h9.2.2.1]
  rcases mem_cases h1 a1 with e | ⟨e, j, hj, rfl⟩
  · simp only [e, ob1_some, ob2_some', fX8_fin, fX9_fin, ↓reduceIte]
    exact ⟨_, _, _, rfl, rfl, Rel_fnd h⟩
  rcases isIn_cases a2 0 (nI nq) with ⟨e2, -⟩ | ⟨e2, g1, g2⟩
  · simp only [e, e2, ob1_some, ob2_some', fX8_fin, fX9_fin, n10, ↓reduceIte]
    exact ⟨_, _, _, rfl, rfl, Rel_fnd h⟩
  · obtain ⟨K, hK, rfl⟩ := isIn_nat (n := nq) (by omega) g1 g2
    have eX : fX3_ticksOfMember_5 X (nI j) (nI K) fu 0 0 = _ := sumX (m := nI j) h8 hT h9 hK nr 0 fu (by omega) (by omega)
    have eM : fX9_sum_32 M (nI j) (nI K) fu 0 0 = _ := sumM (m := nI j) h8 h9 hK nr 0 fu (by omega) (by omega)
    simp only [e, e2, ob1_some, n10, ↓reduceIte, eX, eM]
    exact ⟨_, _, _, rfl, rfl, Rel_mono h⟩
