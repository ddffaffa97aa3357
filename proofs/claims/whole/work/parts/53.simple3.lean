theorem enter_def (X : Mem) (a1 a2 : Int32) : fX4_enter X a1 a2 = ob1 (fX4_setHere (up2 (upc (upc X 2 (setF (X 2) 10 (X 1 3) a1)) 3 (setF (X 3) 10 (X 1 3) a2)) 1 3 (X 1 3 + 1)) (X 1 3) 1) (fun m2 => some (X 1 3, m2)) := rfl
theorem memberM_def (M : Mem) (a1 a2 : Int32) : fX9_member M a1 a2 = ob1 (fX9_isIn a1 0 3) (fun r2 => if r2 = 0 then (ob2 (fX9_finding M (-100001)) (fun r7 m6 => some (r7, m6))) else (ob1 (fX9_isIn a2 0 4) (fun r9 => if r9 = 0 then (ob2 (fX9_finding M (-100001)) (fun r21 m20 => some (r21, m20))) else (if M 0 0 = 10 then (ob2 (fX9_finding M (-100005)) (fun r18 m17 => some (r18, m17))) else (gI (M 0 0) 10 (gI (M 0 0) 10 (gI (M 0 0) 10 (some ((M 0 0 + 1) - 1, up2 (up2 (up2 (up2 M 1 (M 0 0).toNatClampNeg a1) 2 (M 0 0).toNatClampNeg a2) 3 (M 0 0).toNatClampNeg (vp_nar .boolean 1)) 0 0 (M 0 0 + 1)))))))))) := rfl
theorem tsum_cong {D T D' T' : Nat → Int32} {d : Int32} : ∀ {n : Nat}, (∀ j, j < n → D j = D' j) → (∀ j, j < n → T j = T' j) → tsum D T d n = tsum D' T' d n := by
  intro n
  induction n with
  | zero => intro _ _; rfl
  | succ n ih =>
    intro h1 h2
    rw [tsum, tsum, ih (fun j hj => h1 j (by omega)) (fun j hj => h2 j (by omega)), h1 n (by omega), h2 n (by omega)]
theorem sim_member {t : Nat} {X M : Mem} (h : Rel t X M) (_ht : t < 512) (a1 a2 : Int32) : ∃ (r : Int32) (X2 M2 : Mem), fX8_member X a1 a2 = some (r, X2) ∧ fX9_member M a1 a2 = some (r, M2) ∧ Rel (t + 1) X2 M2 := by
  obtain ⟨nm, na, nk, nf, nr, ng, nq, h1, h2, h3, h4, h5, h6, h7, h8, h9, h10, h11⟩ := Rel_mono h
  rw [memberM_def]
  unfold fX8_member fX4_size
  rw [isIn_eq]
  rcases isIn_cases a1 0 3 with ⟨e, -⟩ | ⟨e, g1, g2⟩
  · simp only [e, ob1_some, ob2_some', fX8_fin, fX9_fin, ↓reduceIte]
    exact ⟨_, _, _, rfl, rfl, Rel_fnd h⟩
  rcases isIn_cases a2 0 4 with ⟨e2, -⟩ | ⟨e2, k1, k2⟩
  · simp only [e, e2, ob1_some, ob2_some', fX8_fin, fX9_fin, n10, ↓reduceIte]
    exact ⟨_, _, _, rfl, rfl, Rel_fnd h⟩
  obtain ⟨a, ha, rfl⟩ := isIn_nat (n := 3) (by decide) g1 g2
  obtain ⟨b, hb, rfl⟩ := isIn_nat (v := a2) (n := 4) (by decide) k1 k2
  obtain ⟨q1, q2, q3, q4, q5, q6, q7, q8, q9⟩ := h1
  rcases Nat.lt_or_ge nm 10 with hn | hn
  · have c1 : nI nm < 10 := nI_lt (b := 10) hn (by decide)
    have c2 : ¬ nI nm = 10 := nI_ne (b := 10) (by omega) (by decide) (by omega)
    have hset : ∀ Y : Mem, fX4_setHere Y (nI nm) 1 = some (up2 Y 4 nm 1) := by
      intro Y
      unfold fX4_setHere
      rw [if_neg (nI_pos (by omega)), if_neg (show ¬ (10 : Int32) ≤ nI nm from nI_ge (b := 10) hn (by decide)), gI_nI hn (by decide), nI_clamp (by omega)]
      rfl
    have c3 : nI (nm + 1) - 1 = nI nm := nI_pred nm
    simp only [e, e2, ob1_some, ob2_some', n10, ↓reduceIte, enter_def, q2, q3, c1, c2, setF_nI hn (show 10 < 2 ^ 31 by decide), hset, nI_1, c3, gI_nI hn (show 10 < 2 ^ 31 by decide), nI_clamp (show nm < 2 ^ 31 by omega)]
    refine ⟨_, _, _, rfl, rfl, nm + 1, na, nk, nf, nr, ng, nq, ⟨by omega, rfl, rfl, fun j hj => ?_, fun j hj => ?_, fun j hj => ?_, fun j hj => ?_, fun j hj => ?_, fun j hj => ?_⟩, ?_, h3, ?_, h5, ?_, h7, h8, h9, h10, h11⟩
    · show upd (X 2) nm _ j = upd (M 1) nm _ j
      unfold upd; rw [q4 j hj]
    · show upd (X 3) nm _ j = upd (M 2) nm _ j
      unfold upd; rw [q5 j hj]
    · show upd (X 4) nm _ j = upd (M 3) nm _ j
      unfold upd; rw [q6 j hj]; rfl
    · show isB (upd (M 3) nm _ j)
      unfold upd
      by_cases c : j = nm
      · rw [if_pos c]; exact Or.inr rfl
      · rw [if_neg c]; exact q7 j hj
    · show ∃ k, k < 4 ∧ upd (M 1) nm (nI a) j = nI k
      unfold upd
      by_cases c : j = nm
      · rw [if_pos c]; exact ⟨a, by omega, rfl⟩
      · rw [if_neg c]; exact q8 j hj
    · show ∃ k, k < 5 ∧ upd (M 2) nm (nI b) j = nI k
      unfold upd
      by_cases c : j = nm
      · rw [if_pos c]; exact ⟨b, by omega, rfl⟩
      · rw [if_neg c]; exact q9 j hj
    · obtain ⟨p1, p2, p3, p4, p5, p6, p7, p8, p9, p10, p11⟩ := h2
      refine ⟨p1, p2, p3, p4, p5, p6, p7, p8, fun d hd => ?_, fun j hj => ?_, p11⟩
      · show X 10 d = tsum (upd (M 2) nm (nI b)) (M 4) (nI d) (nm + 1)
        rw [tsum, h4.2 nm (Nat.le_refl nm) hn]
        have e0 : (if upd (M 2) nm (nI b) nm = nI d then (0 : Int32) else 0) = 0 := by
          by_cases c : upd (M 2) nm (nI b) nm = nI d
          · rw [if_pos c]
          · rw [if_neg c]
        rw [e0, Int32.add_zero, tsum_cong (D' := M 2) (T' := M 4) (fun j hj => upd_n (by omega)) (fun j hj => rfl)]
        exact p9 d hd
      · obtain ⟨c, hc, e⟩ := p10 j hj
        exact ⟨c, by omega, e⟩
    · exact ⟨h4.1, fun j h1 h2 => h4.2 j (by omega) h2⟩
    · obtain ⟨p1, p2, p3, p4, p5, p6, p7, p8, p9, p10, p11⟩ := h6
      refine ⟨p1, p2, p3, p4, p5, p6, p7, fun j hj => ?_, p9, p10, p11⟩
      obtain ⟨c, hc, e⟩ := p8 j hj
      exact ⟨c, by omega, e⟩
  · have : nm = 10 := by omega
    subst this
    simp only [e, e2, ob1_some, ob2_some', fX8_fin, fX9_fin, n10, ↓reduceIte, q2, q3, show ¬ nI 10 < 10 by decide, show nI 10 = 10 from rfl, show ¬ (10 : Int32) < 10 by decide]
    exact ⟨_, _, _, rfl, rfl, Rel_fnd h⟩
/-! keys -/
theorem hasX_loop {X : Mem} {v : Int32} {nk : Nat} (hk : X 17 2 = nI nk) (hn : nk ≤ 6) : ∀ k i n, i + k = nk → k < n → (fX5_has_2 X v n (nI i) = some 1 ∧ ∃ j, i ≤ j ∧ j < nk ∧ X 18 j = v) ∨ (fX5_has_2 X v n (nI i) = some 0 ∧ ∀ j, i ≤ j → j < nk → ¬ X 18 j = v) := by
  intro k
  induction k with
  | zero =>
    intro i n hi hkn
    obtain ⟨n', rfl⟩ : ∃ n', n = n' + 1 := ⟨n - 1, by omega⟩
    rw [fX5_has_2, hk, if_pos (nI_le (by omega) (by omega))]
    exact Or.inr ⟨rfl, fun j h1 h2 => by omega⟩
  | succ k ih =>
    intro i n hi hkn
    obtain ⟨n', rfl⟩ : ∃ n', n = n' + 1 := ⟨n - 1, by omega⟩
    rw [fX5_has_2, hk, if_neg (nI_ge (by omega) (by omega)), atF_nI (show i < 6 by omega) (by decide)]
    by_cases c : X 18 i = v
    · rw [if_pos c]
      exact Or.inl ⟨rfl, i, Nat.le_refl i, by omega, c⟩
    · rw [if_neg c, nI_1]
      rcases ih (i + 1) n' (by omega) (by omega) with ⟨e, j, h1, h2, h3⟩ | ⟨e, h⟩
      · exact Or.inl ⟨e, j, by omega, h2, h3⟩
      · refine Or.inr ⟨e, fun j h1 h2 h3 => ?_⟩
        by_cases cj : j = i
        · subst cj; exact c h3
        · exact h j (by omega) h2 h3
theorem hasM_loop {M : Mem} {v : Int32} {nk : Nat} (hk : M 0 9 = nI nk) (hn : nk ≤ 6) : ∀ k i n (acc : Int32), isB acc → i + k = nk → k < n → (fX9_hasKey_4 M v n acc (nI i) = some 1 ∧ (acc = 1 ∨ ∃ j, i ≤ j ∧ j < nk ∧ M 8 j = v)) ∨ (fX9_hasKey_4 M v n acc (nI i) = some 0 ∧ acc = 0 ∧ ∀ j, i ≤ j → j < nk → ¬ M 8 j = v) := by
  intro k
  induction k with
  | zero =>
    intro i n acc ha hi hkn
    obtain ⟨n', rfl⟩ : ∃ n', n = n' + 1 := ⟨n - 1, by omega⟩
    rw [fX9_hasKey_4, hk, if_pos (nI_le (by omega) (by omega)), gB_ok ha]
    rcases ha with rfl | rfl
    · exact Or.inr ⟨rfl, rfl, fun j h1 h2 => by omega⟩
    · exact Or.inl ⟨rfl, Or.inl rfl⟩
  | succ k ih =>
    intro i n acc ha hi hkn
    obtain ⟨n', rfl⟩ : ∃ n', n = n' + 1 := ⟨n - 1, by omega⟩
    rw [fX9_hasKey_4, hk, if_neg (nI_ge (by omega) (by omega)), gI_nI (show i < 6 by omega) (by decide), nI_clamp (by omega), nI_1]
    by_cases c : M 8 i = v
    · rw [if_pos c]
      have e1 : acc ||| 1 = 1 := by rcases ha with rfl | rfl <;> rfl
      rw [e1]
      rcases ih (i + 1) n' 1 (Or.inr rfl) (by omega) (by omega) with ⟨e, -⟩ | ⟨-, e, -⟩
      · exact Or.inl ⟨e, Or.inr ⟨i, Nat.le_refl i, by omega, c⟩⟩
      · exact absurd e (by decide)
    · rw [if_neg c]
      have e1 : acc ||| 0 = acc := by rcases ha with rfl | rfl <;> rfl
      rw [e1]
      rcases ih (i + 1) n' acc ha (by omega) (by omega) with ⟨e, q | ⟨j, h1, h2, h3⟩⟩ | ⟨e, ea, h⟩
      · exact Or.inl ⟨e, Or.inl q⟩
      · exact Or.inl ⟨e, Or.inr ⟨j, by omega, h2, h3⟩⟩
      · refine Or.inr ⟨e, ea, fun j h1 h2 h3 => ?_⟩
        by_cases cj : j = i
        · subst cj; exact c h3
        · exact h j (by omega) h2 h3
theorem has_keys {nk : Nat} {X M : Mem} (h : rKey nk X M) (v : Int32) : ∃ r, isB r ∧ fX5_has X v = some r ∧ fX9_hasKey M v = some r := by
  have hf := fu_gt
  have hn := h.1
  rcases hasX_loop (v := v) h.2.1 h.1 nk 0 fu (by omega) (by omega) with ⟨e1, j, h1, h2, h3⟩ | ⟨e1, g1⟩
  · rcases hasM_loop (v := v) h.2.2.1 h.1 nk 0 fu 0 (Or.inl rfl) (by omega) (by omega) with ⟨e2, -⟩ | ⟨e2, -, g2⟩
    · exact ⟨1, Or.inr rfl, e1, e2⟩
    · exact absurd (by rw [← h.2.2.2.1 j (by omega)]; exact h3) (g2 j h1 h2)
  · rcases hasM_loop (v := v) h.2.2.1 h.1 nk 0 fu 0 (Or.inl rfl) (by omega) (by omega) with ⟨e2, q | ⟨j, h1, h2, h3⟩⟩ | ⟨e2, -⟩
    · exact absurd q (by decide)
    · exact absurd (by rw [h.2.2.2.1 j (by omega)]; exact h3) (g1 j h1 h2)
    · exact ⟨0, Or.inl rfl, e1, e2⟩
theorem one_nat {v : Int32} {n : Nat} (hn : n < 2 ^ 31 - 1) (k1 : ¬ v < 1) (k2 : ¬ nI n < v) : ∃ j, 1 ≤ j ∧ j ≤ n ∧ v = nI j := by
  obtain ⟨j, hj, rfl⟩ := isIn_nat (v := v) (n := n) hn (fun q => k1 (by rw [Int32.lt_iff_toInt_lt] at q ⊢; exact Int.lt_trans q (by decide))) k2
  refine ⟨j, ?_, hj, rfl⟩
  rcases Nat.eq_zero_or_pos j with rfl | q
  · exact absurd (show nI 0 < 1 by decide) k1
  · exact q
theorem keyM_def (M : Mem) (a1 : Int32) : fX9_key M a1 = ob1 (fX9_isIn a1 1 9) (fun r2 => if r2 = 0 then (ob2 (fX9_finding M (-100001)) (fun r19 m18 => some (r19, m18))) else (ob1 (fX9_hasKey M a1) (fun r6 => if r6 = 0 then (if M 0 9 = 6 then (ob2 (fX9_finding M (-100005)) (fun r13 m12 => some (r13, m12))) else (gI (M 0 9) 6 (some (M 0 9 + 1, up2 (up2 M 8 (M 0 9).toNatClampNeg a1) 0 9 (M 0 9 + 1))))) else (ob2 (fX9_finding M (-100003)) (fun r16 m15 => some (r16, m15)))))) := rfl
theorem keyX_def (X : Mem) (a1 : Int32) : fX5_append X a1 = if 6 ≤ X 17 2 then some X else some (up2 (upc X 18 (setF (X 18) 6 (X 17 2) a1)) 17 2 (X 17 2 + 1)) := rfl
theorem sim_key {t : Nat} {X M : Mem} (h : Rel t X M) (_ht : t < 512) (a1 : Int32) : ∃ (r : Int32) (X2 M2 : Mem), fX8_key X a1 = some (r, X2) ∧ fX9_key M a1 = some (r, M2) ∧ Rel (t + 1) X2 M2 := by
  obtain ⟨nm, na, nk, nf, nr, ng, nq, h1, h2, h3, h4, h5, h6, h7, h8, h9, h10, h11⟩ := Rel_mono h
  rw [keyM_def]
  unfold fX8_key fX8_isKey fX5_size
  rw [isIn_eq]
  rcases isIn_cases a1 1 9 with ⟨e, -⟩ | ⟨e, g1, g2⟩
  · simp only [e, ob1_some, ob2_some', fX8_fin, fX9_fin, ↓reduceIte]
    exact ⟨_, _, _, rfl, rfl, Rel_fnd h⟩
  obtain ⟨a, ha1, ha, rfl⟩ := one_nat (n := 9) (by decide) g1 g2
  obtain ⟨r, hr, e1, e2⟩ := has_keys h5 (nI a)
  obtain ⟨q1, q2, q3, q4, q5⟩ := h5
  rcases hr with rfl | rfl
  · rcases Nat.lt_or_ge nk 6 with hn | hn
    · have c1 : nI nk < 6 := nI_lt (b := 6) hn (by decide)
      have c2 : ¬ nI nk = 6 := nI_ne (b := 6) (by omega) (by decide) (by omega)
      have c3 : ¬ 6 ≤ nI nk := nI_ge (b := 6) hn (by decide)
      simp only [e, e1, e2, ob1_some, ob2_some', n10, ↓reduceIte, keyX_def, q2, q3, c1, c2, c3, setF_nI hn (show 6 < 2 ^ 31 by decide), nI_1, gI_nI hn (show 6 < 2 ^ 31 by decide), nI_clamp (show nk < 2 ^ 31 by omega)]
      refine ⟨_, _, _, rfl, rfl, nm, na, nk + 1, nf, nr, ng, nq, h1, h2, h3, h4, ⟨by omega, rfl, rfl, fun j hj => ?_, fun j hj => ?_⟩, h6, h7, h8, h9, h10, h11⟩
      · show upd (X 18) nk _ j = upd (M 8) nk _ j
        unfold upd; rw [q4 j hj]
      · show ∃ v, 1 ≤ v ∧ v ≤ 9 ∧ upd (M 8) nk (nI a) j = nI v
        unfold upd
        by_cases c : j = nk
        · rw [if_pos c]; exact ⟨a, ha1, ha, rfl⟩
        · rw [if_neg c]; exact q5 j (by omega)
    · have : nk = 6 := by omega
      subst this
      simp only [e, e1, e2, ob1_some, ob2_some', fX8_fin, fX9_fin, n10, ↓reduceIte, q2, q3, show nI 6 = 6 from rfl, show ¬ (6 : Int32) < 6 by decide]
      exact ⟨_, _, _, rfl, rfl, Rel_fnd h⟩
  · simp only [e, e1, e2, ob1_some, ob2_some', fX8_fin, fX9_fin, n10, ↓reduceIte]
    exact ⟨_, _, _, rfl, rfl, Rel_fnd h⟩
