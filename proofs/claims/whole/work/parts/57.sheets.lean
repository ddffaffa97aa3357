theorem she_get {X M : Mem} (h : rShe X M) {s : Nat} (hs : s < 4) : shC (X (36 + 2 * s)) (X (37 + 2 * s)) (M 20 s) (M 21 s) (fun i => M 22 (12 * s + i)) := by
  rcases (show s = 0 ∨ s = 1 ∨ s = 2 ∨ s = 3 by omega) with rfl | rfl | rfl | rfl
  · exact h.1
  · exact h.2.1
  · exact h.2.2.1
  · exact h.2.2.2
theorem she_of {X M : Mem} (h : ∀ s, s < 4 → shC (X (36 + 2 * s)) (X (37 + 2 * s)) (M 20 s) (M 21 s) (fun i => M 22 (12 * s + i))) : rShe X M := ⟨h 0 (by omega), h 1 (by omega), h 2 (by omega), h 3 (by omega)⟩
set_option maxHeartbeats 1000000 in
theorem Rel_sheet {t : Nat} {X M X' M' : Mem} (h : Rel t X M) (hX : ∀ a, a < 36 → X' a = X a) (hM : ∀ a, a ≠ 20 → a ≠ 21 → a ≠ 22 → a ≠ 28 → M' a = M a) (hs : rShe X' M') : Rel (t + 1) X' M' := by
  obtain ⟨nm, na, nk, nf, nr, ng, nq, h1, h2, h3, h4, h5, h6, h7, h8, h9, h10, h11⟩ := Rel_mono h
  have m0 := hM 0 (by omega) (by omega) (by omega) (by omega)
  have m1 := hM 1 (by omega) (by omega) (by omega) (by omega)
  have m2 := hM 2 (by omega) (by omega) (by omega) (by omega)
  have m3 := hM 3 (by omega) (by omega) (by omega) (by omega)
  have m4 := hM 4 (by omega) (by omega) (by omega) (by omega)
  have m5 := hM 5 (by omega) (by omega) (by omega) (by omega)
  have m6 := hM 6 (by omega) (by omega) (by omega) (by omega)
  have m7 := hM 7 (by omega) (by omega) (by omega) (by omega)
  have m8 := hM 8 (by omega) (by omega) (by omega) (by omega)
  have m9 := hM 9 (by omega) (by omega) (by omega) (by omega)
  have m10 := hM 10 (by omega) (by omega) (by omega) (by omega)
  have m11 := hM 11 (by omega) (by omega) (by omega) (by omega)
  have m12 := hM 12 (by omega) (by omega) (by omega) (by omega)
  have m13 := hM 13 (by omega) (by omega) (by omega) (by omega)
  have m14 := hM 14 (by omega) (by omega) (by omega) (by omega)
  have m15 := hM 15 (by omega) (by omega) (by omega) (by omega)
  have m16 := hM 16 (by omega) (by omega) (by omega) (by omega)
  have m17 := hM 17 (by omega) (by omega) (by omega) (by omega)
  have m18 := hM 18 (by omega) (by omega) (by omega) (by omega)
  have m19 := hM 19 (by omega) (by omega) (by omega) (by omega)
  refine ⟨nm, na, nk, nf, nr, ng, nq, ?_, ?_, ?_, ?_, ?_, ?_, ?_, ?_, ?_, hs, ?_⟩
  · unfold rRos; rw [hX 1 (by omega), hX 2 (by omega), hX 3 (by omega), hX 4 (by omega), m0, m1, m2, m3]; exact h1
  · unfold rSta; rw [hX 5 (by omega), hX (5 + 1) (by omega), hX (5 + 2) (by omega), hX (5 + 3) (by omega), hX (5 + 4) (by omega), hX (5 + 5) (by omega), m0, m2, m4, m5, m6, m7]; exact h2
  · unfold rUni; rw [m6, m7]; exact h3
  · unfold rTim; rw [m4]; exact h4
  · unfold rKey; rw [hX 17 (by omega), hX 18 (by omega), m0, m8]; exact h5
  · unfold rFlo; rw [hX 21 (by omega), hX 22 (by omega), hX 23 (by omega), hX 24 (by omega), hX 25 (by omega), hX 26 (by omega), m0, m9, m10, m11, m12, m13]; exact h6
  · unfold rVot; rw [hX 27 (by omega), hX 28 (by omega), m0, m14]; exact h7
  · unfold rMin; rw [hX 29 (by omega), hX 30 (by omega), hX 31 (by omega), hX 32 (by omega), m0, m15, m16, m17]; exact h8
  · unfold rRig; rw [hX 29 (by omega), hX 33 (by omega), hX 34 (by omega), m0, m18, m19]; exact h9
  · unfold rFnd; rw [hX 0 (by omega), m0]; exact h11
theorem sh_cases (a : Int32) : (shF a = none ∧ fX9_isSheet a = some 0) ∨ ∃ s, s < 4 ∧ a = nI s ∧ shF a = some (36 + 2 * s) ∧ fX9_isSheet a = some 1 := by
  unfold fX9_isSheet
  rcases isIn_cases a 0 3 with ⟨e, g⟩ | ⟨e, g1, g2⟩
  · left
    rw [e]
    refine ⟨?_, rfl⟩
    unfold shF
    by_cases c : a < 0
    · rw [if_pos c]
    · rw [if_neg c, if_pos]
      have g3 := g.resolve_left c
      rw [Int32.lt_iff_toInt_lt] at g3
      rw [Int32.le_iff_toInt_le]
      have e3 : (3 : Int32).toInt = 3 := by decide
      have e4 : (4 : Int32).toInt = 4 := by decide
      omega
  · right
    obtain ⟨s, hs, rfl⟩ := isIn_nat (n := 3) (by decide) g1 g2
    refine ⟨s, by omega, rfl, ?_, by rw [e]; rfl⟩
    unfold shF
    rw [if_neg (nI_pos (by omega)), if_neg (show ¬ (4 : Int32) ≤ nI s from nI_ge (b := 4) (by omega) (by decide)), nI_clamp (by omega)]
theorem mul12 (s i : Nat) : (12 : Int32) * nI s + nI i = nI (12 * s + i) := by
  rw [show (12 : Int32) * nI s = nI (12 * s) from pk_mul 12 s, nI_add]
theorem layX {k : Nat} {z1 z2 : Int32} : ∀ j i n (Y : Mem), i + j = 12 → j < n → (∀ c, c < i → Y (k + 1) c = 0) → ∃ Z : Mem, fX6_lay_20 k z1 z2 n Y (nI i) = some Z ∧ (∀ a, a ≠ k + 1 → Z a = Y a) ∧ ∀ c, c < 12 → Z (k + 1) c = 0 := by
  intro j
  induction j with
  | zero =>
    intro i n Y hi hn h0
    obtain ⟨n', rfl⟩ : ∃ n', n = n' + 1 := ⟨n - 1, by omega⟩
    rw [fX6_lay_20, if_pos (show (12 : Int32) ≤ nI i from nI_le (a := 12) (by omega) (by omega))]
    exact ⟨Y, rfl, fun _ _ => rfl, fun c hc => h0 c (by omega)⟩
  | succ j ih =>
    intro i n Y hi hn h0
    obtain ⟨n', rfl⟩ : ∃ n', n = n' + 1 := ⟨n - 1, by omega⟩
    rw [fX6_lay_20, if_neg (show ¬ (12 : Int32) ≤ nI i from nI_ge (b := 12) (by omega) (by decide)), gI_nI (show i < 12 by omega) (by decide), nI_clamp (by omega), nI_1]
    obtain ⟨Z, e, o, z⟩ := ih (i + 1) n' (up2 Y (k + 1) i 0) (by omega) (by omega) (fun c hc => by
      rw [up2_s]
      by_cases q : c = i
      · rw [q, upd_s]
      · rw [upd_n q]; exact h0 c (by omega))
    exact ⟨Z, e, fun a ha => by rw [o a ha, up2_n ha], z⟩
theorem layM {s : Nat} {z2 z3 : Int32} (hs : s < 4) : ∀ j i n (Y : Mem), i + j = 12 → j < n → (∀ c, c < i → Y 22 (12 * s + c) = 0) → ∃ Z : Mem, fX9_sheet_85 (nI s) z2 z3 n Y (nI i) = some (Y 21 s, Z) ∧ (∀ a, a ≠ 22 → Z a = Y a) ∧ (∀ c, c < 12 → Z 22 (12 * s + c) = 0) ∧ ∀ q, (q < 12 * s ∨ 12 * s + 12 ≤ q) → Z 22 q = Y 22 q := by
  intro j
  induction j with
  | zero =>
    intro i n Y hi hn h0
    obtain ⟨n', rfl⟩ : ∃ n', n = n' + 1 := ⟨n - 1, by omega⟩
    rw [fX9_sheet_85, if_pos (show (12 : Int32) ≤ nI i from nI_le (a := 12) (by omega) (by omega)), gI_nI hs (by decide), nI_clamp (by omega)]
    exact ⟨Y, rfl, fun _ _ => rfl, fun c hc => h0 c (by omega), fun _ _ => rfl⟩
  | succ j ih =>
    intro i n Y hi hn h0
    obtain ⟨n', rfl⟩ : ∃ n', n = n' + 1 := ⟨n - 1, by omega⟩
    rw [fX9_sheet_85, if_neg (show ¬ (12 : Int32) ≤ nI i from nI_ge (b := 12) (by omega) (by decide)), mul12, gI_nI (show 12 * s + i < 48 by omega) (by decide), nI_clamp (by omega), nI_1]
    obtain ⟨Z, e, o, z, u⟩ := ih (i + 1) n' (up2 Y 22 (12 * s + i) 0) (by omega) (by omega) (fun c hc => by
      rw [up2_s]
      by_cases q : c = i
      · rw [q, upd_s]
      · rw [upd_n (by omega)]; exact h0 c (by omega))
    refine ⟨Z, e, fun a ha => by rw [o a ha, up2_n ha], z, fun q hq => ?_⟩
    rw [u q hq, up2_s, upd_n (by omega)]
theorem shR_0 (b : Int32) : shR b 0 0 := ⟨fun _ => ⟨0, by omega, rfl, by decide⟩, fun _ => ⟨0, by omega, rfl, by decide⟩, fun _ => rfl⟩
theorem sheet_good {t s n : Nat} {X M : Mem} (h : Rel t X M) (hs : s < 4) (hn : n ≤ 12) {b z : Int32} (hb : b = 0 ∨ b = 8 ∨ b = 16 ∨ b = 32) (hz : z = nI n) (z1 z2 z3 z4 : Int32) : ∃ X2 M2 : Mem, fX6_lay_20 (36 + 2 * s) z1 z2 fu (up2 (up2 X (36 + 2 * s) 1 b) (36 + 2 * s) 2 z) 0 = some X2 ∧ X2 (36 + 2 * s) 2 = z ∧ fX9_sheet_85 (nI s) z3 z4 fu (up2 (up2 M 20 s b) 21 s z) 0 = some (z, M2) ∧ Rel (t + 1) X2 M2 := by
  have hf := fu_gt
  obtain ⟨X2, e1, o1, u1⟩ := layX (k := 36 + 2 * s) (z1 := z1) (z2 := z2) 12 0 fu (up2 (up2 X (36 + 2 * s) 1 b) (36 + 2 * s) 2 z) (by omega) (by omega) (fun c hc => by omega)
  obtain ⟨M2, e2, o2, u2, v2⟩ := layM (z2 := z3) (z3 := z4) hs 12 0 fu (up2 (up2 M 20 s b) 21 s z) (by omega) (by omega) (fun c hc => by omega)
  have ez : (up2 (up2 M 20 s b) 21 s z) 21 s = z := by rw [up2_s, upd_s]
  have e36 : 36 + 2 * s + 1 = 37 + 2 * s := by omega
  refine ⟨X2, M2, e1, ?_, ?_, Rel_sheet h (fun a ha => ?_) (fun a h1 h2 h3 h4 => ?_) (she_of fun s' hs' => ?_)⟩
  · rw [o1 _ (by omega), up2_s, upd_s]
  · rw [ez] at e2; exact e2
  · rw [o1 a (by omega), up2_n (by omega), up2_n (by omega)]
  · rw [o2 a h3, up2_n h2, up2_n h1]
  · by_cases c : s' = s
    · subst c
      refine ⟨?_, ?_, ?_, ⟨n, hn, ?_⟩, fun i hi => ?_⟩
      · rw [o1 _ (by omega), up2_s, upd_n (by omega), up2_s, upd_s, o2 20 (by omega), up2_n (by omega), up2_s, upd_s]
      · rw [o1 _ (by omega), up2_s, upd_s, o2 21 (by omega), up2_s, upd_s]
      · rw [o2 20 (by omega), up2_n (by omega), up2_s, upd_s]; exact hb
      · rw [o2 21 (by omega), up2_s, upd_s]; exact hz
      · show shR _ (X2 (37 + 2 * s') i) (M2 22 (12 * s' + i))
        rw [← e36, u1 i hi, u2 i hi]
        exact shR_0 _
    · obtain ⟨p1, p2, p3, p4, p5⟩ := she_get h.choose_spec.choose_spec.choose_spec.choose_spec.choose_spec.choose_spec.choose_spec.2.2.2.2.2.2.2.2.2.1 hs'
      have f20 : M2 20 s' = M 20 s' := by rw [o2 20 (by omega), up2_n (by omega), up2_s, upd_n c]
      have f21 : M2 21 s' = M 21 s' := by rw [o2 21 (by omega), up2_s, upd_n c, up2_n (by omega)]
      have g1 : X2 (36 + 2 * s') = X (36 + 2 * s') := by rw [o1 _ (by omega), up2_n (by omega), up2_n (by omega)]
      have g2 : X2 (37 + 2 * s') = X (37 + 2 * s') := by rw [o1 _ (by omega), up2_n (by omega), up2_n (by omega)]
      rw [f20, f21, g1, g2]
      refine ⟨p1, p2, p3, p4, fun i hi => ?_⟩
      show shR _ _ (M2 22 (12 * s' + i))
      rw [v2 _ (by omega), up2_n (by omega), up2_n (by omega)]
      exact p5 i hi
theorem sim_sheet {t : Nat} {X M : Mem} (h : Rel t X M) (_ht : t < 512) (a1 a2 a3 : Int32) : ∃ (r : Int32) (X2 M2 : Mem), fX8_sheet X a1 a2 a3 = some (r, X2) ∧ fX9_sheet M a1 a2 a3 = some (r, M2) ∧ Rel (t + 1) X2 M2 := by
  unfold fX8_sheet fX9_sheet fX6_size
  rcases sh_cases a1 with ⟨e1, e2⟩ | ⟨s, hs, rfl, e1, e2⟩
  · simp only [e1, e2, oc_none, ob1_some, ob2_some', fX8_fin, fX9_fin, ↓reduceIte]
    exact ⟨_, _, _, rfl, rfl, Rel_fnd h⟩
  simp only [e1, e2, oc_some, ob1_some, ob2_some', fX8_fin, fX9_fin, n10, ↓reduceIte, gI_nI hs (show 4 < 2 ^ 31 by decide), nI_clamp (show s < 2 ^ 31 by omega)]
  unfold fX8_isWidth fX6_lay
  by_cases w0 : a2 = 0
  · subst w0
    simp only [ob1_some, n10, ↓reduceIte]
    by_cases c0 : 0 ≤ a3
    · by_cases c1 : a3 ≤ 12
      · simp only [c0, c1, ↓reduceIte]
        obtain ⟨X2, M2, q1, q2, q3, q4⟩ := sheet_good h hs (n := 0) (by omega) (b := 0) (z := 0) (Or.inl rfl) rfl 0 a3 0 a3
        simp only [q1, q3, ob1_some, q2]
        exact ⟨_, _, _, rfl, rfl, q4⟩
      · simp only [c0, c1, ↓reduceIte]; exact ⟨_, _, _, rfl, rfl, Rel_fnd h⟩
    · simp only [c0, ↓reduceIte]; exact ⟨_, _, _, rfl, rfl, Rel_fnd h⟩
  · have good : (a2 = 8 ∨ a2 = 16 ∨ a2 = 32) → 0 ≤ a3 → a3 ≤ 12 → ∃ (X2 M2 : Mem), fX6_lay_20 (36 + 2 * s) a2 a3 fu (up2 (up2 X (36 + 2 * s) 1 a2) (36 + 2 * s) 2 a3) 0 = some X2 ∧ X2 (36 + 2 * s) 2 = a3 ∧ fX9_sheet_85 (nI s) a2 a3 fu (up2 (up2 M 20 s a2) 21 s a3) 0 = some (a3, M2) ∧ Rel (t + 1) X2 M2 := by
      intro hb c0 c1
      obtain ⟨n, hn, e⟩ := isIn_nat (v := a3) (n := 12) (by decide) (fun q => by rw [Int32.lt_iff_toInt_lt] at q; rw [Int32.le_iff_toInt_le] at c0; omega) (fun q => by
        have q' : (12 : Int32) < a3 := q
        rw [Int32.lt_iff_toInt_lt] at q'; rw [Int32.le_iff_toInt_le] at c1; omega)
      exact sheet_good h hs hn (Or.inr hb) e a2 a3 a2 a3
    by_cases w8 : a2 = 8
    · simp only [w0, if_pos w8, ob1_some, n10, ↓reduceIte]
      by_cases c0 : 0 ≤ a3
      · by_cases c1 : a3 ≤ 12
        · simp only [c0, c1, ↓reduceIte]
          obtain ⟨X2, M2, q1, q2, q3, q4⟩ := good (Or.inl w8) c0 c1
          simp only [q1, q3, ob1_some, q2]
          exact ⟨_, _, _, rfl, rfl, q4⟩
        · simp only [c0, c1, ↓reduceIte]; exact ⟨_, _, _, rfl, rfl, Rel_fnd h⟩
      · simp only [c0, ↓reduceIte]; exact ⟨_, _, _, rfl, rfl, Rel_fnd h⟩
    by_cases w16 : a2 = 16
    · simp only [w0, w8, if_pos w16, ob1_some, n10, ↓reduceIte]
      by_cases c0 : 0 ≤ a3
      · by_cases c1 : a3 ≤ 12
        · simp only [c0, c1, ↓reduceIte]
          obtain ⟨X2, M2, q1, q2, q3, q4⟩ := good (Or.inr (Or.inl w16)) c0 c1
          simp only [q1, q3, ob1_some, q2]
          exact ⟨_, _, _, rfl, rfl, q4⟩
        · simp only [c0, c1, ↓reduceIte]; exact ⟨_, _, _, rfl, rfl, Rel_fnd h⟩
      · simp only [c0, ↓reduceIte]; exact ⟨_, _, _, rfl, rfl, Rel_fnd h⟩
    by_cases w32 : a2 = 32
    · simp only [w0, w8, w16, if_pos w32, ob1_some, n10, ↓reduceIte]
      by_cases c0 : 0 ≤ a3
      · by_cases c1 : a3 ≤ 12
        · simp only [c0, c1, ↓reduceIte]
          obtain ⟨X2, M2, q1, q2, q3, q4⟩ := good (Or.inr (Or.inr w32)) c0 c1
          simp only [q1, q3, ob1_some, q2]
          exact ⟨_, _, _, rfl, rfl, q4⟩
        · simp only [c0, c1, ↓reduceIte]; exact ⟨_, _, _, rfl, rfl, Rel_fnd h⟩
      · simp only [c0, ↓reduceIte]; exact ⟨_, _, _, rfl, rfl, Rel_fnd h⟩
    · simp only [w0, w8, w16, w32, ob1_some, ↓reduceIte]
      exact ⟨_, _, _, rfl, rfl, Rel_fnd h⟩
