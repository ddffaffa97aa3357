theorem span_cases {t s : Nat} {X M : Mem} (h : Rel t X M) (hs : s < 4) (f n : Int32) : (fX6_spans (36 + 2 * s) X f n = some 0 ∧ fX9_hasPart M (nI s) f n = some 0) ∨ (fX6_spans (36 + 2 * s) X f n = some 1 ∧ fX9_hasPart M (nI s) f n = some 1 ∧ ∃ F N, f = nI F ∧ n = nI N ∧ F + N ≤ 12) := by
  obtain ⟨p1, p2, p3, ⟨z, hz, p4⟩, p5⟩ := she_get (Rel_she h) hs
  unfold fX6_spans fX9_hasPart
  rw [gI_nI hs (by decide), gI_nI hs (by decide), nI_clamp (by omega), p2, p4]
  by_cases c1 : f < 0
  · exact Or.inl ⟨if_pos c1, if_pos c1⟩
  rw [if_neg c1, if_neg c1]
  by_cases c2 : n < 0
  · exact Or.inl ⟨if_pos c2, if_pos c2⟩
  rw [if_neg c2, if_neg c2]
  obtain ⟨F, hF, rfl⟩ := nI_of c1
  obtain ⟨N, hN, rfl⟩ := nI_of c2
  have e := sub_toInt (z := z) (N := N) (by omega) hN
  by_cases c3 : nI z < nI N
  · have h3 := (nI_ltI (by omega) hN).mp c3
    rw [if_pos c3, if_pos]
    · exact Or.inl ⟨rfl, rfl⟩
    · rw [Int32.lt_iff_toInt_lt, e, nI_toInt hF]; omega
  · have h3 : ¬ z < N := fun q => c3 ((nI_ltI (by omega) hN).mpr q)
    rw [if_neg c3]
    by_cases c4 : nI z - nI N < nI F
    · rw [if_pos c4]; exact Or.inl ⟨rfl, rfl⟩
    · rw [if_neg c4]
      refine Or.inr ⟨rfl, rfl, F, N, rfl, rfl, ?_⟩
      rw [Int32.lt_iff_toInt_lt, e, nI_toInt hF] at c4
      omega
theorem takeF {X : Mem} {k k2 to fr n : Nat} (h1 : to ≤ fr) (h2 : fr + n ≤ 12) (h3 : to + n ≤ 12) : ∀ j i fuel (Y : Mem), i + j = n → j < fuel → (∀ a, a ≠ k + 1 → Y a = X a) → (∀ c, c < 12 → Y (k + 1) c = if to ≤ c ∧ c < to + i then X (k2 + 1) (fr + (c - to)) else X (k + 1) c) → ∃ Z : Mem, fX6_take_47 k k2 (nI to) (nI fr) (nI n) fuel Y (nI i) = some Z ∧ (∀ a, a ≠ k + 1 → Z a = X a) ∧ ∀ c, c < 12 → Z (k + 1) c = if to ≤ c ∧ c < to + n then X (k2 + 1) (fr + (c - to)) else X (k + 1) c := by
  intro j
  induction j with
  | zero =>
    intro i fuel Y hi hf hY hc
    obtain ⟨n', rfl⟩ : ∃ n', fuel = n' + 1 := ⟨fuel - 1, by omega⟩
    have : i = n := by omega
    subst this
    rw [fX6_take_47, if_pos (nI_le (Nat.le_refl i) (by omega))]
    exact ⟨Y, rfl, hY, hc⟩
  | succ j ih =>
    intro i fuel Y hi hf hY hc
    obtain ⟨n', rfl⟩ : ∃ n', fuel = n' + 1 := ⟨fuel - 1, by omega⟩
    have hv : Y (k2 + 1) (fr + i) = X (k2 + 1) (fr + i) := by
      by_cases q : k2 + 1 = k + 1
      · rw [q, hc (fr + i) (by omega), if_neg (by omega)]
      · rw [hY _ q]
    rw [fX6_take_47, if_neg (nI_ge (by omega) (by omega)), fX6_numberAt, ob1_some, nI_add, nI_add, atF_nI (show fr + i < 12 by omega) (by decide), setF_nI (show to + i < 12 by omega) (by decide), nI_1, hv]
    refine ih (i + 1) n' _ (by omega) (by omega) (fun a ha => by rw [upc_n ha]; exact hY a ha) (fun c hc' => ?_)
    rw [upc_s]
    by_cases q : c = to + i
    · rw [q, upd_s, if_pos (by omega), show fr + (to + i - to) = fr + i by omega]
    · rw [upd_n q, hc c hc']
      by_cases w : to ≤ c ∧ c < to + i
      · rw [if_pos w, if_pos (by omega)]
      · rw [if_neg w, if_neg (by omega)]
theorem takeB {X : Mem} {k k2 to fr n : Nat} (h1 : fr < to) (h2 : fr + n ≤ 12) (h3 : to + n ≤ 12) : ∀ i fuel (Y : Mem), i ≤ n → i < fuel → (∀ a, a ≠ k + 1 → Y a = X a) → (∀ c, c < 12 → Y (k + 1) c = if to + i ≤ c ∧ c < to + n then X (k2 + 1) (fr + (c - to)) else X (k + 1) c) → ∃ Z : Mem, fX6_take_11 k k2 (nI to) (nI fr) (nI n) fuel Y (nI i - 1) = some Z ∧ (∀ a, a ≠ k + 1 → Z a = X a) ∧ ∀ c, c < 12 → Z (k + 1) c = if to ≤ c ∧ c < to + n then X (k2 + 1) (fr + (c - to)) else X (k + 1) c := by
  intro i
  induction i with
  | zero =>
    intro fuel Y hi hf hY hc
    obtain ⟨n', rfl⟩ : ∃ n', fuel = n' + 1 := ⟨fuel - 1, by omega⟩
    rw [fX6_take_11, if_pos (show nI 0 - 1 < 0 by decide)]
    exact ⟨Y, rfl, hY, hc⟩
  | succ i ih =>
    intro fuel Y hi hf hY hc
    obtain ⟨n', rfl⟩ : ∃ n', fuel = n' + 1 := ⟨fuel - 1, by omega⟩
    have hv : Y (k2 + 1) (fr + i) = X (k2 + 1) (fr + i) := by
      by_cases q : k2 + 1 = k + 1
      · rw [q, hc (fr + i) (by omega), if_neg (by omega)]
      · rw [hY _ q]
    rw [nI_pred, fX6_take_11, if_neg (nI_pos (by omega)), fX6_numberAt, ob1_some, nI_add, nI_add, atF_nI (show fr + i < 12 by omega) (by decide), setF_nI (show to + i < 12 by omega) (by decide), hv, show nI i + (-1) = nI i - 1 from (Int32.sub_eq_add_neg _ _).symm]
    refine ih n' _ (by omega) (by omega) (fun a ha => by rw [upc_n ha]; exact hY a ha) (fun c hc' => ?_)
    rw [upc_s]
    by_cases q : c = to + i
    · rw [q, upd_s, if_pos (by omega), show fr + (to + i - to) = fr + i by omega]
    · rw [upd_n q, hc c hc']
      by_cases w : to + (i + 1) ≤ c ∧ c < to + n
      · rw [if_pos w, if_pos (by omega)]
      · rw [if_neg w, if_neg (by omega)]
theorem takeX {X : Mem} {k k2 to fr n : Nat} (h2 : fr + n ≤ 12) (h3 : to + n ≤ 12) : ∃ Z : Mem, fX6_take k k2 X (nI to) (nI fr) (nI n) = some Z ∧ (∀ a, a ≠ k + 1 → Z a = X a) ∧ ∀ c, c < 12 → Z (k + 1) c = if to ≤ c ∧ c < to + n then X (k2 + 1) (fr + (c - to)) else X (k + 1) c := by
  have hf := fu_gt
  unfold fX6_take
  rcases Nat.lt_or_ge fr to with c | c
  · rw [if_neg (nI_ge c (by omega))]
    exact takeB c h2 h3 n fu X (Nat.le_refl n) (by omega) (fun _ _ => rfl) (fun c hc => by rw [if_neg (by omega)])
  · rw [if_pos (nI_le c (by omega))]
    exact takeF c h2 h3 n 0 fu X (by omega) (by omega) (fun _ _ => rfl) (fun c hc => by rw [if_neg (by omega)])
theorem copyW {M : Mem} {s u fr to n : Nat} (hu : u < 4) (h3 : to + n ≤ 12) {z1 z2 : Int32} (g : Nat → Int32) : ∀ j i fuel (Y : Mem), i + j = n → j < fuel → (∀ a, a ≠ 22 → a ≠ 28 → Y a = M a) → (∀ c, c < n → Y 28 c = g c) → (∀ q, Y 22 q = if 12 * u + to ≤ q ∧ q < 12 * u + to + i then g (q - (12 * u + to)) else M 22 q) → ∃ Z : Mem, fX9_copy_138 z1 z2 (nI u) (nI to) (nI n) fuel Y (nI i) = some (nI n, Z) ∧ (∀ a, a ≠ 22 → a ≠ 28 → Z a = M a) ∧ ∀ q, Z 22 q = if 12 * u + to ≤ q ∧ q < 12 * u + to + n then g (q - (12 * u + to)) else M 22 q := by
  intro j
  induction j with
  | zero =>
    intro i fuel Y hi hf hY h28 h22
    obtain ⟨n', rfl⟩ : ∃ n', fuel = n' + 1 := ⟨fuel - 1, by omega⟩
    have : i = n := by omega
    subst this
    rw [fX9_copy_138, if_pos (nI_le (Nat.le_refl i) (by omega))]
    exact ⟨Y, rfl, hY, h22⟩
  | succ j ih =>
    intro i fuel Y hi hf hY h28 h22
    obtain ⟨n', rfl⟩ : ∃ n', fuel = n' + 1 := ⟨fuel - 1, by omega⟩
    rw [fX9_copy_138, if_neg (nI_ge (by omega) (by omega)), gI_nI (show i < 12 by omega) (by decide), mul12, nI_add, gI_nI (show 12 * u + to + i < 48 by omega) (by decide), nI_clamp (by omega), nI_clamp (by omega), nI_1, h28 i (by omega)]
    refine ih (i + 1) n' _ (by omega) (by omega) (fun a h1 h2 => by rw [up2_n h1]; exact hY a h1 h2) (fun c hc => by rw [up2_n (by omega)]; exact h28 c hc) (fun q => ?_)
    rw [up2_s]
    by_cases w : q = 12 * u + to + i
    · rw [w, upd_s, if_pos (by omega), show 12 * u + to + i - (12 * u + to) = i by omega]
    · rw [upd_n w, h22 q]
      by_cases v : 12 * u + to ≤ q ∧ q < 12 * u + to + i
      · rw [if_pos v, if_pos (by omega)]
      · rw [if_neg v, if_neg (by omega)]
theorem copyR {M : Mem} {s u fr to n : Nat} (hs : s < 4) (hu : u < 4) (h2 : fr + n ≤ 12) (h3 : to + n ≤ 12) : ∀ j i fuel (Y : Mem), i + j = n → j < fuel → (∀ a, a ≠ 28 → Y a = M a) → (∀ c, c < i → Y 28 c = M 22 (12 * s + (fr + c))) → ∃ Z : Mem, fX9_copy_101 (nI s) (nI fr) (nI u) (nI to) (nI n) fuel Y (nI i) = some (nI n, Z) ∧ (∀ a, a ≠ 22 → a ≠ 28 → Z a = M a) ∧ ∀ q, Z 22 q = if 12 * u + to ≤ q ∧ q < 12 * u + to + n then M 22 (12 * s + (fr + (q - (12 * u + to)))) else M 22 q := by
  have hf := fu_gt
  intro j
  induction j with
  | zero =>
    intro i fuel Y hi hfu hY h28
    obtain ⟨n', rfl⟩ : ∃ n', fuel = n' + 1 := ⟨fuel - 1, by omega⟩
    have : i = n := by omega
    subst this
    rw [fX9_copy_101, if_pos (nI_le (Nat.le_refl i) (by omega))]
    exact copyW (M := M) (s := s) (fr := fr) hu h3 (fun c => M 22 (12 * s + (fr + c))) i 0 fu Y (by omega) (by omega) (fun a _ h2 => hY a h2) (fun c hc => h28 c (by omega)) (fun q => by rw [hY 22 (by omega), if_neg (by omega)])
  | succ j ih =>
    intro i fuel Y hi hfu hY h28
    obtain ⟨n', rfl⟩ : ∃ n', fuel = n' + 1 := ⟨fuel - 1, by omega⟩
    rw [fX9_copy_101, if_neg (nI_ge (by omega) (by omega)), mul12, nI_add, gI_nI (show 12 * s + fr + i < 48 by omega) (by decide), gI_nI (show i < 12 by omega) (by decide), nI_clamp (by omega), nI_clamp (by omega), nI_1, hY 22 (by omega)]
    refine ih (i + 1) n' _ (by omega) (by omega) (fun a ha => by rw [up2_n ha]; exact hY a ha) (fun c hc => ?_)
    rw [up2_s]
    by_cases w : c = i
    · rw [w, upd_s, show 12 * s + fr + i = 12 * s + (fr + i) by omega]
    · rw [upd_n w]; exact h28 c (by omega)
theorem sim_copy {t : Nat} {X M : Mem} (h : Rel t X M) (_ht : t < 512) (a1 a2 a3 a4 a5 : Int32) : ∃ (r : Int32) (X2 M2 : Mem), fX8_copy X a1 a2 a3 a4 a5 = some (r, X2) ∧ fX9_copy M a1 a2 a3 a4 a5 = some (r, M2) ∧ Rel (t + 1) X2 M2 := by
  have hf := fu_gt
  unfold fX8_copy fX9_copy fX6_isMissing fX6_width
  rcases sh_cases a1 with ⟨e1, e2⟩ | ⟨s, hs, rfl, e1, e2⟩
  · rcases sh_cases a3 with ⟨f1, f2⟩ | ⟨u, hu, rfl, f1, f2⟩
    · simp only [e1, e2, f1, oc_none, ob1_some, ob2_some', fX8_fin, fX9_fin, ↓reduceIte]
      exact ⟨_, _, _, rfl, rfl, Rel_fnd h⟩
    · simp only [e1, e2, f1, oc_none, oc_some, ob1_some, ob2_some', fX8_fin, fX9_fin, ↓reduceIte]
      exact ⟨_, _, _, rfl, rfl, Rel_fnd h⟩
  rcases sh_cases a3 with ⟨f1, f2⟩ | ⟨u, hu, rfl, f1, f2⟩
  · simp only [e1, e2, f1, f2, oc_none, oc_some, ob1_some, ob2_some', fX8_fin, fX9_fin, n10, ↓reduceIte]
    exact ⟨_, _, _, rfl, rfl, Rel_fnd h⟩
  obtain ⟨p1, p2, p3, p4, p5⟩ := she_get (Rel_she h) hs
  obtain ⟨q1, q2, q3, q4, q5⟩ := she_get (Rel_she h) hu
  simp only [e1, e2, f1, f2, oc_some, ob1_some, ob2_some', fX8_fin, fX9_fin, n10, ↓reduceIte, gI_nI hs (show 4 < 2 ^ 31 by decide), gI_nI hu (show 4 < 2 ^ 31 by decide), nI_clamp (show s < 2 ^ 31 by omega), nI_clamp (show u < 2 ^ 31 by omega), p1, q1]
  by_cases c0 : M 20 s = 0
  · simp only [c0, ↓reduceIte, ob1_some, n10]
    exact ⟨_, _, _, rfl, rfl, Rel_fnd h⟩
  by_cases d0 : M 20 u = 0
  · simp only [c0, d0, ↓reduceIte, ob1_some, n10]
    exact ⟨_, _, _, rfl, rfl, Rel_fnd h⟩
  by_cases cb : M 20 s = M 20 u
  · simp only [c0, d0, if_pos cb, ↓reduceIte, ob1_some, n10]
    rcases span_cases h hs a2 a5 with ⟨g1, g2⟩ | ⟨g1, g2, F, N, rfl, rfl, hFN⟩
    · simp only [g1, g2, ob1_some, ↓reduceIte]
      exact ⟨_, _, _, rfl, rfl, Rel_fnd h⟩
    rcases span_cases h hu a4 (nI N) with ⟨k1, k2⟩ | ⟨k1, k2, D, N', rfl, eN', hDN⟩
    · simp only [g1, g2, k1, k2, ob1_some, n10, ↓reduceIte]
      exact ⟨_, _, _, rfl, rfl, Rel_fnd h⟩
    · have := nI_inj (by omega) (by omega) eN'
      subst this
      obtain ⟨Z, x1, x2, x3⟩ := takeX (X := X) (k := 36 + 2 * u) (k2 := 36 + 2 * s) (to := D) (fr := F) (n := N) hFN hDN
      obtain ⟨V, y1, y2, y3⟩ := copyR (M := M) hs hu hFN hDN N 0 fu M (by omega) (by omega) (fun _ _ => rfl) (fun c hc => by omega)
      have y1' : fX9_copy_101 (nI s) (nI F) (nI u) (nI D) (nI N) fu M 0 = some (nI N, V) := y1
      simp only [g1, g2, k1, k2, ob1_some, n10, ↓reduceIte, x1, y1']
      refine ⟨_, _, _, rfl, rfl, Rel_sheet h (fun a ha => x2 a (by omega)) (fun a h1 h2 h3 h4 => y2 a h3 h4) (she_of fun v hv => ?_)⟩
      obtain ⟨r1, r2, r3, r4, r5⟩ := she_get (Rel_she h) hv
      rw [x2 _ (show 36 + 2 * v ≠ 36 + 2 * u + 1 by omega), y2 20 (by omega) (by omega), y2 21 (by omega) (by omega)]
      refine ⟨r1, r2, r3, r4, fun i hi => ?_⟩
      show shR _ (Z (37 + 2 * v) i) (V 22 (12 * v + i))
      rw [y3]
      by_cases cv : v = u
      · subst cv
        rw [show 37 + 2 * v = 36 + 2 * v + 1 by omega, x3 i hi]
        by_cases ci : D ≤ i ∧ i < D + N
        · rw [if_pos ci, if_pos (by omega), show 12 * v + i - (12 * v + D) = i - D by omega, ← cb, show 36 + 2 * s + 1 = 37 + 2 * s by omega]
          exact p5 (F + (i - D)) (by omega)
        · rw [if_neg ci, if_neg (by omega), show 36 + 2 * v + 1 = 37 + 2 * v by omega]
          exact r5 i hi
      · rw [x2 _ (by omega), if_neg (by omega)]
        exact r5 i hi
  · simp only [c0, d0, cb, ↓reduceIte, ob1_some, n10]
    exact ⟨_, _, _, rfl, rfl, Rel_fnd h⟩
