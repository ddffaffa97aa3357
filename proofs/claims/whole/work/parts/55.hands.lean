def pN (d y n : Nat) : Prop := (d = 1 ∧ n < y) ∨ (d = 2 ∧ 0 < y ∧ 2 * (y + n) ≤ 3 * y) ∨ (d = 3 ∧ 0 < y ∧ n = 0)
theorem pN_mono {d y n y' n' : Nat} (h : pN d y n) (hy : y ≤ y') (hn : n' ≤ n) : pN d y' n' := by
  unfold pN at h ⊢
  rcases h with ⟨h1, h2⟩ | ⟨h1, h2, h3⟩ | ⟨h1, h2, h3⟩
  · exact Or.inl ⟨h1, by omega⟩
  · exact Or.inr (Or.inl ⟨h1, by omega, by omega⟩)
  · exact Or.inr (Or.inr ⟨h1, by omega, by omega⟩)
theorem pas_nat {d y n : Nat} (h1 : 1 ≤ d) (h3 : d ≤ 3) (hy : y ≤ 2000) (hn : n ≤ 2000) : (pasB (nI d) (nI y) (nI n) = 1 ∧ pN d y n) ∨ (pasB (nI d) (nI y) (nI n) = 0 ∧ ¬ pN d y n) := by
  unfold pasB pN
  rcases (show d = 1 ∨ d = 2 ∨ d = 3 by omega) with rfl | rfl | rfl
  · rw [if_pos (show nI 1 = 1 from rfl)]
    by_cases c : nI y ≤ nI n
    · rw [if_pos c]
      have := (nI_leI (by omega) (by omega)).mp c
      exact Or.inr ⟨rfl, by omega⟩
    · rw [if_neg c]
      have : ¬ y ≤ n := fun q => c ((nI_leI (by omega) (by omega)).mpr q)
      exact Or.inl ⟨rfl, by omega⟩
  · rw [if_neg (show ¬ nI 2 = 1 by decide), if_pos (show nI 2 = 2 from rfl)]
    by_cases c : nI y ≤ 0
    · rw [if_pos c]
      have := (nI_leI (b := 0) (by omega) (by omega)).mp c
      exact Or.inr ⟨rfl, by omega⟩
    · rw [if_neg c]
      have c' : ¬ y ≤ 0 := fun q => c ((nI_leI (b := 0) (by omega) (by omega)).mpr q)
      have e1 : (3 : Int32) * nI y = nI (3 * y) := pk_mul 3 y
      have e2 : (2 : Int32) * (nI y + nI n) = nI (2 * (y + n)) := by rw [nI_add]; exact pk_mul 2 (y + n)
      rw [e1, e2]
      by_cases c3 : nI (3 * y) < nI (2 * (y + n))
      · rw [if_pos c3]
        have := (nI_ltI (by omega) (by omega)).mp c3
        exact Or.inr ⟨rfl, by omega⟩
      · rw [if_neg c3]
        have : ¬ 3 * y < 2 * (y + n) := fun q => c3 ((nI_ltI (by omega) (by omega)).mpr q)
        exact Or.inl ⟨rfl, by omega⟩
  · rw [if_neg (show ¬ nI 3 = 1 by decide), if_neg (show ¬ nI 3 = 2 by decide)]
    by_cases c : nI y ≤ 0
    · rw [if_pos c]
      have := (nI_leI (b := 0) (by omega) (by omega)).mp c
      exact Or.inr ⟨rfl, by omega⟩
    · rw [if_neg c]
      have c' : ¬ y ≤ 0 := fun q => c ((nI_leI (b := 0) (by omega) (by omega)).mpr q)
      by_cases c3 : nI n = 0
      · rw [if_pos c3]
        have := nI_inj (b := 0) (by omega) (by omega) c3
        exact Or.inl ⟨rfl, by omega⟩
      · rw [if_neg c3]
        have : ¬ n = 0 := fun q => c3 (by rw [q]; rfl)
        exact Or.inr ⟨rfl, by omega⟩
theorem mx0 {a e : Nat} (ha : a ≤ 2000) (he : e ≤ 2000) : (if (0 : Int32) < nI a - nI e then nI a - nI e else 0) = nI (a - e) := by
  rcases Nat.lt_or_ge a e with c | c
  · have h := pk_sneg (a := a) (b := e) (by omega) c
    have : ¬ (0 : Int32) < nI a - nI e := fun q => by
      rw [Int32.lt_iff_toInt_lt] at h q
      omega
    rw [if_neg this, show a - e = 0 by omega]; rfl
  · rw [pk_sub c]
    rcases Nat.eq_zero_or_pos (a - e) with z | z
    · rw [z]; rfl
    · rw [if_pos (show (0 : Int32) < nI (a - e) from nI_lt (a := 0) z (by omega))]
theorem inner96 {M : Mem} {d a2 a3 a4 : Int32} {dn y B : Nat} {kc : Int32 → Int32 → Int32 → Option (Int32 × Mem)} (hd : d = nI dn) (h1 : 1 ≤ dn) (h3 : dn ≤ 3) (hy : y ≤ 1200) (hB : B ≤ 1200) (hb : a3 + a4 = nI B) : ∀ k c n (acc som : Int32), c + k = B + 1 → k < n → isB acc → isB som → ∃ acc' som' : Int32, fX9_hands_96 M d a2 a3 a4 (nI y) kc n acc som (nI c) = kc acc' som' (nI (y + 1)) ∧ isB acc' ∧ isB som' ∧ (acc' = 1 ↔ acc = 1 ∧ ∀ j, c ≤ j → j ≤ B → pN dn y j) ∧ (som' = 1 ↔ som = 1 ∨ ∃ j, c ≤ j ∧ j ≤ B ∧ pN dn y j) := by
  intro k
  induction k with
  | zero =>
    intro c n acc som hc hk ha hs
    obtain ⟨n', rfl⟩ : ∃ n', n = n' + 1 := ⟨n - 1, by omega⟩
    rw [fX9_hands_96, hb, if_pos (nI_lt (by omega) (by omega)), nI_1]
    exact ⟨acc, som, rfl, ha, hs, ⟨fun q => ⟨q, fun j h1 h2 => by omega⟩, fun q => q.1⟩, ⟨fun q => Or.inl q, fun q => q.elim id (fun ⟨j, h1, h2, _⟩ => by omega)⟩⟩
  | succ k ih =>
    intro c n acc som hc hk ha hs
    obtain ⟨n', rfl⟩ : ∃ n', n = n' + 1 := ⟨n - 1, by omega⟩
    rw [fX9_hands_96, hb, if_neg (nI_nlt (by omega) (by omega)), pasM, ob1_some, nI_1, hd]
    rcases pas_nat (n := c) h1 h3 (show y ≤ 2000 by omega) (by omega) with ⟨e, hp⟩ | ⟨e, hp⟩
    · have e1 : acc &&& 1 = acc := by rcases ha with rfl | rfl <;> rfl
      have e2 : som ||| 1 = 1 := by rcases hs with rfl | rfl <;> rfl
      rw [e, e1, e2, ← hd]
      obtain ⟨acc', som', q, qa, qs, iA, iS⟩ := ih (c + 1) n' acc 1 (by omega) (by omega) ha (Or.inr rfl)
      refine ⟨acc', som', q, qa, qs, iA.trans ⟨fun z => ⟨z.1, fun j h1 h2 => ?_⟩, fun z => ⟨z.1, fun j h1 h2 => z.2 j (by omega) h2⟩⟩, iS.trans ⟨fun _ => Or.inr ⟨c, Nat.le_refl c, by omega, hp⟩, fun _ => Or.inl rfl⟩⟩
      by_cases cj : j = c
      · rw [cj]; exact hp
      · exact z.2 j (by omega) h2
    · have e1 : acc &&& 0 = 0 := by rcases ha with rfl | rfl <;> rfl
      have e2 : som ||| 0 = som := by rcases hs with rfl | rfl <;> rfl
      rw [e, e1, e2, ← hd]
      obtain ⟨acc', som', q, qa, qs, iA, iS⟩ := ih (c + 1) n' 0 som (by omega) (by omega) (Or.inl rfl) hs
      refine ⟨acc', som', q, qa, qs, iA.trans ⟨fun z => absurd z.1 (by decide), fun z => absurd (z.2 c (Nat.le_refl c) (by omega)) hp⟩, iS.trans ⟨fun z => z.elim Or.inl (fun ⟨j, h1, h2, h3⟩ => Or.inr ⟨j, by omega, h2, h3⟩), fun z => z.elim Or.inl (fun ⟨j, h1, h2, h3⟩ => Or.inr ⟨j, ?_, h2, h3⟩)⟩⟩
      by_cases cj : j = c
      · rw [cj] at h3; exact absurd h3 hp
      · omega
theorem outer71 {M : Mem} {dn A B E : Nat} (h1 : 1 ≤ dn) (h3 : dn ≤ 3) (hA : A ≤ 1000) (hB : B ≤ 1000) (hE : E ≤ 100) : ∀ k c n (acc som : Int32), c + k = A + E + 1 → k < n → isB acc → isB som → ∃ acc' som' : Int32, fX9_hands_71 M (nI dn) (nI A) (nI B) (nI E) n acc som (nI c) = (if acc' = 0 then (if som' = 0 then some (0, M) else some (2, M)) else some (1, M)) ∧ isB acc' ∧ isB som' ∧ (acc' = 1 ↔ acc = 1 ∧ ∀ y j, c ≤ y → y ≤ A + E → B - E ≤ j → j ≤ B + E → pN dn y j) ∧ (som' = 1 ↔ som = 1 ∨ ∃ y j, c ≤ y ∧ y ≤ A + E ∧ B - E ≤ j ∧ j ≤ B + E ∧ pN dn y j) := by
  intro k
  induction k with
  | zero =>
    intro c n acc som hc hk ha hs
    obtain ⟨n', rfl⟩ : ∃ n', n = n' + 1 := ⟨n - 1, by omega⟩
    rw [fX9_hands_71, nI_add, if_pos (nI_lt (by omega) (by omega))]
    exact ⟨acc, som, rfl, ha, hs, ⟨fun q => ⟨q, fun y j h1 h2 => by omega⟩, fun q => q.1⟩, ⟨fun q => Or.inl q, fun q => q.elim id (fun ⟨y, j, h1, h2, _⟩ => by omega)⟩⟩
  | succ k ih =>
    intro c n acc som hc hk ha hs
    have hf := fu_gt
    obtain ⟨n', rfl⟩ : ∃ n', n = n' + 1 := ⟨n - 1, by omega⟩
    have est : (if nI E ≤ nI B then fX9_hands_96 M (nI dn) (nI A) (nI B) (nI E) (nI c) (fX9_hands_71 M (nI dn) (nI A) (nI B) (nI E) n') fu acc som (nI B - nI E) else fX9_hands_96 M (nI dn) (nI A) (nI B) (nI E) (nI c) (fX9_hands_71 M (nI dn) (nI A) (nI B) (nI E) n') fu acc som 0) = fX9_hands_96 M (nI dn) (nI A) (nI B) (nI E) (nI c) (fX9_hands_71 M (nI dn) (nI A) (nI B) (nI E) n') fu acc som (nI (B - E)) := by
      by_cases q : nI E ≤ nI B
      · rw [if_pos q, pk_sub ((nI_leI (by omega) (by omega)).mp q)]
      · have : ¬ E ≤ B := fun z => q ((nI_leI (by omega) (by omega)).mpr z)
        rw [if_neg q, show B - E = 0 by omega]; rfl
    rw [fX9_hands_71, nI_add, if_neg (nI_nlt (by omega) (by omega)), est]
    obtain ⟨acc1, som1, q, qa, qs, iA, iS⟩ := inner96 (M := M) (a2 := nI A) (kc := fX9_hands_71 M (nI dn) (nI A) (nI B) (nI E) n') (y := c) rfl h1 h3 (by omega) (show B + E ≤ 1200 by omega) (nI_add B E) (B + E + 1 - (B - E)) (B - E) fu acc som (by omega) (by omega) ha hs
    rw [q]
    obtain ⟨acc2, som2, q2, qa2, qs2, iA2, iS2⟩ := ih (c + 1) n' acc1 som1 (by omega) (by omega) qa qs
    refine ⟨acc2, som2, q2, qa2, qs2, iA2.trans ⟨fun z => ⟨(iA.mp z.1).1, fun y j h1 h2 h3 h4 => ?_⟩, fun z => ⟨iA.mpr ⟨z.1, fun j h3 h4 => z.2 c j (Nat.le_refl c) (by omega) h3 h4⟩, fun y j h1 h2 h3 h4 => z.2 y j (by omega) h2 h3 h4⟩⟩, iS2.trans ⟨fun z => ?_, fun z => ?_⟩⟩
    · by_cases cy : y = c
      · rw [cy]; exact (iA.mp z.1).2 j h3 h4
      · exact z.2 y j (by omega) h2 h3 h4
    · rcases z with z | ⟨y, j, h1, h2, h3, h4, h5⟩
      · rcases iS.mp z with z | ⟨j, h3, h4, h5⟩
        · exact Or.inl z
        · exact Or.inr ⟨c, j, Nat.le_refl c, by omega, h3, h4, h5⟩
      · exact Or.inr ⟨y, j, by omega, h2, h3, h4, h5⟩
    · rcases z with z | ⟨y, j, h1, h2, h3, h4, h5⟩
      · exact Or.inl (iS.mpr (Or.inl z))
      · by_cases cy : y = c
        · rw [cy] at h5; exact Or.inl (iS.mpr (Or.inr ⟨j, h3, h4, h5⟩))
        · exact Or.inr ⟨y, j, by omega, h2, h3, h4, h5⟩
theorem sim_hands {t : Nat} {X M : Mem} (h : Rel t X M) (_ht : t < 512) (a1 a2 a3 a4 : Int32) : ∃ (r : Int32) (X2 M2 : Mem), fX8_hands X a1 a2 a3 a4 = some (r, X2) ∧ fX9_hands M a1 a2 a3 a4 = some (r, M2) ∧ Rel (t + 1) X2 M2 := by
  unfold fX8_hands fX9_hands fX8_isNeed
  rw [isIn_eq]
  rcases isIn_cases a1 1 3 with ⟨e, -⟩ | ⟨e, g1, g2⟩
  · simp only [e, ob1_some, ob2_some', fX8_fin, fX9_fin, ↓reduceIte]
    exact ⟨_, _, _, rfl, rfl, Rel_fnd h⟩
  rcases isIn_cases a2 0 1000 with ⟨e2, -⟩ | ⟨e2, k1, k2⟩
  · simp only [e, e2, ob1_some, ob2_some', fX8_fin, fX9_fin, n10, ↓reduceIte]
    exact ⟨_, _, _, rfl, rfl, Rel_fnd h⟩
  rcases isIn_cases a3 0 1000 with ⟨e3, -⟩ | ⟨e3, l1, l2⟩
  · simp only [e, e2, e3, ob1_some, ob2_some', fX8_fin, fX9_fin, n10, ↓reduceIte]
    exact ⟨_, _, _, rfl, rfl, Rel_fnd h⟩
  rcases isIn_cases a4 0 100 with ⟨e4, -⟩ | ⟨e4, m1, m2⟩
  · simp only [e, e2, e3, e4, ob1_some, ob2_some', fX8_fin, fX9_fin, n10, ↓reduceIte]
    exact ⟨_, _, _, rfl, rfl, Rel_fnd h⟩
  obtain ⟨d, hd1, hd3, rfl⟩ := one_nat (n := 3) (by decide) g1 g2
  obtain ⟨A, hA, rfl⟩ := isIn_nat (v := a2) (n := 1000) (by decide) k1 k2
  obtain ⟨B, hB, rfl⟩ := isIn_nat (v := a3) (n := 1000) (by decide) l1 l2
  obtain ⟨E, hE, rfl⟩ := isIn_nat (v := a4) (n := 100) (by decide) m1 m2
  have hf := fu_gt
  obtain ⟨acc, som, q, qa, qs, iA, iS⟩ := outer71 (M := M) hd1 hd3 hA hB hE (A + E + 1 - (A - E)) (A - E) fu 1 0 (by omega) (by omega) (Or.inr rfl) (Or.inl rfl)
  have est : (if nI E ≤ nI A then fX9_hands_71 M (nI d) (nI A) (nI B) (nI E) fu 1 0 (nI A - nI E) else fX9_hands_71 M (nI d) (nI A) (nI B) (nI E) fu 1 0 0) = fX9_hands_71 M (nI d) (nI A) (nI B) (nI E) fu 1 0 (nI (A - E)) := by
    by_cases z : nI E ≤ nI A
    · rw [if_pos z, pk_sub ((nI_leI (by omega) (by omega)).mp z)]
    · have : ¬ E ≤ A := fun w => z ((nI_leI (by omega) (by omega)).mpr w)
      rw [if_neg z, show A - E = 0 by omega]; rfl
  simp only [e, e2, e3, e4, ob1_some, n10, ↓reduceIte, pasX, mx0 (show A ≤ 2000 by omega) (show E ≤ 2000 by omega), mx0 (show B ≤ 2000 by omega) (show E ≤ 2000 by omega), nI_add, est, q]
  rcases pas_nat (d := d) (y := A - E) (n := B + E) hd1 hd3 (by omega) (by omega) with ⟨f1, p1⟩ | ⟨f1, p1⟩
  · have ha : acc = 1 := iA.mpr ⟨rfl, fun y j h1 h2 h3 h4 => pN_mono p1 h1 h4⟩
    simp only [f1, ha, n10, ↓reduceIte]
    exact ⟨_, _, _, rfl, rfl, Rel_mono h⟩
  · have ha : acc = 0 := by
      rcases qa with z | z
      · exact z
      · exact absurd ((iA.mp z).2 (A - E) (B + E) (Nat.le_refl _) (by omega) (by omega) (Nat.le_refl _)) p1
    rcases pas_nat (d := d) (y := A + E) (n := B - E) hd1 hd3 (by omega) (by omega) with ⟨f2, p2⟩ | ⟨f2, p2⟩
    · have hs : som = 1 := iS.mpr (Or.inr ⟨A + E, B - E, by omega, Nat.le_refl _, Nat.le_refl _, by omega, p2⟩)
      simp only [f1, f2, ha, hs, n10, ↓reduceIte]
      exact ⟨_, _, _, rfl, rfl, Rel_mono h⟩
    · have hs : som = 0 := by
        rcases qs with z | z
        · exact z
        · rcases iS.mp z with w | ⟨y, j, h1, h2, h3, h4, h5⟩
          · exact absurd w (by decide)
          · exact absurd (pN_mono h5 h2 h3) p2
      simp only [f1, f2, ha, hs, ↓reduceIte]
      exact ⟨_, _, _, rfl, rfl, Rel_mono h⟩
