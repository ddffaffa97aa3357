theorem Rel_lt {t : Nat} {X M : Mem} {f g : Nat → Int32} {v w : Int32} (h : Rel t X M) : Rel t (lx X f v) (tl M g w) := by
  obtain ⟨nm, na, nk, nf, nr, ng, nq, h1, h2, h3, h4, h5, h6, h7, h8, h9, h10, h11⟩ := h
  exact ⟨nm, na, nk, nf, nr, ng, nq, h1, h2, h3, h4, h5, h6, h7, h8, h9, h10, h11⟩
theorem Rel_tl {t : Nat} {X M : Mem} {g : Nat → Int32} {w : Int32} (h : Rel t X M) : Rel t X (tl M g w) := by
  obtain ⟨nm, na, nk, nf, nr, ng, nq, h1, h2, h3, h4, h5, h6, h7, h8, h9, h10, h11⟩ := h
  exact ⟨nm, na, nk, nf, nr, ng, nq, h1, h2, h3, h4, h5, h6, h7, h8, h9, h10, h11⟩
theorem len_pred {len : Nat} (h : len < 100) : (nI len - 1).toInt = (len : Int) - 1 := by
  rcases Nat.eq_zero_or_pos len with e | e
  · subst e; decide
  · have := nI_pred (len - 1)
    rw [show len - 1 + 1 = len by omega] at this
    rw [this, nI_toInt (by omega)]
    omega
theorem listedX_def (X : Mem) (f : Nat → Int32) (v a1 a2 : Int32) (h : fX2_lay X = some (lx X f v)) : fX8_listed X a1 a2 = ob1 (fX9_isIn a1 0 (v - 1)) (fun r6 => if r6 = 0 then some (-100006, up2 (lx X f v) 0 9 ((lx X f v) 0 9 + 1)) else (if a2 = 0 then some (atF (X 6) 20 (atF f 20 a1), lx X f v) else some (atF (X 7) 20 (atF f 20 a1), lx X f v))) := by
  unfold fX8_listed
  rw [h]
  rfl
theorem listedM_def (M : Mem) (f : Nat → Int32) (v a1 a2 : Int32) (h : fX9_tellList M = some (tl M f v)) : fX9_listed M a1 a2 = if a1 < 0 then some (-100006, up2 (tl M f v) 0 31 ((tl M f v) 0 31 + 1)) else (if a1 < v then (if a2 = 0 then gI a1 20 (gI (f a1.toNatClampNeg) 20 (some (M 6 (f a1.toNatClampNeg).toNatClampNeg, tl M f v))) else gI a1 20 (gI (f a1.toNatClampNeg) 20 (some (M 7 (f a1.toNatClampNeg).toNatClampNeg, tl M f v)))) else some (-100006, up2 (tl M f v) 0 31 ((tl M f v) 0 31 + 1))) := by
  unfold fX9_listed
  rw [h]
  rfl
theorem sim_listed {t : Nat} {X M : Mem} (h : Rel t X M) (_ht : t < 512) (a1 a2 : Int32) : ∃ (r : Int32) (X2 M2 : Mem), fX8_listed X a1 a2 = some (r, X2) ∧ fX9_listed M a1 a2 = some (r, M2) ∧ Rel (t + 1) X2 M2 := by
  obtain ⟨nm, na, nk, nf, nr, ng, nq, h1, h2, h3, h4, h5, h6⟩ := id h
  obtain ⟨f, e1, e2⟩ := layX_all h1 h2 h5
  obtain ⟨g, e3, e4⟩ := tellM_all h1 h2 h5
  obtain ⟨g1, g2, g3, g4⟩ := isL_lsF M nm nk na
  have hn := h2.1
  rw [listedX_def X f _ a1 a2 e1, listedM_def M g _ a1 a2 e3]
  generalize (lsF M nm nk na).1 = len at e1 e2 e3 e4 g1 g2 g3 g4 ⊢
  generalize (lsF M nm nk na).2 = l at e2 e4 g2 g3 g4 ⊢
  have hp := len_pred (show len < 100 by omega)
  have ht := nI_toInt (show len < 2 ^ 31 by omega)
  have t0 : (0 : Int32).toInt = 0 := by decide
  rcases isIn_cases a1 0 (nI len - 1) with ⟨e, q⟩ | ⟨e, q1, q2⟩
  · rw [e, ob1_some, if_pos rfl]
    by_cases c : a1 < 0
    · rw [if_pos c]
      exact ⟨_, _, _, rfl, rfl, Rel_fnd (Rel_lt h)⟩
    · rw [if_neg c, if_neg]
      · exact ⟨_, _, _, rfl, rfl, Rel_fnd (Rel_lt h)⟩
      · intro w
        rw [Int32.lt_iff_toInt_lt] at w c
        rcases q with q | q
        · rw [Int32.lt_iff_toInt_lt] at q; omega
        · rw [Int32.lt_iff_toInt_lt] at q; omega
  · obtain ⟨j, hj, rfl⟩ : ∃ j, j < len ∧ a1 = nI j := by
      rcases pk_ix a1 (n := len) (by omega) with c | c | c
      · exact absurd c q1
      · refine absurd ?_ q2
        rw [Int32.le_iff_toInt_le] at c
        rw [Int32.lt_iff_toInt_lt]
        omega
      · exact c
    have hl := (g2 j hj).1
    rw [e, ob1_some, if_neg n10, if_neg q1, if_pos (nI_lt hj (by omega)), atF_nI (show j < 20 by omega) (by decide), e2 j hj, nI_clamp (show j < 2 ^ 31 by omega), e4 j hj, gI_nI (show j < 20 by omega) (by decide), gI_nI (show j < 20 by omega) (by decide), gI_nI (show l j < 20 by omega) (by decide), gI_nI (show l j < 20 by omega) (by decide), nI_clamp (show l j < 2 ^ 31 by omega), atF_nI (show l j < 20 by omega) (by decide), atF_nI (show l j < 20 by omega) (by decide), h2.2.2.2.1 _ (by omega), h2.2.2.2.2.1 _ (by omega)]
    by_cases c : a2 = 0
    · rw [if_pos c, if_pos c]
      exact ⟨_, _, _, rfl, rfl, Rel_lt (Rel_mono h)⟩
    · rw [if_neg c, if_neg c]
      exact ⟨_, _, _, rfl, rfl, Rel_lt (Rel_mono h)⟩
/-! place -/
theorem place28_def (M : Mem) (f : Nat → Int32) (v z1 z2 x : Int32) (n : Nat) : fX9_place_28 (tl M f v) z1 z2 (n + 1) x = if v ≤ x then some (-100006, up2 (tl M f v) 0 31 ((tl M f v) 0 31 + 1)) else gI x 20 (gI (f x.toNatClampNeg) 20 (if M 6 (f x.toNatClampNeg).toNatClampNeg = z1 then gI x 20 (gI (f x.toNatClampNeg) 20 (if M 7 (f x.toNatClampNeg).toNatClampNeg = z2 then some (x, tl M f v) else fX9_place_28 (tl M f v) z1 z2 n (x + 1))) else fX9_place_28 (tl M f v) z1 z2 n (x + 1))) := rfl
theorem placeM_loop {M : Mem} {f : Nat → Int32} {len : Nat} {l : Nat → Nat} (hlen : len ≤ 20) (hl : ∀ j, j < len → l j < 20) (hf : ∀ j, j < len → f j = nI (l j)) (z1 z2 : Int32) : ∀ j i n, i + j = len → j < n → (fX9_place_28 (tl M f (nI len)) z1 z2 n (nI i) = some (-100006, up2 (tl M f (nI len)) 0 31 ((tl M f (nI len)) 0 31 + 1)) ∧ ∀ c, i ≤ c → c < len → ¬ (M 6 (l c) = z1 ∧ M 7 (l c) = z2)) ∨ ∃ c, c < len ∧ fX9_place_28 (tl M f (nI len)) z1 z2 n (nI i) = some (nI c, tl M f (nI len)) ∧ M 6 (l c) = z1 ∧ M 7 (l c) = z2 := by
  intro j
  induction j with
  | zero =>
    intro i n hi hn
    obtain ⟨n', rfl⟩ : ∃ n', n = n' + 1 := ⟨n - 1, by omega⟩
    rw [place28_def, if_pos (nI_le (by omega) (by omega))]
    exact Or.inl ⟨rfl, fun c h1 h2 => by omega⟩
  | succ j ih =>
    intro i n hi hn
    obtain ⟨n', rfl⟩ : ∃ n', n = n' + 1 := ⟨n - 1, by omega⟩
    have hli := hl i (by omega)
    rw [place28_def, if_neg (nI_ge (by omega) (by omega)), gI_nI (show i < 20 by omega) (by decide), nI_clamp (show i < 2 ^ 31 by omega), hf i (by omega), gI_nI hli (by decide), nI_clamp (show l i < 2 ^ 31 by omega), gI_nI (show i < 20 by omega) (by decide), gI_nI hli (by decide), nI_1]
    have rec_ : ¬ (M 6 (l i) = z1 ∧ M 7 (l i) = z2) → (fX9_place_28 (tl M f (nI len)) z1 z2 n' (nI (i + 1)) = some (-100006, up2 (tl M f (nI len)) 0 31 ((tl M f (nI len)) 0 31 + 1)) ∧ ∀ c, i ≤ c → c < len → ¬ (M 6 (l c) = z1 ∧ M 7 (l c) = z2)) ∨ ∃ c, c < len ∧ fX9_place_28 (tl M f (nI len)) z1 z2 n' (nI (i + 1)) = some (nI c, tl M f (nI len)) ∧ M 6 (l c) = z1 ∧ M 7 (l c) = z2 := by
      intro hne
      rcases ih (i + 1) n' (by omega) (by omega) with ⟨e, h⟩ | h
      · refine Or.inl ⟨e, fun c h1 h2 => ?_⟩
        by_cases q : c = i
        · rw [q]; exact hne
        · exact h c (by omega) h2
      · exact Or.inr h
    by_cases c1 : M 6 (l i) = z1
    · rw [if_pos c1]
      by_cases c2 : M 7 (l i) = z2
      · rw [if_pos c2]
        exact Or.inr ⟨i, by omega, rfl, c1, c2⟩
      · rw [if_neg c2]; exact rec_ (fun q => c2 q.2)
    · rw [if_neg c1]; exact rec_ (fun q => c1 q.1)
theorem placeX_loop {X : Mem} {f : Nat → Int32} {len a : Nat} {l : Nat → Nat} (ha : a < 20) (hlen : len ≤ 20) (hl : ∀ j, j < len → l j < 20) (hf : ∀ j, j < len → f j = nI (l j)) : ∀ j i n, i + j = len → j < n → (∀ c, i ≤ c → c < len → ¬ l c = a) ∨ ∃ c, c < len ∧ fX2_placeOf_2 (lx X f (nI len)) (nI a) n (nI i) = some (nI c) ∧ l c = a := by
  intro j
  induction j with
  | zero =>
    intro i n hi hn
    exact Or.inl (fun c h1 h2 => by omega)
  | succ j ih =>
    intro i n hi hn
    obtain ⟨n', rfl⟩ : ∃ n', n = n' + 1 := ⟨n - 1, by omega⟩
    have hli := hl i (by omega)
    have ed : fX2_placeOf_2 (lx X f (nI len)) (nI a) (n' + 1) (nI i) = if nI len ≤ nI i then some (-1) else if atF f 20 (nI i) = nI a then some (nI i) else fX2_placeOf_2 (lx X f (nI len)) (nI a) n' (nI i + 1) := rfl
    rw [ed, if_neg (nI_ge (by omega) (by omega)), atF_nI (show i < 20 by omega) (by decide), hf i (by omega), nI_1]
    by_cases c : l i = a
    · rw [c, if_pos rfl]
      exact Or.inr ⟨i, by omega, rfl, c⟩
    · rw [if_neg (nI_ne (by omega) (by omega) c)]
      rcases ih (i + 1) n' (by omega) (by omega) with h | h
      · refine Or.inl (fun b h1 h2 => ?_)
        by_cases q : b = i
        · rw [q]; exact c
        · exact h b (by omega) h2
      · exact Or.inr h
theorem isL_inj {ah : Nat → Nat → Bool} {pr : Nat → Bool} {i len : Nat} {l : Nat → Nat} (ho : isO ah) (h : isL ah pr i len l) {a b : Nat} (ha : a < len) (hb : b < len) (e : l a = l b) : a = b := by
  rcases Nat.lt_trichotomy a b with c | c | c
  · have := h.2.2.2 a b c hb
    rw [e, ho.1] at this
    exact absurd this (by decide)
  · exact c
  · have := h.2.2.2 b a c ha
    rw [e, ho.1] at this
    exact absurd this (by decide)
theorem sim_place {t : Nat} {X M : Mem} (h : Rel t X M) (_ht : t < 512) (a1 a2 : Int32) : ∃ (r : Int32) (X2 M2 : Mem), fX8_place X a1 a2 = some (r, X2) ∧ fX9_place M a1 a2 = some (r, M2) ∧ Rel (t + 1) X2 M2 := by
  obtain ⟨nm, na, nk, nf, nr, ng, nq, h1, h2, h3, h4, h5, h6⟩ := id h
  have hf := fu_gt
  have hn := h2.1
  have hm1 := h1.1
  unfold fX8_place fX9_place fX8_isAsking fX9_isSort
  rw [has_eq h1, isIn_eq]
  rcases mem_cases h1 a1 with e | ⟨e, m, hm, rfl⟩
  · simp only [e, ob1_some, ob2_some', fX8_fin, fX9_fin, ↓reduceIte]
    exact ⟨_, _, _, rfl, rfl, Rel_fnd h⟩
  rcases isIn_cases a2 0 2 with ⟨e2, -⟩ | ⟨e2, -⟩
  · simp only [e, e2, ob1_some, ob2_some', fX8_fin, fX9_fin, n10, ↓reduceIte]
    exact ⟨_, _, _, rfl, rfl, Rel_fnd h⟩
  obtain ⟨f, x1, x2⟩ := layX_all h1 h2 h5
  obtain ⟨g, y1, y2⟩ := tellM_all h1 h2 h5
  have hL := isL_lsF M nm nk na
  generalize (lsF M nm nk na).1 = len at x1 x2 y1 y2 hL
  generalize (lsF M nm nk na).2 = l at x2 y2 hL
  obtain ⟨g1, g2, g3, g4⟩ := id hL
  have hl : ∀ j, j < len → l j < 20 := fun j hj => by have := (g2 j hj).1; omega
  have hM := placeM_loop (M := M) (by omega) hl y2 (nI m) a2 len 0 fu (by omega) (by omega)
  rw [nI_0] at hM
  rcases find_both h2 h3 (nI m) a2 with ⟨f1, f2, f3⟩ | ⟨c, c1, c2, c3, c4, c5⟩
  · rcases hM with ⟨m1, m2⟩ | ⟨q, q1, q2, q3⟩
    · simp only [e, e2, f1, y1, m1, ob1_some, ob2_some', fX8_fin, n10, ↓reduceIte]
      exact ⟨_, _, _, rfl, rfl, Rel_fnd (Rel_tl h)⟩
    · exact absurd q3 (f3 _ (g2 q q1).1)
  · have n1 : ¬ nI c = -1 := nI_neg1 (by omega)
    have e0 : mI M c = m := by unfold mI; rw [c4]; exact nI_clamp (by omega)
    by_cases ch : M 3 m = 0
    · rcases hM with ⟨m1, m2⟩ | ⟨q, q1, q2, q3, q4⟩
      · simp only [e, e2, c2, y1, m1, here_eq h1 (show m < 10 by omega), ch, ob1_some, ob2_some', fX8_fin, n10, n1, ↓reduceIte]
        exact ⟨_, _, _, rfl, rfl, Rel_fnd (Rel_tl h)⟩
      · have w := h3 (l q) c (g2 q q1).1 c1 (q3.trans c4.symm) (q4.trans c5.symm)
        have w2 := (g2 q q1).2
        rw [w] at w2
        have w3 := of_decide_eq_true (p := ¬ M 3 (mI M c) = 0) w2
        rw [e0] at w3
        exact absurd ch w3
    · obtain ⟨p, p1, p2⟩ := g3 c c1 (show prF M c = true from decide_eq_true (by rw [e0]; exact ch))
      rcases hM with ⟨m1, m2⟩ | ⟨q, q1, q2, q3, q4⟩
      · exact absurd ⟨by rw [p2]; exact c4, by rw [p2]; exact c5⟩ (m2 p (by omega) p1)
      · have w := h3 (l q) c (g2 q q1).1 c1 (q3.trans c4.symm) (q4.trans c5.symm)
        have hX := placeX_loop (X := X) (a := c) (by omega) (show len ≤ 20 by omega) hl x2 len 0 fu (by omega) (by omega)
        rw [nI_0] at hX
        rcases hX with k1 | ⟨k, k1, k2, k3⟩
        · exact absurd p2 (k1 p (by omega) p1)
        · have : k = q := isL_inj (isO_ahB M nm nk) hL k1 q1 (k3.trans w.symm)
          subst this
          simp only [e, e2, c2, y1, q2, x1, fX2_placeOf, k2, here_eq h1 (show m < 10 by omega), ch, ob1_some, n10, n1, ↓reduceIte]
          exact ⟨_, _, _, rfl, rfl, Rel_lt (Rel_mono h)⟩
/-! fits -/
def lmF (M : Mem) (m s : Nat) : Int32 := if M 1 m = 3 then 2 * M 13 s else M 13 s
theorem limM {M : Mem} {m s : Nat} (hm : m < 10) (hs : s < 3) : fX9_limitOf M (nI m) (nI s) = some (lmF M m s) := by
  unfold fX9_limitOf lmF
  rw [gI_nI hm (by decide), nI_clamp (by omega), nI_clamp (by omega), gI_nI hs (by decide), gI_nI hs (by decide), ite_some]
theorem limX {nm nf m s : Nat} {X M : Mem} (h1 : rRos nm X M) (h6 : rFlo nm nf X M) (hm : m < 10) (hs : s < 3) : fX8_ticksFor X (nI m) (nI s) = some (lmF M m s) := by
  unfold fX8_ticksFor lmF fX1_limitOf
  rw [ofKind_3 h1 hm, ob1_some, ob1_some, atF_nI hs (by decide), h6.2.2.2.2.2.2.2.2.2.1 s hs]
  by_cases c : M 1 m = 3
  · rw [if_pos c, if_pos c, if_neg n10]
  · rw [if_neg c, if_neg c, if_pos rfl]
theorem fits33_def (X : Mem) (f : Nat → Int32) (v z1 z2 x3 x4 x5 : Int32) (n : Nat) : fX8_fits_33 (lx X f v) z1 z2 (n + 1) x3 x4 x5 = if v ≤ x5 then some (x4, lx X f v) else ob1 (fX8_ticksFor (lx X f v) (atF (X 6) 20 (atF f 20 x5)) (atF (X 7) 20 (atF f 20 x5))) (fun r17 => if x3 < r17 then (if z2 = 0 then some (x4, lx X f v) else fX8_fits_33 (lx X f v) z1 z2 n x3 x4 (x5 + 1)) else fX8_fits_33 (lx X f v) z1 z2 n (x3 - r17) (x4 + 1) (x5 + 1)) := by
  have q1 : lx X f v 19 4 = v := rfl
  have q2 : lx X f v 20 = f := rfl
  have q3 : lx X f v (5 + 1) = X 6 := rfl
  have q4 : lx X f v (5 + 2) = X 7 := rfl
  rw [fX8_fits_33]
  simp only [fX2_size, fX2_askingAt, fX7_memberAt, fX7_sortAt, ob1_some, q1, q2, q3, q4]
theorem fits30_def (M : Mem) (f : Nat → Int32) (v z1 z2 x3 x4 x5 : Int32) (n : Nat) : fX9_fits_30 (tl M f v) z1 z2 (n + 1) x3 x4 x5 = if v ≤ x5 then some (x3, tl M f v) else gI x5 20 (gI (f x5.toNatClampNeg) 20 (gI x5 20 (gI (f x5.toNatClampNeg) 20 (ob1 (fX9_limitOf (tl M f v) (M 6 (f x5.toNatClampNeg).toNatClampNeg) (M 7 (f x5.toNatClampNeg).toNatClampNeg)) (fun r13 => if x4 < r13 then (if z2 = 0 then some (x3, tl M f v) else fX9_fits_30 (tl M f v) z1 z2 n x3 x4 (x5 + 1)) else fX9_fits_30 (tl M f v) z1 z2 n (x3 + 1) (x4 - r13) (x5 + 1)))))) := rfl
theorem fits_loop {nm na nf len : Nat} {X M : Mem} {f g : Nat → Int32} {l : Nat → Nat} (h1 : rRos nm X M) (h2 : rSta 5 nm na X M) (h6 : rFlo nm nf X M) (hl : ∀ j, j < len → l j < na) (hlen : len ≤ 20) (hf : ∀ j, j < len → f j = nI (l j)) (hg : ∀ j, j < len → g j = nI (l j)) (z1 z2 : Int32) : ∀ j i n (le cn : Int32), i + j = len → j < n → ∃ r, fX8_fits_33 (lx X f (nI len)) z1 z2 n le cn (nI i) = some (r, lx X f (nI len)) ∧ fX9_fits_30 (tl M g (nI len)) z1 z2 n cn le (nI i) = some (r, tl M g (nI len)) := by
  have hn := h1.1
  have hn2 := h2.1
  intro j
  induction j with
  | zero =>
    intro i n le cn hi hn
    obtain ⟨n', rfl⟩ : ∃ n', n = n' + 1 := ⟨n - 1, by omega⟩
    rw [fits33_def, fits30_def, if_pos (nI_le (by omega) (by omega)), if_pos (nI_le (by omega) (by omega))]
    exact ⟨_, rfl, rfl⟩
  | succ j ih =>
    intro i n le cn hi hn
    obtain ⟨n', rfl⟩ : ∃ n', n = n' + 1 := ⟨n - 1, by omega⟩
    have hli := hl i (by omega)
    obtain ⟨m, hm, em⟩ := h2.2.2.2.2.2.2.2.2.2.1 (l i) hli
    obtain ⟨s, hs, es⟩ := h2.2.2.2.2.2.2.2.2.2.2 (l i) hli
    rw [fits33_def, fits30_def, if_neg (nI_ge (by omega) (by omega)), if_neg (nI_ge (by omega) (by omega)), atF_nI (show i < 20 by omega) (by decide), hf i (by omega), atF_nI (show l i < 20 by omega) (by decide), atF_nI (show l i < 20 by omega) (by decide), h2.2.2.2.1 _ (by omega), h2.2.2.2.2.1 _ (by omega), em, es, limX (X := lx X f (nI len)) (M := M) h1 h6 (by omega) hs, nI_clamp (show i < 2 ^ 31 by omega), hg i (by omega), nI_clamp (show l i < 2 ^ 31 by omega), em, es, limM (by omega) hs, gI_nI (show i < 20 by omega) (by decide), gI_nI (show l i < 20 by omega) (by decide), gI_nI (show i < 20 by omega) (by decide), gI_nI (show l i < 20 by omega) (by decide), ob1_some, ob1_some, nI_1, show lmF (tl M g (nI len)) m s = lmF M m s from rfl]
    by_cases c : le < lmF M m s
    · rw [if_pos c, if_pos c]
      by_cases z : z2 = 0
      · rw [if_pos z, if_pos z]
        exact ⟨_, rfl, rfl⟩
      · rw [if_neg z, if_neg z]
        exact ih (i + 1) n' _ _ (by omega) (by omega)
    · rw [if_neg c, if_neg c]
      exact ih (i + 1) n' _ _ (by omega) (by omega)
theorem sim_fits {t : Nat} {X M : Mem} (h : Rel t X M) (_ht : t < 512) (a1 a2 : Int32) : ∃ (r : Int32) (X2 M2 : Mem), fX8_fits X a1 a2 = some (r, X2) ∧ fX9_fits M a1 a2 = some (r, M2) ∧ Rel (t + 1) X2 M2 := by
  obtain ⟨nm, na, nk, nf, nr, ng, nq, h1, h2, h3, h4, h5, h6, -⟩ := id h
  have hf := fu_gt
  have hn := h2.1
  unfold fX8_fits fX9_fits
  rw [isIn_eq]
  rcases isIn_cases a1 0 1000 with ⟨e, -⟩ | ⟨e, -⟩
  · simp only [e, ob1_some, ob2_some', fX8_fin, fX9_fin, ↓reduceIte]
    exact ⟨_, _, _, rfl, rfl, Rel_fnd h⟩
  obtain ⟨f, x1, x2⟩ := layX_all h1 h2 h5
  obtain ⟨g, y1, y2⟩ := tellM_all h1 h2 h5
  obtain ⟨g1, g2, g3, g4⟩ := isL_lsF M nm nk na
  obtain ⟨r, r1, r2⟩ := fits_loop h1 h2 h6 (fun j hj => (g2 j hj).1) (by omega) x2 y2 a1 a2 (lsF M nm nk na).1 0 fu a1 0 (by omega) (by omega)
  rw [nI_0] at r1 r2
  simp only [e, x1, y1, r1, r2, ob1_some, n10, ↓reduceIte]
  exact ⟨_, _, _, rfl, rfl, Rel_lt (Rel_mono h)⟩
