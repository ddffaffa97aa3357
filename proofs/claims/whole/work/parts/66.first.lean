/-! the first of the list -/
def pqF (M : Mem) (z : Int32) (a : Nat) : Prop := prF M a = true ∧ (z = -1 ∨ M 7 a = z)
def Fst (M : Mem) (nm nk : Nat) (z : Int32) (i : Nat) (r : Int32) : Prop := (r = -1 ∧ ∀ a, a < i → ¬ pqF M z a) ∨ ∃ b, b < i ∧ r = nI b ∧ pqF M z b ∧ ∀ a, a < i → pqF M z a → a = b ∨ ahB M nm nk b a = true
theorem Fst_uni {M : Mem} {nm nk i : Nat} {z r r' : Int32} (h : Fst M nm nk z i r) (h' : Fst M nm nk z i r') : r = r' := by
  obtain ⟨o1, o2, o3⟩ := isO_ahB M nm nk
  rcases h with ⟨e, n⟩ | ⟨b, b1, b2, b3, b4⟩
  · rcases h' with ⟨e', n'⟩ | ⟨c, c1, c2, c3, c4⟩
    · rw [e, e']
    · exact absurd c3 (n c c1)
  · rcases h' with ⟨e', n'⟩ | ⟨c, c1, c2, c3, c4⟩
    · exact absurd b3 (n' b b1)
    · rcases b4 c c1 c3 with q | q
      · rw [b2, c2, q]
      · rcases c4 b b1 b3 with w | w
        · rw [b2, c2, w]
        · have := o2 _ _ _ q w
          rw [o1] at this
          exact absurd this (by decide)
theorem first5_def (k : Nat) (X : Mem) (z x3 x4 : Int32) (n : Nat) : fX5_firstOf_5 k X z (n + 1) x3 x4 = if X k 6 ≤ x4 then some x3 else (if z = (-1) then (ob1 (fX4_isHere X (atF (X (k + 1)) 20 x4)) (fun r8 => if r8 = 0 then (fX5_firstOf_5 k X z n x3 (x4 + 1)) else (if x3 = (-1) then (fX5_firstOf_5 k X z n x4 (x4 + 1)) else (ob1 (fX5_isAhead k X x4 x3) (fun r13 => if r13 = 0 then (fX5_firstOf_5 k X z n x3 (x4 + 1)) else (fX5_firstOf_5 k X z n x4 (x4 + 1))))))) else (if atF (X (k + 2)) 20 x4 = z then (ob1 (fX4_isHere X (atF (X (k + 1)) 20 x4)) (fun r22 => if r22 = 0 then (fX5_firstOf_5 k X z n x3 (x4 + 1)) else (if x3 = (-1) then (fX5_firstOf_5 k X z n x4 (x4 + 1)) else (ob1 (fX5_isAhead k X x4 x3) (fun r27 => if r27 = 0 then (fX5_firstOf_5 k X z n x3 (x4 + 1)) else (fX5_firstOf_5 k X z n x4 (x4 + 1))))))) else (fX5_firstOf_5 k X z n x3 (x4 + 1)))) := by
  rw [fX5_firstOf_5]
  simp only [fX7_size, fX7_memberAt, fX7_sortAt, ob1_some]
theorem Fst_skip {M : Mem} {nm nk i : Nat} {z r : Int32} (h : Fst M nm nk z i r) (c : ¬ pqF M z i) : Fst M nm nk z (i + 1) r := by
  rcases h with ⟨e, n⟩ | ⟨b, b1, b2, b3, b4⟩
  · refine Or.inl ⟨e, fun a ha => ?_⟩
    by_cases q : a = i
    · rw [q]; exact c
    · exact n a (by omega)
  · refine Or.inr ⟨b, by omega, b2, b3, fun a ha hp => ?_⟩
    by_cases q : a = i
    · rw [q] at hp; exact absurd hp c
    · exact b4 a (by omega) hp
theorem firstX_loop {k nm na nk : Nat} {X M : Mem} (h1 : rRos nm X M) (h2 : rSta k nm na X M) (h5 : rKey nk X M) (z : Int32) : ∀ j i n (x : Int32), i + j = na → j < n → Fst M nm nk z i x → ∃ r, fX5_firstOf_5 k X z n x (nI i) = some r ∧ Fst M nm nk z na r := by
  obtain ⟨o1, o2, o3⟩ := isO_ahB M nm nk
  have hn := h1.1
  have hn2 := h2.1
  intro j
  induction j with
  | zero =>
    intro i n x hi hn' hx
    obtain ⟨n', rfl⟩ : ∃ n', n = n' + 1 := ⟨n - 1, by omega⟩
    have e : i = na := by omega
    subst e
    rw [first5_def, h2.2.1, if_pos (nI_le (Nat.le_refl i) (by omega))]
    exact ⟨x, rfl, hx⟩
  | succ j ih =>
    intro i n x hi hn' hx
    obtain ⟨n', rfl⟩ : ∃ n', n = n' + 1 := ⟨n - 1, by omega⟩
    obtain ⟨m, hm, em⟩ := h2.2.2.2.2.2.2.2.2.2.1 i (by omega)
    have e0 : mI M i = m := by unfold mI; rw [em]; exact nI_clamp (by omega)
    have pr0 : M 3 m = 0 → ¬ pqF M z i := fun w q => by
      have := of_decide_eq_true (p := ¬ M 3 (mI M i) = 0) q.1
      rw [e0] at this
      exact this w
    have core : (z = -1 ∨ M 7 i = z) → ∃ r, ob1 (some (M 3 m)) (fun r8 => if r8 = 0 then (fX5_firstOf_5 k X z n' x (nI (i + 1))) else (if x = (-1) then (fX5_firstOf_5 k X z n' (nI i) (nI (i + 1))) else (ob1 (fX5_isAhead k X (nI i) x) (fun r13 => if r13 = 0 then (fX5_firstOf_5 k X z n' x (nI (i + 1))) else (fX5_firstOf_5 k X z n' (nI i) (nI (i + 1))))))) = some r ∧ Fst M nm nk z na r := by
      intro hz
      rw [ob1_some]
      by_cases c : M 3 m = 0
      · rw [if_pos c]
        exact ih (i + 1) n' x (by omega) (by omega) (Fst_skip hx (pr0 c))
      · rw [if_neg c]
        have hp : pqF M z i := ⟨show prF M i = true from decide_eq_true (by rw [e0]; exact c), hz⟩
        rcases hx with ⟨e, hno⟩ | ⟨b, b1, b2, b3, b4⟩
        · rw [if_pos e]
          refine ih (i + 1) n' _ (by omega) (by omega) (Or.inr ⟨i, by omega, rfl, hp, fun a ha hq => ?_⟩)
          by_cases q : a = i
          · exact Or.inl q
          · exact absurd hq (hno a (by omega))
        · subst b2
          rw [if_neg (nI_neg1 (by omega)), aheadX h1 h2 h5 (show i < na by omega) (show b < na by omega), ob1_some]
          by_cases w : ahB M nm nk i b = true
          · rw [w, bI_t, if_neg n10]
            refine ih (i + 1) n' _ (by omega) (by omega) (Or.inr ⟨i, by omega, rfl, hp, fun a ha hq => ?_⟩)
            by_cases q : a = i
            · exact Or.inl q
            · rcases b4 a (by omega) hq with e | e
              · rw [e]; exact Or.inr w
              · exact Or.inr (o2 _ _ _ w e)
          · have w' : ahB M nm nk i b = false := by
              cases q : ahB M nm nk i b
              · rfl
              · exact absurd q w
            rw [w', bI_f, if_pos rfl]
            refine ih (i + 1) n' _ (by omega) (by omega) (Or.inr ⟨b, by omega, rfl, b3, fun a ha hq => ?_⟩)
            by_cases q : a = i
            · rw [q]
              rcases o3 b i (by omega) with e | e
              · exact Or.inr e
              · exact absurd e w
            · exact b4 a (by omega) hq
    rw [first5_def, h2.2.1, if_neg (nI_ge (by omega) (by omega)), atF_nI (show i < 20 by omega) (by decide), atF_nI (show i < 20 by omega) (by decide), h2.2.2.2.1 i (by omega), h2.2.2.2.2.1 i (by omega), em, here_eq h1 (show m < 10 by omega), nI_1]
    by_cases cz : z = -1
    · rw [if_pos cz]; exact core (Or.inl cz)
    · rw [if_neg cz]
      by_cases c7 : M 7 i = z
      · rw [if_pos c7]; exact core (Or.inr c7)
      · rw [if_neg c7]
        exact ih (i + 1) n' x (by omega) (by omega) (Fst_skip hx (fun q => q.2.elim cz c7))
theorem firstX {k nm na nk : Nat} {X M : Mem} (h1 : rRos nm X M) (h2 : rSta k nm na X M) (h5 : rKey nk X M) (z : Int32) : ∃ r, fX5_firstOf k X z = some r ∧ Fst M nm nk z na r :=
  firstX_loop h1 h2 h5 z na 0 fu (-1) (by omega) (by have := fu_gt; have := h2.1; omega) (Or.inl ⟨rfl, fun a h => absurd h (Nat.not_lt_zero a)⟩)
theorem first6_def (M : Mem) (f : Nat → Int32) (v z x : Int32) (n : Nat) : fX9_firstOf_6 (tl M f v) z (n + 1) x = if v ≤ x then some (-1, tl M f v) else gI x 20 (gI (f x.toNatClampNeg) 20 (if M 7 (f x.toNatClampNeg).toNatClampNeg = z then gI x 20 (some (f x.toNatClampNeg, tl M f v)) else fX9_firstOf_6 (tl M f v) z n (x + 1))) := rfl
theorem firstM_loop {M : Mem} {nm nk na len : Nat} {f : Nat → Int32} {l : Nat → Nat} (hna : na ≤ 20) (hL : isL (ahB M nm nk) (prF M) na len l) (hf : ∀ j, j < len → f j = nI (l j)) {z : Int32} (hz : ¬ z = -1) : ∀ j i n, i + j = len → j < n → (∀ c, c < i → ¬ M 7 (l c) = z) → ∃ r, fX9_firstOf_6 (tl M f (nI len)) z n (nI i) = some (r, tl M f (nI len)) ∧ Fst M nm nk z na r := by
  obtain ⟨g1, g2, g3, g4⟩ := hL
  intro j
  induction j with
  | zero =>
    intro i n hi hn hno
    obtain ⟨n', rfl⟩ : ∃ n', n = n' + 1 := ⟨n - 1, by omega⟩
    rw [first6_def, if_pos (nI_le (by omega) (by omega))]
    refine ⟨_, rfl, Or.inl ⟨rfl, fun a ha hp => ?_⟩⟩
    obtain ⟨c, c1, c2⟩ := g3 a ha hp.1
    refine hno c (by omega) ?_
    rw [c2]
    exact hp.2.elim (fun w => absurd w hz) (fun w => w)
  | succ j ih =>
    intro i n hi hn hno
    obtain ⟨n', rfl⟩ : ∃ n', n = n' + 1 := ⟨n - 1, by omega⟩
    have hli := (g2 i (by omega)).1
    rw [first6_def, if_neg (nI_ge (by omega) (by omega)), gI_nI (show i < 20 by omega) (by decide), nI_clamp (show i < 2 ^ 31 by omega), hf i (by omega), gI_nI (show l i < 20 by omega) (by decide), nI_clamp (show l i < 2 ^ 31 by omega), gI_nI (show i < 20 by omega) (by decide), nI_1]
    by_cases c : M 7 (l i) = z
    · rw [if_pos c]
      refine ⟨_, rfl, Or.inr ⟨l i, hli, rfl, ⟨(g2 i (by omega)).2, Or.inr c⟩, fun a ha hp => ?_⟩⟩
      obtain ⟨d, d1, d2⟩ := g3 a ha hp.1
      have : ¬ d < i := fun w => hno d w (by rw [d2]; exact hp.2.elim (fun w => absurd w hz) (fun w => w))
      by_cases q : d = i
      · rw [q] at d2; exact Or.inl d2.symm
      · rw [← d2]; exact Or.inr (g4 i d (by omega) d1)
    · rw [if_neg c]
      refine ih (i + 1) n' (by omega) (by omega) (fun d hd => ?_)
      by_cases q : d = i
      · rw [q]; exact c
      · exact hno d (by omega)
theorem firstM {k nm na nk : Nat} {X M : Mem} (h1 : rRos nm X M) (h2 : rSta k nm na X M) (h5 : rKey nk X M) {z : Int32} (hz : ¬ z = -1) : ∃ r f v, fX9_firstOf M z = some (r, tl M f v) ∧ Fst M nm nk z na r := by
  obtain ⟨g, e1, e2⟩ := tellM_all h1 h2 h5
  have hL := isL_lsF M nm nk na
  have hn := h2.1
  have hf := fu_gt
  have hle := hL.1
  obtain ⟨r, r1, r2⟩ := firstM_loop hn hL e2 hz (lsF M nm nk na).1 0 fu (by omega) (by omega) (fun c hc => absurd hc (Nat.not_lt_zero c))
  refine ⟨r, g, nI (lsF M nm nk na).1, ?_, r2⟩
  unfold fX9_firstOf
  rw [e1, ob1_some]
  exact r1
/-- both firsts -/
theorem first_both {k nm na nk : Nat} {X M : Mem} (h1 : rRos nm X M) (h2 : rSta k nm na X M) (h5 : rKey nk X M) {z : Int32} (hz : ¬ z = -1) : ∃ r f v, fX5_firstOf k X z = some r ∧ fX9_firstOf M z = some (r, tl M f v) ∧ Fst M nm nk z na r := by
  obtain ⟨r, e1, e2⟩ := firstX h1 h2 h5 z
  obtain ⟨r', f, v, e3, e4⟩ := firstM h1 h2 h5 hz
  rw [Fst_uni e4 e2] at e3
  exact ⟨r, f, v, e1, e3, e2⟩
/-- the first of all -/
theorem first_all {nm na nk : Nat} {X M : Mem} (h1 : rRos nm X M) (h2 : rSta 5 nm na X M) (h5 : rKey nk X M) : ∃ (f : Nat → Int32) (len : Nat), fX9_tellList M = some (tl M f (nI len)) ∧ len ≤ 20 ∧ ((len = 0 ∧ fX5_firstOf 5 X (-1) = some (-1)) ∨ (0 < len ∧ ∃ a, a < na ∧ f 0 = nI a ∧ fX5_firstOf 5 X (-1) = some (nI a))) := by
  obtain ⟨g, e1, e2⟩ := tellM_all h1 h2 h5
  obtain ⟨g1, g2, g3, g4⟩ := isL_lsF M nm nk na
  have hn := h2.1
  obtain ⟨r, r1, r2⟩ := firstX h1 h2 h5 (-1)
  generalize (lsF M nm nk na).1 = len at e1 e2 g1 g2 g3 g4
  generalize (lsF M nm nk na).2 = l at e2 g2 g3 g4
  refine ⟨g, len, e1, by omega, ?_⟩
  rcases Nat.eq_zero_or_pos len with c | c
  · refine Or.inl ⟨c, ?_⟩
    rcases r2 with ⟨e, -⟩ | ⟨b, b1, b2, b3, -⟩
    · rw [r1, e]
    · obtain ⟨d, d1, d2⟩ := g3 b b1 b3.1
      omega
  · refine Or.inr ⟨c, l 0, (g2 0 c).1, e2 0 c, ?_⟩
    have : Fst M nm nk (-1) na (nI (l 0)) := Or.inr ⟨l 0, (g2 0 c).1, rfl, ⟨(g2 0 c).2, Or.inl rfl⟩, fun a ha hp => by
      obtain ⟨d, d1, d2⟩ := g3 a ha hp.1
      by_cases q : d = 0
      · rw [q] at d2; exact Or.inl d2.symm
      · rw [← d2]; exact Or.inr (g4 0 d (by omega) d1)⟩
    rw [r1, Fst_uni r2 this]
