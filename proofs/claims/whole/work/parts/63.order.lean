/-! the order of the askings -/
def mI (M : Mem) (a : Nat) : Nat := (M 6 a).toNatClampNeg
def rkF (M : Mem) (nm : Nat) (v : Int32) (a : Nat) : Int32 := if v = 1 then (if M 7 a = 2 then 0 else 1) else if v = 2 then (if M 7 a = 1 then 0 else 1) else if v = 3 then (if M 5 (mI M a) = 0 then 0 else 1) else if v = 4 then M 5 (mI M a) else if v = 5 then M 4 (mI M a) else if v = 6 then tsum (M 2) (M 4) (M 2 (mI M a)) nm else if v = 7 then (if M 2 (mI M a) = M 0 11 then 1 else 0) else if v = 8 then (if M 1 (mI M a) = 1 ∨ M 1 (mI M a) = 3 then 1 else 0) else (if M 1 (mI M a) = 2 then 0 else 1)
def kyV (v : Int32) : Prop := v = 1 ∨ v = 2 ∨ v = 3 ∨ v = 4 ∨ v = 5 ∨ v = 6 ∨ v = 7 ∨ v = 8 ∨ v = 9
theorem kyV_of {v : Nat} (h1 : 1 ≤ v) (h2 : v ≤ 9) : kyV (nI v) := by
  unfold kyV
  rcases (show v = 1 ∨ v = 2 ∨ v = 3 ∨ v = 4 ∨ v = 5 ∨ v = 6 ∨ v = 7 ∨ v = 8 ∨ v = 9 by omega) with rfl | rfl | rfl | rfl | rfl | rfl | rfl | rfl | rfl <;> decide
theorem ite_some {α : Type} {c : Prop} [Decidable c] {a b : α} : (if c then some a else some b) = some (if c then a else b) := by
  by_cases h : c
  · rw [if_pos h, if_pos h]
  · rw [if_neg h, if_neg h]
theorem rankM {k nm na a : Nat} {X M : Mem} (h1 : rRos nm X M) (h2 : rSta k nm na X M) (ha : a < na) (v : Int32) : fX9_rank M v (nI a) = some (rkF M nm v a) := by
  have hn := h1.1
  have hn2 := h2.1
  obtain ⟨m, hm, em⟩ := h2.2.2.2.2.2.2.2.2.2.1 a ha
  have e0 : mI M a = m := by unfold mI; rw [em]; exact nI_clamp (by omega)
  unfold fX9_rank rkF
  rw [e0, nI_clamp (show a < 2 ^ 31 by omega), em, nI_clamp (show m < 2 ^ 31 by omega), guest_eq h1 (show m < 10 by omega), timeOf_eq h1]
  simp only [gI_nI (show a < 20 by omega) (show 20 < 2 ^ 31 by decide), gI_nI (show m < 10 by omega) (show 10 < 2 ^ 31 by decide), ob1_some, ite_some]
  congr 1
  by_cases c : M 1 m = 1 ∨ M 1 m = 3
  · simp only [if_pos c, n10, ↓reduceIte]
  · simp only [if_neg c, ↓reduceIte]
theorem rankX {k nm na a : Nat} {X M : Mem} (h1 : rRos nm X M) (h2 : rSta k nm na X M) (ha : a < na) {v : Int32} (hv : kyV v) : fX5_rankBy k X v (nI a) = some (rkF M nm v a) := by
  have hn := h1.1
  obtain ⟨p1, p2, p3, p4, p5, p6, p7, p8, p9, p10, p11⟩ := h2
  obtain ⟨m, hm, em⟩ := p10 a ha
  obtain ⟨d, hd, ed⟩ := h1.2.2.2.2.2.2.2.2 m (by omega)
  have e0 : mI M a = m := by unfold mI; rw [em]; exact nI_clamp (by omega)
  unfold fX5_rankBy rkF fX7_memberAt fX7_sortAt fX7_speechesOf fX7_timeOf fX7_delegationTime fX7_latestDelegation fX4_delegationOf
  simp only [e0, atF_nI (show a < 20 by omega) (show 20 < 2 ^ 31 by decide), ob1_some, p4 a (by omega), p5 a (by omega), em, atF_nI (show m < 10 by omega) (show 10 < 2 ^ 31 by decide), p6 m (by omega), p7 m (by omega), p8, h1.2.2.2.2.1 m (by omega), ofKind_1 h1 (show m < 10 by omega), ofKind_2 h1 (show m < 10 by omega), ed, atF_nI hd (show 5 < 2 ^ 31 by decide), p9 d hd, ite_some]
  congr 1
  by_cases c1 : v = 1
  · rw [if_pos c1, if_pos c1]
  rw [if_neg c1, if_neg c1]
  by_cases c2 : v = 2
  · rw [if_pos c2, if_pos c2]
  rw [if_neg c2, if_neg c2]
  by_cases c3 : v = 3
  · rw [if_pos c3, if_pos c3]
  rw [if_neg c3, if_neg c3]
  by_cases c4 : v = 4
  · rw [if_pos c4, if_pos c4]
  rw [if_neg c4, if_neg c4]
  by_cases c5 : v = 5
  · rw [if_pos c5, if_pos c5]
  rw [if_neg c5, if_neg c5]
  by_cases c6 : v = 6
  · rw [if_pos c6, if_pos c6]
  rw [if_neg c6, if_neg c6]
  by_cases c7 : v = 7
  · rw [if_pos c7, if_pos c7]
    by_cases q : M 0 11 = nI d
    · rw [if_pos q, if_pos q.symm]
    · rw [if_neg q, if_neg (fun w => q w.symm)]
  rw [if_neg c7, if_neg c7]
  by_cases c8 : v = 8
  · rw [if_pos c8, if_pos c8]
    by_cases q : M 1 m = 1 ∨ M 1 m = 3
    · simp only [if_pos q, n10, ↓reduceIte]
    · simp only [if_neg q, ↓reduceIte]
  rw [if_neg c8, if_neg c8]
  have c9 : v = 9 := by
    rcases hv with h | h | h | h | h | h | h | h | h
    · exact absurd h c1
    · exact absurd h c2
    · exact absurd h c3
    · exact absurd h c4
    · exact absurd h c5
    · exact absurd h c6
    · exact absurd h c7
    · exact absurd h c8
    · exact h
  rw [if_pos c9]
  by_cases q : M 1 m = 2
  · simp only [if_pos q, n10, ↓reduceIte]
  · simp only [if_neg q, ↓reduceIte]
/-- ahead, by the keys from i on -/
def ahF (R : Nat → Nat → Int) (a b : Nat) : Nat → Nat → Bool
  | 0, _ => decide (a < b)
  | j + 1, i => if R i a = R i b then ahF R a b j (i + 1) else decide (R i a < R i b)
theorem ahF_irr (R : Nat → Nat → Int) (a : Nat) : ∀ j i, ahF R a a j i = false := by
  intro j
  induction j with
  | zero => intro i; unfold ahF; exact decide_eq_false (Nat.lt_irrefl a)
  | succ j ih => intro i; unfold ahF; rw [if_pos rfl]; exact ih (i + 1)
theorem ahF_tr (R : Nat → Nat → Int) {a b c : Nat} : ∀ j i, ahF R a b j i = true → ahF R b c j i = true → ahF R a c j i = true := by
  intro j
  induction j with
  | zero =>
    intro i h1 h2
    unfold ahF at h1 h2 ⊢
    have h1 := of_decide_eq_true h1
    have h2 := of_decide_eq_true h2
    exact decide_eq_true (by omega)
  | succ j ih =>
    intro i h1 h2
    unfold ahF at h1 h2 ⊢
    by_cases c1 : R i a = R i b
    · rw [if_pos c1] at h1
      rw [c1]
      by_cases c2 : R i b = R i c
      · rw [if_pos c2] at h2 ⊢
        exact ih _ h1 h2
      · rw [if_neg c2] at h2 ⊢
        exact h2
    · rw [if_neg c1] at h1
      have h1 := of_decide_eq_true h1
      by_cases c2 : R i b = R i c
      · rw [← c2, if_neg c1]; exact decide_eq_true h1
      · rw [if_neg c2] at h2
        have h2 := of_decide_eq_true h2
        rw [if_neg (by omega)]
        exact decide_eq_true (by omega)
theorem ahF_tot (R : Nat → Nat → Int) {a b : Nat} (hab : a ≠ b) : ∀ j i, ahF R a b j i = true ∨ ahF R b a j i = true := by
  intro j
  induction j with
  | zero =>
    intro i
    unfold ahF
    rcases Nat.lt_or_gt_of_ne hab with h | h
    · exact Or.inl (decide_eq_true h)
    · exact Or.inr (decide_eq_true h)
  | succ j ih =>
    intro i
    unfold ahF
    by_cases c : R i a = R i b
    · rw [if_pos c, if_pos c.symm]; exact ih _
    · rw [if_neg c, if_neg (fun q => c q.symm)]
      rcases (show R i a < R i b ∨ R i b < R i a by omega) with h | h
      · exact Or.inl (decide_eq_true h)
      · exact Or.inr (decide_eq_true h)
def bI (b : Bool) : Int32 := if b = true then 1 else 0
def RR (M : Mem) (nm i a : Nat) : Int := (rkF M nm (M 8 i) a).toInt
def ahB (M : Mem) (nm nk a b : Nat) : Bool := ahF (RR M nm) a b nk 0
theorem ahd_step {x y : Int32} : (if y ≤ x then (some (0 : Int32)) else some 1) = some (bI (decide (x.toInt < y.toInt))) := by
  unfold bI
  by_cases c : y ≤ x
  · rw [if_pos c, if_neg]
    intro h
    have h := of_decide_eq_true h
    rw [Int32.le_iff_toInt_le] at c
    omega
  · rw [if_neg c, if_pos]
    refine decide_eq_true ?_
    rw [Int32.le_iff_toInt_le] at c
    omega
theorem ahd_end {a b : Nat} (ha : a < 20) (hb : b < 20) : (if nI b ≤ nI a then (some (0 : Int32)) else some 1) = some (bI (decide (a < b))) := by
  unfold bI
  by_cases c : b ≤ a
  · rw [if_pos (nI_le c (by omega)), if_neg]
    intro h
    have h := of_decide_eq_true h
    omega
  · rw [if_neg (nI_ge (by omega) (by omega)), if_pos]
    exact decide_eq_true (by omega)
theorem aheadM_loop {k nm na nk a b : Nat} {X M : Mem} (h1 : rRos nm X M) (h2 : rSta k nm na X M) (h5 : rKey nk X M) (ha : a < na) (hb : b < na) : ∀ j i n, i + j = nk → j < n → fX9_isAhead_2 M (nI a) (nI b) n (nI i) = some (bI (ahF (RR M nm) a b j i)) := by
  have hn2 := h2.1
  obtain ⟨k1, k2, k3, k4, k5⟩ := h5
  intro j
  induction j with
  | zero =>
    intro i n hi hn
    obtain ⟨n', rfl⟩ : ∃ n', n = n' + 1 := ⟨n - 1, by omega⟩
    rw [fX9_isAhead_2, k3, if_pos (nI_le (by omega) (by omega)), ahd_end (by omega) (by omega), ahF]
  | succ j ih =>
    intro i n hi hn
    obtain ⟨n', rfl⟩ : ∃ n', n = n' + 1 := ⟨n - 1, by omega⟩
    rw [fX9_isAhead_2, k3, if_neg (nI_ge (by omega) (by omega)), gI_nI (show i < 6 by omega) (by decide), nI_clamp (by omega), rankM h1 h2 ha, ob1_some, gI_nI (show i < 6 by omega) (by decide), rankM h1 h2 hb, ob1_some, nI_1, ih (i + 1) n' (by omega) (by omega), ahd_step, ahF]
    by_cases c : rkF M nm (M 8 i) a = rkF M nm (M 8 i) b
    · rw [if_pos c, if_pos (show RR M nm i a = RR M nm i b from congrArg Int32.toInt c)]
    · rw [if_neg c, if_neg (show ¬ RR M nm i a = RR M nm i b from fun q => c (Int32.toInt_inj.mp q))]; rfl
theorem aheadX_loop {k nm na nk a b : Nat} {X M : Mem} (h1 : rRos nm X M) (h2 : rSta k nm na X M) (h5 : rKey nk X M) (ha : a < na) (hb : b < na) : ∀ j i n, i + j = nk → j < n → fX5_isAhead_3 k X (nI a) (nI b) n (nI i) = some (bI (ahF (RR M nm) a b j i)) := by
  have hn2 := h2.1
  obtain ⟨k1, k2, k3, k4, k5⟩ := h5
  intro j
  induction j with
  | zero =>
    intro i n hi hn
    obtain ⟨n', rfl⟩ : ∃ n', n = n' + 1 := ⟨n - 1, by omega⟩
    rw [fX5_isAhead_3, k2, if_pos (nI_le (by omega) (by omega)), ahd_end (by omega) (by omega), ahF]
  | succ j ih =>
    intro i n hi hn
    obtain ⟨n', rfl⟩ : ∃ n', n = n' + 1 := ⟨n - 1, by omega⟩
    have hv : kyV (M 8 i) := by
      obtain ⟨v, v1, v2, v3⟩ := k5 i (by omega)
      rw [v3]; exact kyV_of v1 v2
    rw [fX5_isAhead_3, k2, if_neg (nI_ge (by omega) (by omega)), atF_nI (show i < 6 by omega) (by decide), k4 i (by omega), rankX h1 h2 ha hv, ob1_some, rankX h1 h2 hb hv, ob1_some, nI_1, ih (i + 1) n' (by omega) (by omega), ahd_step, ahF]
    by_cases c : rkF M nm (M 8 i) a = rkF M nm (M 8 i) b
    · rw [if_pos c, if_pos (show RR M nm i a = RR M nm i b from congrArg Int32.toInt c)]
    · rw [if_neg c, if_neg (show ¬ RR M nm i a = RR M nm i b from fun q => c (Int32.toInt_inj.mp q))]; rfl
theorem aheadM {k nm na nk a b : Nat} {X M : Mem} (h1 : rRos nm X M) (h2 : rSta k nm na X M) (h5 : rKey nk X M) (ha : a < na) (hb : b < na) : fX9_isAhead M (nI a) (nI b) = some (bI (ahB M nm nk a b)) :=
  aheadM_loop h1 h2 h5 ha hb nk 0 fu (by omega) (by have := fu_gt; have := h5.1; omega)
theorem aheadX {k nm na nk a b : Nat} {X M : Mem} (h1 : rRos nm X M) (h2 : rSta k nm na X M) (h5 : rKey nk X M) (ha : a < na) (hb : b < na) : fX5_isAhead k X (nI a) (nI b) = some (bI (ahB M nm nk a b)) :=
  aheadX_loop h1 h2 h5 ha hb nk 0 fu (by omega) (by have := fu_gt; have := h5.1; omega)
/-- a strict order -/
def isO (ah : Nat → Nat → Bool) : Prop := (∀ a, ah a a = false) ∧ (∀ a b c, ah a b = true → ah b c = true → ah a c = true) ∧ ∀ a b, a ≠ b → ah a b = true ∨ ah b a = true
theorem isO_ahB (M : Mem) (nm nk : Nat) : isO (ahB M nm nk) := ⟨fun a => ahF_irr _ a _ _, fun _ _ _ => ahF_tr _ _ _, fun _ _ h => ahF_tot _ h _ _⟩
/-! the list, by insertion -/
def insP (ah : Nat → Nat → Bool) (l : Nat → Nat) (a : Nat) : Nat → Nat
  | 0 => 0
  | p + 1 => if ah a (l p) = true then insP ah l a p else p + 1
def insR (l : Nat → Nat) (a q j : Nat) : Nat := if j < q then l j else if j = q then a else l (j - 1)
def lstF (ah : Nat → Nat → Bool) (pr : Nat → Bool) : Nat → Nat × (Nat → Nat)
  | 0 => (0, fun _ => 0)
  | i + 1 => if pr i = true then ((lstF ah pr i).1 + 1, insR (lstF ah pr i).2 i (insP ah (lstF ah pr i).2 i (lstF ah pr i).1)) else lstF ah pr i
theorem insP_le (ah : Nat → Nat → Bool) (l : Nat → Nat) (a : Nat) : ∀ p, insP ah l a p ≤ p := by
  intro p
  induction p with
  | zero => exact Nat.le_refl 0
  | succ p ih =>
    unfold insP
    by_cases c : ah a (l p) = true
    · rw [if_pos c]; omega
    · rw [if_neg c]; omega
theorem insP_hi (ah : Nat → Nat → Bool) (l : Nat → Nat) (a : Nat) : ∀ p j, insP ah l a p ≤ j → j < p → ah a (l j) = true := by
  intro p
  induction p with
  | zero => intro j _ h; omega
  | succ p ih =>
    intro j h1 h2
    unfold insP at h1
    by_cases c : ah a (l p) = true
    · rw [if_pos c] at h1
      by_cases q : j = p
      · rw [q]; exact c
      · exact ih j h1 (by omega)
    · rw [if_neg c] at h1; omega
theorem insP_lo (ah : Nat → Nat → Bool) (l : Nat → Nat) (a : Nat) : ∀ p, insP ah l a p = 0 ∨ ¬ ah a (l (insP ah l a p - 1)) = true := by
  intro p
  induction p with
  | zero => exact Or.inl rfl
  | succ p ih =>
    unfold insP
    by_cases c : ah a (l p) = true
    · rw [if_pos c]; exact ih
    · rw [if_neg c]; exact Or.inr c
/-- what the list is -/
def isL (ah : Nat → Nat → Bool) (pr : Nat → Bool) (i len : Nat) (l : Nat → Nat) : Prop := len ≤ i ∧ (∀ j, j < len → l j < i ∧ pr (l j) = true) ∧ (∀ a, a < i → pr a = true → ∃ j, j < len ∧ l j = a) ∧ ∀ j j', j < j' → j' < len → ah (l j) (l j') = true
theorem isL_lstF {ah : Nat → Nat → Bool} (ho : isO ah) (pr : Nat → Bool) : ∀ i, isL ah pr i (lstF ah pr i).1 (lstF ah pr i).2 := by
  obtain ⟨o1, o2, o3⟩ := ho
  intro i
  induction i with
  | zero => exact ⟨Nat.le_refl 0, fun j h => absurd h (Nat.not_lt_zero j), fun a h => absurd h (Nat.not_lt_zero a), fun j j' _ h => absurd h (Nat.not_lt_zero j')⟩
  | succ i ih =>
    rw [lstF]
    obtain ⟨g1, g2, g3, g4⟩ := ih
    by_cases c : pr i = true
    · rw [if_pos c]
      have q0 := insP_le ah (lstF ah pr i).2 i (lstF ah pr i).1
      have q1 := insP_hi ah (lstF ah pr i).2 i (lstF ah pr i).1
      have q2 := insP_lo ah (lstF ah pr i).2 i (lstF ah pr i).1
      generalize insP ah (lstF ah pr i).2 i (lstF ah pr i).1 = q at q0 q1 q2 ⊢
      generalize (lstF ah pr i).1 = len at g1 g2 g3 g4 q0 q1 q2 ⊢
      generalize (lstF ah pr i).2 = l at g2 g3 g4 q1 q2 ⊢
      have lo : ∀ j, j < q → ah (l j) i = true := by
        intro j hj
        rcases q2 with h | h
        · omega
        · have hb := (g2 (q - 1) (by omega)).1
          have hq : ah (l (q - 1)) i = true := by
            rcases o3 (l (q - 1)) i (by omega) with w | w
            · exact w
            · exact absurd w h
          by_cases e : j = q - 1
          · rw [e]; exact hq
          · exact o2 _ _ _ (g4 j (q - 1) (by omega) (by omega)) hq
      refine ⟨by show len + 1 ≤ i + 1; omega, fun j hj => ?_, fun a h1 h2 => ?_, fun j j' h1 h2 => ?_⟩
      · have hj : j < len + 1 := hj
        show insR l i q j < i + 1 ∧ pr (insR l i q j) = true
        unfold insR
        by_cases w1 : j < q
        · rw [if_pos w1]; have := g2 j (by omega); exact ⟨by omega, this.2⟩
        · rw [if_neg w1]
          by_cases w2 : j = q
          · rw [if_pos w2]; exact ⟨by omega, c⟩
          · rw [if_neg w2]; have := g2 (j - 1) (by omega); exact ⟨by omega, this.2⟩
      · show ∃ j, j < len + 1 ∧ insR l i q j = a
        unfold insR
        by_cases w : a = i
        · exact ⟨q, by omega, by rw [if_neg (Nat.lt_irrefl q), if_pos rfl, w]⟩
        · obtain ⟨j, hj, e⟩ := g3 a (by omega) h2
          by_cases w1 : j < q
          · exact ⟨j, by omega, by rw [if_pos w1]; exact e⟩
          · exact ⟨j + 1, by omega, by rw [if_neg (by omega), if_neg (by omega)]; exact e⟩
      · have h2 : j' < len + 1 := h2
        show ah (insR l i q j) (insR l i q j') = true
        unfold insR
        by_cases w1 : j < q
        · rw [if_pos w1]
          by_cases w2 : j' < q
          · rw [if_pos w2]; exact g4 j j' h1 (by omega)
          · rw [if_neg w2]
            by_cases w3 : j' = q
            · rw [if_pos w3]; exact lo j w1
            · rw [if_neg w3]; exact g4 j (j' - 1) (by omega) (by omega)
        · rw [if_neg w1]
          by_cases w2 : j = q
          · rw [if_pos w2, if_neg (by omega), if_neg (by omega)]
            exact q1 (j' - 1) (by omega) (by omega)
          · rw [if_neg w2, if_neg (by omega), if_neg (by omega)]
            exact g4 (j - 1) (j' - 1) (by omega) (by omega)
    · rw [if_neg c]
      refine ⟨by omega, fun j hj => ⟨by have := (g2 j hj).1; omega, (g2 j hj).2⟩, fun a h1 h2 => ?_, g4⟩
      by_cases w : a = i
      · rw [w] at h2; exact absurd h2 c
      · exact g3 a (by omega) h2
