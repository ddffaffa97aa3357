/-! the list, on both sides -/
def tl (M : Mem) (f : Nat → Int32) (v : Int32) : Mem := up2 (upc M 23 f) 0 33 v
def lx (X : Mem) (f : Nat → Int32) (v : Int32) : Mem := up2 (upc X 20 f) 19 4 v
theorem upd_upd {f : Nat → Int32} {k : Nat} {v w : Int32} : upd (upd f k v) k w = upd f k w := by
  funext j
  unfold upd
  by_cases c : j = k
  · rw [if_pos c, if_pos c]
  · rw [if_neg c, if_neg c, if_neg c]
theorem tl_23 {M : Mem} {f : Nat → Int32} {v : Int32} {j : Nat} {w : Int32} : up2 (tl M f v) 23 j w = tl M (upd f j w) v := by
  funext a
  unfold tl
  by_cases c : a = 23
  · rw [c]; rfl
  · rw [up2_n c]
    by_cases c0 : a = 0
    · rw [c0]; rfl
    · rw [up2_n c0, up2_n c0, upc_n c, upc_n c]
theorem tl_33 {M : Mem} {f : Nat → Int32} {v w : Int32} : up2 (tl M f v) 0 33 w = tl M f w := by
  funext a
  unfold tl
  by_cases c0 : a = 0
  · rw [c0, up2_s, up2_s, up2_s, upd_upd]
  · rw [up2_n c0, up2_n c0, up2_n c0]
theorem tl_0 {M : Mem} {v : Int32} : up2 M 0 33 v = tl M (M 23) v := by
  funext a
  unfold tl
  by_cases c0 : a = 0
  · rw [c0]; rfl
  · rw [up2_n c0, up2_n c0]
    by_cases c : a = 23
    · rw [c]; rfl
    · rw [upc_n c]
theorem lx_20 {X : Mem} {f g : Nat → Int32} {v : Int32} : upc (lx X f v) 20 g = lx X g v := by
  funext a
  unfold lx
  by_cases c : a = 20
  · rw [c]; rfl
  · rw [upc_n c]
    by_cases c0 : a = 19
    · rw [c0]; rfl
    · rw [up2_n c0, up2_n c0, upc_n c, upc_n c]
theorem lx_4 {X : Mem} {f : Nat → Int32} {v w : Int32} : up2 (lx X f v) 19 4 w = lx X f w := by
  funext a
  unfold lx
  by_cases c0 : a = 19
  · rw [c0, up2_s, up2_s, up2_s, upd_upd]
  · rw [up2_n c0, up2_n c0, up2_n c0]
theorem lx_0 {X : Mem} {v : Int32} : up2 X 19 4 v = lx X (X 20) v := by
  funext a
  unfold lx
  by_cases c0 : a = 19
  · rw [c0]; rfl
  · rw [up2_n c0, up2_n c0]
    by_cases c : a = 20
    · rw [c]; rfl
    · rw [upc_n c]
theorem ahB_tl {M : Mem} {f : Nat → Int32} {v : Int32} {nm nk : Nat} : ahB (tl M f v) nm nk = ahB M nm nk := rfl
theorem tl34_def (M : Mem) (f : Nat → Int32) (v z x : Int32) (kc : Mem → Int32 → Option Mem) (n : Nat) : fX9_tellList_34 z kc (n + 1) (tl M f v) x = if x ≤ 0 then gI x 20 (kc (tl M (upd f x.toNatClampNeg z) (v + 1)) (z + 1)) else gI (x - 1) 20 (ob1 (fX9_isAhead (tl M f v) z (f (x - 1).toNatClampNeg)) (fun r9 => if r9 = 0 then gI x 20 (kc (tl M (upd f x.toNatClampNeg z) (v + 1)) (z + 1)) else gI (x - 1) 20 (gI x 20 (fX9_tellList_34 z kc n (tl M (upd f x.toNatClampNeg (f (x - 1).toNatClampNeg)) v) (x + (-1)))))) := by
  rw [fX9_tellList_34, tl_23, tl_33, tl_23]
  rfl
theorem lx41_def (X : Mem) (f : Nat → Int32) (v z x : Int32) (kc : Mem → Int32 → Option Mem) (n : Nat) : fX2_lay_41 z kc (n + 1) (lx X f v) x = if x ≤ 0 then kc (lx X (setF f 20 x z) (v + 1)) (z + 1) else ob1 (fX5_isAhead 5 (lx X f v) z (atF f 20 (x - 1))) (fun r14 => if r14 = 0 then kc (lx X (setF f 20 x z) (v + 1)) (z + 1) else fX2_lay_41 z kc n (lx X (setF f 20 x (atF f 20 (x - 1))) v) (x + (-1))) := by
  rw [fX2_lay_41]
  simp only [lx_20, lx_4, fX2_askingAt, ob1_some]
  rfl
theorem nI_m1 (p : Nat) : nI (p + 1) + (-1) = nI p := (Int32.sub_eq_add_neg (a := nI (p + 1)) (b := 1)).symm.trans (nI_pred p)
theorem bI_t : bI true = 1 := rfl
theorem bI_f : bI false = 0 := rfl
theorem tellM_in {k nm na nk a len : Nat} {X M : Mem} (h1 : rRos nm X M) (h2 : rSta k nm na X M) (h5 : rKey nk X M) (ha : a < na) {l : Nat → Nat} (hl : ∀ j, j < len → l j < na) (hlen : len < 20) (kc : Mem → Int32 → Option Mem) : ∀ p n (f : Nat → Int32), p ≤ len → p < n → (∀ j, j < p → f j = nI (l j)) → (∀ j, p < j → j ≤ len → f j = nI (l (j - 1))) → ∃ g, fX9_tellList_34 (nI a) kc n (tl M f (nI len)) (nI p) = kc (tl M g (nI (len + 1))) (nI (a + 1)) ∧ ∀ j, j ≤ len → g j = nI (insR l a (insP (ahB M nm nk) l a p) j) := by
  intro p
  induction p with
  | zero =>
    intro n f hp hn f1 f2
    obtain ⟨n', rfl⟩ : ∃ n', n = n' + 1 := ⟨n - 1, by omega⟩
    rw [tl34_def, if_pos (show nI 0 ≤ 0 by decide), gI_nI (show 0 < 20 by omega) (by decide), nI_1, nI_1, nI_clamp (by omega)]
    refine ⟨_, rfl, fun j hj => ?_⟩
    unfold insP insR
    rw [if_neg (Nat.not_lt_zero j)]
    by_cases c : j = 0
    · rw [if_pos c, c, upd_s]
    · rw [if_neg c, upd_n c]; exact f2 j (by omega) hj
  | succ p ih =>
    intro n f hp hn f1 f2
    obtain ⟨n', rfl⟩ : ∃ n', n = n' + 1 := ⟨n - 1, by omega⟩
    rw [tl34_def, if_neg (nI_nle (by omega) (by omega)), nI_pred, gI_nI (show p < 20 by omega) (by decide), nI_clamp (show p < 2 ^ 31 by omega), nI_clamp (show p + 1 < 2 ^ 31 by omega), f1 p (by omega), aheadM (X := X) (k := k) (M := tl M f (nI len)) h1 h2 h5 ha (hl p (by omega)), ob1_some, ahB_tl, gI_nI (show p < 20 by omega) (by decide), gI_nI (show p + 1 < 20 by omega) (by decide), gI_nI (show p + 1 < 20 by omega) (by decide), nI_1, nI_1, nI_m1]
    by_cases c : ahB M nm nk a (l p) = true
    · rw [c, bI_t, if_neg n10, insP, if_pos c]
      refine ih n' _ (by omega) (by omega) (fun j hj => ?_) (fun j h1 h2 => ?_)
      · rw [upd_n (by omega)]; exact f1 j (by omega)
      · by_cases q : j = p + 1
        · rw [q, upd_s]; rfl
        · rw [upd_n q]; exact f2 j (by omega) h2
    · have c' : ahB M nm nk a (l p) = false := by
        cases q : ahB M nm nk a (l p)
        · rfl
        · exact absurd q c
      rw [c', bI_f, if_pos rfl, insP, if_neg c]
      refine ⟨_, rfl, fun j hj => ?_⟩
      unfold insR
      by_cases q1 : j < p + 1
      · rw [if_pos q1, upd_n (by omega)]; exact f1 j q1
      · rw [if_neg q1]
        by_cases q2 : j = p + 1
        · rw [if_pos q2, q2, upd_s]
        · rw [if_neg q2, upd_n q2]; exact f2 j (by omega) hj
theorem layX_in {nm na nk a len : Nat} {X M : Mem} (h1 : rRos nm X M) (h2 : rSta 5 nm na X M) (h5 : rKey nk X M) (ha : a < na) {l : Nat → Nat} (hl : ∀ j, j < len → l j < na) (hlen : len < 20) (kc : Mem → Int32 → Option Mem) : ∀ p n (f : Nat → Int32), p ≤ len → p < n → (∀ j, j < p → f j = nI (l j)) → (∀ j, p < j → j ≤ len → f j = nI (l (j - 1))) → ∃ g, fX2_lay_41 (nI a) kc n (lx X f (nI len)) (nI p) = kc (lx X g (nI (len + 1))) (nI (a + 1)) ∧ ∀ j, j ≤ len → g j = nI (insR l a (insP (ahB M nm nk) l a p) j) := by
  intro p
  induction p with
  | zero =>
    intro n f hp hn f1 f2
    obtain ⟨n', rfl⟩ : ∃ n', n = n' + 1 := ⟨n - 1, by omega⟩
    rw [lx41_def, if_pos (show nI 0 ≤ 0 by decide), setF_nI (show 0 < 20 by omega) (by decide), nI_1, nI_1]
    refine ⟨_, rfl, fun j hj => ?_⟩
    unfold insP insR
    rw [if_neg (Nat.not_lt_zero j)]
    by_cases c : j = 0
    · rw [if_pos c, c, upd_s]
    · rw [if_neg c, upd_n c]; exact f2 j (by omega) hj
  | succ p ih =>
    intro n f hp hn f1 f2
    obtain ⟨n', rfl⟩ : ∃ n', n = n' + 1 := ⟨n - 1, by omega⟩
    rw [lx41_def, if_neg (nI_nle (by omega) (by omega)), nI_pred, atF_nI (show p < 20 by omega) (by decide), f1 p (by omega), aheadX (k := 5) (X := lx X f (nI len)) (M := M) h1 h2 h5 ha (hl p (by omega)), ob1_some, setF_nI (show p + 1 < 20 by omega) (by decide), setF_nI (show p + 1 < 20 by omega) (by decide), nI_1, nI_1, nI_m1]
    by_cases c : ahB M nm nk a (l p) = true
    · rw [c, bI_t, if_neg n10, insP, if_pos c]
      refine ih n' _ (by omega) (by omega) (fun j hj => ?_) (fun j h1 h2 => ?_)
      · rw [upd_n (by omega)]; exact f1 j (by omega)
      · by_cases q : j = p + 1
        · rw [q, upd_s]; rfl
        · rw [upd_n q]; exact f2 j (by omega) h2
    · have c' : ahB M nm nk a (l p) = false := by
        cases q : ahB M nm nk a (l p)
        · rfl
        · exact absurd q c
      rw [c', bI_f, if_pos rfl, insP, if_neg c]
      refine ⟨_, rfl, fun j hj => ?_⟩
      unfold insR
      by_cases q1 : j < p + 1
      · rw [if_pos q1, upd_n (by omega)]; exact f1 j q1
      · rw [if_neg q1]
        by_cases q2 : j = p + 1
        · rw [if_pos q2, q2, upd_s]
        · rw [if_neg q2, upd_n q2]; exact f2 j (by omega) hj
def prF (M : Mem) (i : Nat) : Bool := decide (¬ M 3 (mI M i) = 0)
def lsF (M : Mem) (nm nk i : Nat) : Nat × (Nat → Nat) := lstF (ahB M nm nk) (prF M) i
theorem isL_lsF (M : Mem) (nm nk i : Nat) : isL (ahB M nm nk) (prF M) i (lsF M nm nk i).1 (lsF M nm nk i).2 := isL_lstF (isO_ahB M nm nk) (prF M) i
theorem lsF_no {M : Mem} {nm nk i : Nat} (c : M 3 (mI M i) = 0) : lsF M nm nk (i + 1) = lsF M nm nk i := by
  unfold lsF
  rw [lstF, if_neg (show ¬ prF M i = true from fun h => absurd c (of_decide_eq_true (p := ¬ M 3 (mI M i) = 0) h))]
theorem lsF_ye {M : Mem} {nm nk i : Nat} (c : ¬ M 3 (mI M i) = 0) : lsF M nm nk (i + 1) = ((lsF M nm nk i).1 + 1, insR (lsF M nm nk i).2 i (insP (ahB M nm nk) (lsF M nm nk i).2 i (lsF M nm nk i).1)) := by
  unfold lsF
  rw [lstF, if_pos (show prF M i = true from decide_eq_true c)]
theorem tl7_def (M : Mem) (f : Nat → Int32) (v x : Int32) (n : Nat) : fX9_tellList_7 (n + 1) (tl M f v) x = if M 0 6 ≤ x then some (tl M f v) else gI x 20 (gI (M 6 x.toNatClampNeg) 10 (if M 3 (M 6 x.toNatClampNeg).toNatClampNeg = 0 then fX9_tellList_7 n (tl M f v) (x + 1) else fX9_tellList_34 x (fX9_tellList_7 n) fu (tl M f v) v)) := rfl
theorem lx7_def (X : Mem) (f : Nat → Int32) (v x : Int32) (n : Nat) : fX2_lay_7 (n + 1) (lx X f v) x = if X 5 6 ≤ x then some (lx X f v) else ob1 (fX4_isHere (lx X f v) (atF (X 6) 20 x)) (fun r7 => if r7 = 0 then fX2_lay_7 n (lx X f v) (x + 1) else fX2_lay_41 x (fX2_lay_7 n) fu (lx X f v) v) := rfl
theorem tellM_out {k nm na nk : Nat} {X M : Mem} (h1 : rRos nm X M) (h2 : rSta k nm na X M) (h5 : rKey nk X M) : ∀ j i n (f : Nat → Int32), i + j = na → j < n → (∀ c, c < (lsF M nm nk i).1 → f c = nI ((lsF M nm nk i).2 c)) → ∃ g, fX9_tellList_7 n (tl M f (nI (lsF M nm nk i).1)) (nI i) = some (tl M g (nI (lsF M nm nk na).1)) ∧ ∀ c, c < (lsF M nm nk na).1 → g c = nI ((lsF M nm nk na).2 c) := by
  have hn := h1.1
  have hn2 := h2.1
  have hf := fu_gt
  intro j
  induction j with
  | zero =>
    intro i n f hi hn' hc
    obtain ⟨n', rfl⟩ : ∃ n', n = n' + 1 := ⟨n - 1, by omega⟩
    have e : i = na := by omega
    subst e
    rw [tl7_def, h2.2.2.1, if_pos (nI_le (Nat.le_refl i) (by omega))]
    exact ⟨f, rfl, hc⟩
  | succ j ih =>
    intro i n f hi hn' hc
    obtain ⟨n', rfl⟩ : ∃ n', n = n' + 1 := ⟨n - 1, by omega⟩
    obtain ⟨m, hm, em⟩ := h2.2.2.2.2.2.2.2.2.2.1 i (by omega)
    have e0 : mI M i = m := by unfold mI; rw [em]; exact nI_clamp (by omega)
    obtain ⟨g1, g2, g3, g4⟩ := isL_lsF M nm nk i
    rw [tl7_def, h2.2.2.1, if_neg (nI_ge (by omega) (by omega)), gI_nI (show i < 20 by omega) (by decide), nI_clamp (show i < 2 ^ 31 by omega), em, gI_nI (show m < 10 by omega) (by decide), nI_clamp (show m < 2 ^ 31 by omega)]
    by_cases c : M 3 m = 0
    · rw [if_pos c, nI_1, ← lsF_no (nm := nm) (nk := nk) (show M 3 (mI M i) = 0 by rw [e0]; exact c)]
      refine ih (i + 1) n' f (by omega) (by omega) ?_
      rw [lsF_no (show M 3 (mI M i) = 0 by rw [e0]; exact c)]
      exact hc
    · rw [if_neg c]
      obtain ⟨g, e1, e2⟩ := tellM_in h1 h2 h5 (show i < na by omega) (l := (lsF M nm nk i).2) (fun j hj => by have := (g2 j hj).1; omega) (show (lsF M nm nk i).1 < 20 by omega) (fX9_tellList_7 n') (lsF M nm nk i).1 fu f (Nat.le_refl _) (by omega) hc (fun j q1 q2 => by omega)
      rw [e1]
      have e3 := lsF_ye (nm := nm) (nk := nk) (show ¬ M 3 (mI M i) = 0 by rw [e0]; exact c)
      have e4 := ih (i + 1) n' g (by omega) (by omega)
      rw [e3] at e4
      exact e4 (fun c hc => e2 c (Nat.le_of_lt_succ hc))
theorem layX_out {nm na nk : Nat} {X M : Mem} (h1 : rRos nm X M) (h2 : rSta 5 nm na X M) (h5 : rKey nk X M) : ∀ j i n (f : Nat → Int32), i + j = na → j < n → (∀ c, c < (lsF M nm nk i).1 → f c = nI ((lsF M nm nk i).2 c)) → ∃ g, fX2_lay_7 n (lx X f (nI (lsF M nm nk i).1)) (nI i) = some (lx X g (nI (lsF M nm nk na).1)) ∧ ∀ c, c < (lsF M nm nk na).1 → g c = nI ((lsF M nm nk na).2 c) := by
  have hn := h1.1
  have hn2 := h2.1
  have hf := fu_gt
  intro j
  induction j with
  | zero =>
    intro i n f hi hn' hc
    obtain ⟨n', rfl⟩ : ∃ n', n = n' + 1 := ⟨n - 1, by omega⟩
    have e : i = na := by omega
    subst e
    rw [lx7_def, h2.2.1, if_pos (nI_le (Nat.le_refl i) (by omega))]
    exact ⟨f, rfl, hc⟩
  | succ j ih =>
    intro i n f hi hn' hc
    obtain ⟨n', rfl⟩ : ∃ n', n = n' + 1 := ⟨n - 1, by omega⟩
    obtain ⟨m, hm, em⟩ := h2.2.2.2.2.2.2.2.2.2.1 i (by omega)
    have e0 : mI M i = m := by unfold mI; rw [em]; exact nI_clamp (by omega)
    obtain ⟨g1, g2, g3, g4⟩ := isL_lsF M nm nk i
    rw [lx7_def, h2.2.1, if_neg (nI_ge (by omega) (by omega)), atF_nI (show i < 20 by omega) (by decide), h2.2.2.2.1 i (by omega), em, here_eq (X := lx X f (nI (lsF M nm nk i).1)) h1 (show m < 10 by omega), ob1_some]
    by_cases c : M 3 m = 0
    · rw [if_pos c, nI_1, ← lsF_no (nm := nm) (nk := nk) (show M 3 (mI M i) = 0 by rw [e0]; exact c)]
      refine ih (i + 1) n' f (by omega) (by omega) ?_
      rw [lsF_no (show M 3 (mI M i) = 0 by rw [e0]; exact c)]
      exact hc
    · rw [if_neg c]
      obtain ⟨g, e1, e2⟩ := layX_in h1 h2 h5 (show i < na by omega) (l := (lsF M nm nk i).2) (fun j hj => by have := (g2 j hj).1; omega) (show (lsF M nm nk i).1 < 20 by omega) (fX2_lay_7 n') (lsF M nm nk i).1 fu f (Nat.le_refl _) (by omega) hc (fun j q1 q2 => by omega)
      rw [e1]
      have e3 := lsF_ye (nm := nm) (nk := nk) (show ¬ M 3 (mI M i) = 0 by rw [e0]; exact c)
      have e4 := ih (i + 1) n' g (by omega) (by omega)
      rw [e3] at e4
      exact e4 (fun c hc => e2 c (Nat.le_of_lt_succ hc))
theorem tellM_all {k nm na nk : Nat} {X M : Mem} (h1 : rRos nm X M) (h2 : rSta k nm na X M) (h5 : rKey nk X M) : ∃ g, fX9_tellList M = some (tl M g (nI (lsF M nm nk na).1)) ∧ ∀ c, c < (lsF M nm nk na).1 → g c = nI ((lsF M nm nk na).2 c) := by
  unfold fX9_tellList
  rw [tl_0]
  exact tellM_out h1 h2 h5 na 0 fu (M 23) (by omega) (by have := fu_gt; have := h2.1; omega) (fun c hc => absurd hc (Nat.not_lt_zero c))
theorem layX_all {nm na nk : Nat} {X M : Mem} (h1 : rRos nm X M) (h2 : rSta 5 nm na X M) (h5 : rKey nk X M) : ∃ g, fX2_lay X = some (lx X g (nI (lsF M nm nk na).1)) ∧ ∀ c, c < (lsF M nm nk na).1 → g c = nI ((lsF M nm nk na).2 c) := by
  unfold fX2_lay
  rw [lx_0]
  exact layX_out h1 h2 h5 na 0 fu (X 20) (by omega) (by have := fu_gt; have := h2.1; omega) (fun c hc => absurd hc (Nat.not_lt_zero c))
