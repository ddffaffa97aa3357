theorem findX_loop {k nm na : Nat} {X M : Mem} {m s : Int32} (h : rSta k nm na X M) : ∀ j i n, i + j = na → j < n → (fX7_find_2 k X m s n (nI i) = some (-1) ∧ ∀ c, i ≤ c → c < na → ¬ (M 6 c = m ∧ M 7 c = s)) ∨ ∃ c, i ≤ c ∧ c < na ∧ fX7_find_2 k X m s n (nI i) = some (nI c) ∧ M 6 c = m ∧ M 7 c = s := by
  obtain ⟨p1, p2, p3, p4, p5, p6, p7, p8, p9, p10, p11⟩ := h
  intro j
  induction j with
  | zero =>
    intro i n hi hn
    obtain ⟨n', rfl⟩ : ∃ n', n = n' + 1 := ⟨n - 1, by omega⟩
    rw [fX7_find_2, p2, if_pos (nI_le (by omega) (by omega))]
    exact Or.inl ⟨rfl, fun c h1 h2 => by omega⟩
  | succ j ih =>
    intro i n hi hn
    obtain ⟨n', rfl⟩ : ∃ n', n = n' + 1 := ⟨n - 1, by omega⟩
    have rec_ : ¬ (M 6 i = m ∧ M 7 i = s) → (fX7_find_2 k X m s n' (nI (i + 1)) = some (-1) ∧ ∀ c, i ≤ c → c < na → ¬ (M 6 c = m ∧ M 7 c = s)) ∨ ∃ c, i ≤ c ∧ c < na ∧ fX7_find_2 k X m s n' (nI (i + 1)) = some (nI c) ∧ M 6 c = m ∧ M 7 c = s := by
      intro hne
      rcases ih (i + 1) n' (by omega) (by omega) with ⟨e, h⟩ | ⟨c, h1, h2, h3⟩
      · refine Or.inl ⟨e, fun c h1 h2 => ?_⟩
        by_cases q : c = i
        · rw [q]; exact hne
        · exact h c (by omega) h2
      · exact Or.inr ⟨c, by omega, h2, h3⟩
    rw [fX7_find_2, p2, if_neg (nI_ge (by omega) (by omega)), fX7_memberAt, fX7_sortAt, ob1_some, ob1_some, atF_nI (show i < 20 by omega) (by decide), atF_nI (show i < 20 by omega) (by decide), p4 i (by omega), p5 i (by omega), nI_1]
    by_cases c1 : M 6 i = m
    · rw [if_pos c1]
      by_cases c2 : M 7 i = s
      · rw [if_pos c2]
        exact Or.inr ⟨i, Nat.le_refl i, by omega, rfl, c1, c2⟩
      · rw [if_neg c2]; exact rec_ (fun q => c2 q.2)
    · rw [if_neg c1]; exact rec_ (fun q => c1 q.1)
theorem findM_loop {k nm na : Nat} {X M : Mem} {m s : Int32} (h : rSta k nm na X M) : ∀ j i n (acc : Int32), i + j = na → j < n → (fX9_askingOf_5 M m s n acc (nI i) = some acc ∧ ∀ c, i ≤ c → c < na → ¬ (M 6 c = m ∧ M 7 c = s)) ∨ ∃ c, i ≤ c ∧ c < na ∧ fX9_askingOf_5 M m s n acc (nI i) = some (nI c) ∧ M 6 c = m ∧ M 7 c = s := by
  obtain ⟨p1, p2, p3, p4, p5, p6, p7, p8, p9, p10, p11⟩ := h
  intro j
  induction j with
  | zero =>
    intro i n acc hi hn
    obtain ⟨n', rfl⟩ : ∃ n', n = n' + 1 := ⟨n - 1, by omega⟩
    rw [fX9_askingOf_5, p3, if_pos (nI_le (by omega) (by omega))]
    exact Or.inl ⟨rfl, fun c h1 h2 => by omega⟩
  | succ j ih =>
    intro i n acc hi hn
    obtain ⟨n', rfl⟩ : ∃ n', n = n' + 1 := ⟨n - 1, by omega⟩
    have rec_ : ¬ (M 6 i = m ∧ M 7 i = s) → (fX9_askingOf_5 M m s n' acc (nI (i + 1)) = some acc ∧ ∀ c, i ≤ c → c < na → ¬ (M 6 c = m ∧ M 7 c = s)) ∨ ∃ c, i ≤ c ∧ c < na ∧ fX9_askingOf_5 M m s n' acc (nI (i + 1)) = some (nI c) ∧ M 6 c = m ∧ M 7 c = s := by
      intro hne
      rcases ih (i + 1) n' acc (by omega) (by omega) with ⟨e, h⟩ | ⟨c, h1, h2, h3⟩
      · refine Or.inl ⟨e, fun c h1 h2 => ?_⟩
        by_cases q : c = i
        · rw [q]; exact hne
        · exact h c (by omega) h2
      · exact Or.inr ⟨c, by omega, h2, h3⟩
    rw [fX9_askingOf_5, p3, if_neg (nI_ge (by omega) (by omega)), gI_nI (show i < 20 by omega) (by decide), gI_nI (show i < 20 by omega) (by decide), nI_clamp (by omega), nI_1]
    by_cases c1 : M 6 i = m
    · rw [if_pos c1]
      by_cases c2 : M 7 i = s
      · rw [if_pos c2]
        rcases ih (i + 1) n' (nI i) (by omega) (by omega) with ⟨e, h⟩ | ⟨c, h1, h2, h3⟩
        · exact Or.inr ⟨i, Nat.le_refl i, by omega, e, c1, c2⟩
        · exact Or.inr ⟨c, by omega, h2, h3⟩
      · rw [if_neg c2]; exact rec_ (fun q => c2 q.2)
    · rw [if_neg c1]; exact rec_ (fun q => c1 q.1)
theorem find_both {k nm na : Nat} {X M : Mem} (h : rSta k nm na X M) (hu : rUni na M) (m s : Int32) : (fX7_find k X m s = some (-1) ∧ fX9_askingOf M m s = some (-1) ∧ ∀ c, c < na → ¬ (M 6 c = m ∧ M 7 c = s)) ∨ ∃ c, c < na ∧ fX7_find k X m s = some (nI c) ∧ fX9_askingOf M m s = some (nI c) ∧ M 6 c = m ∧ M 7 c = s := by
  have hf := fu_gt
  have hn := h.1
  rcases findX_loop (m := m) (s := s) h na 0 fu (by omega) (by omega) with ⟨e1, g1⟩ | ⟨c, c1, c2, c3, c4, c5⟩
  · rcases findM_loop (m := m) (s := s) h na 0 fu (-1) (by omega) (by omega) with ⟨e2, g2⟩ | ⟨d, d1, d2, d3, d4, d5⟩
    · exact Or.inl ⟨e1, e2, fun c hc => g1 c (by omega) hc⟩
    · exact absurd ⟨d4, d5⟩ (g1 d d1 d2)
  · rcases findM_loop (m := m) (s := s) h na 0 fu (-1) (by omega) (by omega) with ⟨e2, g2⟩ | ⟨d, d1, d2, d3, d4, d5⟩
    · exact absurd ⟨c4, c5⟩ (g2 c c1 c2)
    · have := hu c d c2 d2 (c4.trans d4.symm) (c5.trans d5.symm)
      subst this
      exact Or.inr ⟨c, c2, c3, d3, c4, c5⟩
def dlF (f : Nat → Int32) (p na j : Nat) : Int32 := if p ≤ j ∧ j + 1 < na then f (j + 1) else f j
theorem dropX_loop {k p na : Nat} {X : Mem} {z : Int32} (hk : isSt k) (hn : na ≤ 20) : ∀ j i n (Y : Mem), i + j + 1 = na → p ≤ i → j < n → Y k = X k → X k 6 = nI na → (∀ a, a ≠ k → a ≠ k + 1 → a ≠ k + 2 → Y a = X a) → (∀ c, c < 20 → Y (k + 1) c = if p ≤ c ∧ c < i then X (k + 1) (c + 1) else X (k + 1) c) → (∀ c, c < 20 → Y (k + 2) c = if p ≤ c ∧ c < i then X (k + 2) (c + 1) else X (k + 2) c) → ∃ Z : Mem, fX7_drop_15 k z n Y (nI i) = some Z ∧ Z k = upd (X k) 6 (nI (na - 1)) ∧ (∀ a, a ≠ k → a ≠ k + 1 → a ≠ k + 2 → Z a = X a) ∧ (∀ c, c < 20 → Z (k + 1) c = dlF (X (k + 1)) p na c) ∧ ∀ c, c < 20 → Z (k + 2) c = dlF (X (k + 2)) p na c := by
  intro j
  induction j with
  | zero =>
    intro i n Y hi hp hf hYk h6 hY h1 h2
    obtain ⟨n', rfl⟩ : ∃ n', n = n' + 1 := ⟨n - 1, by omega⟩
    rw [fX7_drop_15, hYk, h6, nI_1, if_pos (nI_le (by omega) (by omega))]
    have e : nI na - 1 = nI (na - 1) := by
      have := nI_pred (na - 1)
      rw [show na - 1 + 1 = na by omega] at this
      exact this
    refine ⟨_, rfl, ?_, fun a a1 a2 a3 => by rw [up2_n a1]; exact hY a a1 a2 a3, fun c hc => ?_, fun c hc => ?_⟩
    · rw [up2_s, hYk, e]
    · rw [up2_n (by omega), h1 c hc]
      unfold dlF
      by_cases q : p ≤ c ∧ c < i
      · rw [if_pos q, if_pos (by omega)]
      · rw [if_neg q, if_neg (by omega)]
    · rw [up2_n (by omega), h2 c hc]
      unfold dlF
      by_cases q : p ≤ c ∧ c < i
      · rw [if_pos q, if_pos (by omega)]
      · rw [if_neg q, if_neg (by omega)]
  | succ j ih =>
    intro i n Y hi hp hf hYk h6 hY h1 h2
    obtain ⟨n', rfl⟩ : ∃ n', n = n' + 1 := ⟨n - 1, by omega⟩
    have hk12 : k + 2 ≠ k + 1 := by omega
    have v1 : Y (k + 1) (i + 1) = X (k + 1) (i + 1) := by rw [h1 _ (by omega), if_neg (by omega)]
    have v2 : Y (k + 2) (i + 1) = X (k + 2) (i + 1) := by rw [h2 _ (by omega), if_neg (by omega)]
    rw [fX7_drop_15, hYk, h6, nI_1, if_neg (nI_ge (by omega) (by omega)), fX7_memberAt, ob1_some, fX7_sortAt, ob1_some, upc_n hk12, atF_nI (show i + 1 < 20 by omega) (by decide), atF_nI (show i + 1 < 20 by omega) (by decide), setF_nI (show i < 20 by omega) (by decide), setF_nI (show i < 20 by omega) (by decide), v1, v2]
    refine ih (i + 1) n' _ (by omega) (by omega) (by omega) ?_ h6 (fun a a1 a2 a3 => ?_) (fun c hc => ?_) (fun c hc => ?_)
    · rw [upc_n (by omega), upc_n (by omega)]; exact hYk
    · rw [upc_n a3, upc_n a2]; exact hY a a1 a2 a3
    · rw [upc_n (by omega), upc_s]
      by_cases q : c = i
      · rw [q, upd_s, if_pos (by omega)]
      · rw [upd_n q, h1 c hc]
        by_cases w : p ≤ c ∧ c < i
        · rw [if_pos w, if_pos (by omega)]
        · rw [if_neg w, if_neg (by omega)]
    · rw [upc_s]
      by_cases q : c = i
      · rw [q, upd_s, if_pos (by omega)]
      · rw [upd_n q, h2 c hc]
        by_cases w : p ≤ c ∧ c < i
        · rw [if_pos w, if_pos (by omega)]
        · rw [if_neg w, if_neg (by omega)]
theorem goes_def (z1 : Int32) (n : Nat) (mem : Mem) (x2 : Int32) : fX9_goes_12 z1 (n + 1) mem x2 = if mem 0 6 ≤ x2 then (some mem) else (gI (x2 + 1) 20 (gI x2 20 (gI (x2 + 1) 20 (gI x2 20 (fX9_goes_12 z1 n (up2 (up2 mem 6 x2.toNatClampNeg (mem 6 (x2 + 1).toNatClampNeg)) 7 x2.toNatClampNeg (mem 7 (x2 + 1).toNatClampNeg)) (x2 + 1)))))) := rfl
theorem goesM_loop {p na : Nat} {M : Mem} {z : Int32} (hn : na ≤ 20) : ∀ j i n (Y : Mem), i + j + 1 = na → p ≤ i → j < n → Y 0 = upd (M 0) 6 (nI (na - 1)) → (∀ a, a ≠ 0 → a ≠ 6 → a ≠ 7 → Y a = M a) → (∀ c, c < 20 → Y 6 c = if p ≤ c ∧ c < i then M 6 (c + 1) else M 6 c) → (∀ c, c < 20 → Y 7 c = if p ≤ c ∧ c < i then M 7 (c + 1) else M 7 c) → ∃ Z : Mem, fX9_goes_12 z n Y (nI i) = some Z ∧ Z 0 = upd (M 0) 6 (nI (na - 1)) ∧ (∀ a, a ≠ 0 → a ≠ 6 → a ≠ 7 → Z a = M a) ∧ (∀ c, c < 20 → Z 6 c = dlF (M 6) p na c) ∧ ∀ c, c < 20 → Z 7 c = dlF (M 7) p na c := by
  intro j
  induction j with
  | zero =>
    intro i n Y hi hp hf hY0 hY h1 h2
    obtain ⟨n', rfl⟩ : ∃ n', n = n' + 1 := ⟨n - 1, by omega⟩
    rw [goes_def, hY0, upd_s, if_pos (nI_le (by omega) (by omega))]
    refine ⟨_, rfl, hY0, hY, fun c hc => ?_, fun c hc => ?_⟩
    · rw [h1 c hc]
      unfold dlF
      by_cases q : p ≤ c ∧ c < i
      · rw [if_pos q, if_pos (by omega)]
      · rw [if_neg q, if_neg (by omega)]
    · rw [h2 c hc]
      unfold dlF
      by_cases q : p ≤ c ∧ c < i
      · rw [if_pos q, if_pos (by omega)]
      · rw [if_neg q, if_neg (by omega)]
  | succ j ih =>
    intro i n Y hi hp hf hY0 hY h1 h2
    obtain ⟨n', rfl⟩ : ∃ n', n = n' + 1 := ⟨n - 1, by omega⟩
    have v1 : Y 6 (i + 1) = M 6 (i + 1) := by rw [h1 _ (by omega), if_neg (by omega)]
    have v2 : Y 7 (i + 1) = M 7 (i + 1) := by rw [h2 _ (by omega), if_neg (by omega)]
    rw [goes_def, hY0, upd_s, if_neg (nI_ge (by omega) (by omega)), nI_1, gI_nI (show i + 1 < 20 by omega) (by decide), gI_nI (show i < 20 by omega) (by decide), gI_nI (show i + 1 < 20 by omega) (by decide), gI_nI (show i < 20 by omega) (by decide), nI_clamp (show i < 2 ^ 31 by omega), nI_clamp (show i + 1 < 2 ^ 31 by omega), v1, v2]
    refine ih (i + 1) n' _ (by omega) (by omega) (by omega) ?_ (fun a a1 a2 a3 => ?_) (fun c hc => ?_) (fun c hc => ?_)
    · rw [up2_n (by omega), up2_n (by omega)]; exact hY0
    · rw [up2_n a3, up2_n a2]; exact hY a a1 a2 a3
    · rw [up2_n (by omega), up2_s]
      by_cases q : c = i
      · rw [q, upd_s, if_pos (by omega)]
      · rw [upd_n q, h1 c hc]
        by_cases w : p ≤ c ∧ c < i
        · rw [if_pos w, if_pos (by omega)]
        · rw [if_neg w, if_neg (by omega)]
    · rw [up2_s, up2_n (by omega)]
      by_cases q : c = i
      · rw [q, upd_s, if_pos (by omega)]
      · rw [upd_n q, h2 c hc]
        by_cases w : p ≤ c ∧ c < i
        · rw [if_pos w, if_pos (by omega)]
        · rw [if_neg w, if_neg (by omega)]
/-- an asking goes -/
theorem st_drop {k nm na p : Nat} {X M : Mem} (hk : isSt k) (h : rSta k nm na X M) (hp : p < na) : ∃ X' M' : Mem, fX7_drop k X (nI p) = some X' ∧ fX9_goes M (nI p) = some M' ∧ rSta k nm (na - 1) X' M' ∧ (rUni na M → rUni (na - 1) M') ∧ (∀ a, a ≠ k → a ≠ k + 1 → a ≠ k + 2 → X' a = X a) ∧ (∀ a, a ≠ 0 → a ≠ 6 → a ≠ 7 → M' a = M a) ∧ X' k = upd (X k) 6 (nI (na - 1)) ∧ M' 0 = upd (M 0) 6 (nI (na - 1)) ∧ (∀ c, c < 20 → M' 6 c = dlF (M 6) p na c) ∧ ∀ c, c < 20 → M' 7 c = dlF (M 7) p na c := by
  have hf := fu_gt
  obtain ⟨p1, p2, p3, p4, p5, p6, p7, p8, p9, p10, p11⟩ := h
  obtain ⟨X', x1, x2, x3, x4, x5⟩ := dropX_loop (X := X) (z := nI p) (p := p) hk p1 (na - p - 1) p fu X (by omega) (Nat.le_refl p) (by omega) rfl p2 (fun _ _ _ _ => rfl) (fun c _ => by rw [if_neg (by omega)]) (fun c _ => by rw [if_neg (by omega)])
  have e : nI na - 1 = nI (na - 1) := by
    have := nI_pred (na - 1)
    rw [show na - 1 + 1 = na by omega] at this
    exact this
  obtain ⟨M', y1, y2, y3, y4, y5⟩ := goesM_loop (M := M) (z := nI p) (p := p) p1 (na - p - 1) p fu (up2 M 0 6 (nI (na - 1))) (by omega) (Nat.le_refl p) (by omega) (by rw [up2_s]) (fun a a1 _ _ => up2_n a1) (fun c _ => by rw [up2_n (by omega), if_neg (by omega)]) (fun c _ => by rw [up2_n (by omega), if_neg (by omega)])
  refine ⟨X', M', ?_, ?_, ⟨by omega, ?_, ?_, fun j hj => ?_, fun j hj => ?_, ?_, ?_, ?_, ?_, fun j hj => ?_, fun j hj => ?_⟩, fun hu => ?_, x3, y3, x2, y2, y4, y5⟩
  · unfold fX7_drop
    rw [if_neg (nI_pos (by omega)), p2, if_pos (nI_lt hp (by omega))]
    exact x1
  · unfold fX9_goes
    rw [p3, e]; exact y1
  · rw [x2, upd_s]
  · rw [y2, upd_s]
  · rw [x4 j hj, y4 j hj]
    unfold dlF
    by_cases q : p ≤ j ∧ j + 1 < na
    · rw [if_pos q, if_pos q]; exact p4 _ (by omega)
    · rw [if_neg q, if_neg q]; exact p4 _ hj
  · rw [x5 j hj, y5 j hj]
    unfold dlF
    by_cases q : p ≤ j ∧ j + 1 < na
    · rw [if_pos q, if_pos q]; exact p5 _ (by omega)
    · rw [if_neg q, if_neg q]; exact p5 _ hj
  · rw [x3 (k + 3) (by omega) (by omega) (by omega), y3 4 (by omega) (by omega) (by omega)]; exact p6
  · rw [x3 (k + 4) (by omega) (by omega) (by omega), y3 5 (by omega) (by omega) (by omega)]; exact p7
  · rw [x2, y2, upd_n (by omega), upd_n (by omega)]; exact p8
  · rw [x3 (k + 5) (by omega) (by omega) (by omega), y3 2 (by omega) (by omega) (by omega), y3 4 (by omega) (by omega) (by omega)]; exact p9
  · rw [y4 j (by omega)]
    unfold dlF
    by_cases q : p ≤ j ∧ j + 1 < na
    · rw [if_pos q]; exact p10 _ (by omega)
    · rw [if_neg q]; exact p10 _ (by omega)
  · rw [y5 j (by omega)]
    unfold dlF
    by_cases q : p ≤ j ∧ j + 1 < na
    · rw [if_pos q]; exact p11 _ (by omega)
    · rw [if_neg q]; exact p11 _ (by omega)
  · intro i j hi hj h1 h2
    rw [y4 i (by omega), y4 j (by omega)] at h1
    rw [y5 i (by omega), y5 j (by omega)] at h2
    unfold dlF at h1 h2
    by_cases qi : p ≤ i ∧ i + 1 < na <;> by_cases qj : p ≤ j ∧ j + 1 < na
    · rw [if_pos qi, if_pos qj] at h1 h2
      have := hu (i + 1) (j + 1) (by omega) (by omega) h1 h2
      omega
    · rw [if_pos qi, if_neg qj] at h1 h2
      have := hu (i + 1) j (by omega) (by omega) h1 h2
      omega
    · rw [if_neg qi, if_pos qj] at h1 h2
      have := hu i (j + 1) (by omega) (by omega) h1 h2
      omega
    · rw [if_neg qi, if_neg qj] at h1 h2
      exact hu i j (by omega) (by omega) h1 h2
theorem appX_def {k : Nat} (hk : isSt k) (X : Mem) (a1 a2 : Int32) : fX7_append k X a1 a2 = if 20 ≤ X k 6 then some X else some (up2 (upc (upc X (k + 1) (setF (X (k + 1)) 20 (X k 6) a1)) (k + 2) (setF (X (k + 2)) 20 (X k 6) a2)) k 6 (X k 6 + 1)) := by
  rcases hk with rfl | rfl <;> rfl
theorem comes_def (M : Mem) (a1 a2 : Int32) : fX9_comes M a1 a2 = gI (M 0 6) 20 (gI (M 0 6) 20 (some (up2 (up2 (up2 M 6 (M 0 6).toNatClampNeg a1) 7 (M 0 6).toNatClampNeg a2) 0 6 (M 0 6 + 1)))) := rfl
/-- an asking comes -/
theorem st_app {k nm na m s : Nat} {X M : Mem} (hk : isSt k) (h : rSta k nm na X M) (hn : na < 20) (hm : m < nm) (hs : s < 3) : ∃ X' M' : Mem, fX7_append k X (nI m) (nI s) = some X' ∧ fX9_comes M (nI m) (nI s) = some M' ∧ rSta k nm (na + 1) X' M' ∧ (rUni na M → (∀ c, c < na → ¬ (M 6 c = nI m ∧ M 7 c = nI s)) → rUni (na + 1) M') ∧ (∀ a, a ≠ k → a ≠ k + 1 → a ≠ k + 2 → X' a = X a) ∧ (∀ a, a ≠ 0 → a ≠ 6 → a ≠ 7 → M' a = M a) ∧ X' k = upd (X k) 6 (nI (na + 1)) ∧ M' 0 = upd (M 0) 6 (nI (na + 1)) ∧ M' 6 = upd (M 6) na (nI m) ∧ M' 7 = upd (M 7) na (nI s) := by
  obtain ⟨p1, p2, p3, p4, p5, p6, p7, p8, p9, p10, p11⟩ := h
  refine ⟨up2 (upc (upc X (k + 1) (upd (X (k + 1)) na (nI m))) (k + 2) (upd (X (k + 2)) na (nI s))) k 6 (nI (na + 1)), up2 (up2 (up2 M 6 na (nI m)) 7 na (nI s)) 0 6 (nI (na + 1)), ?_, ?_, ⟨by omega, ?_, rfl, fun j hj => ?_, fun j hj => ?_, ?_, ?_, ?_, ?_, fun j hj => ?_, fun j hj => ?_⟩, fun hu hx => ?_, fun a a1 a2 a3 => ?_, fun a a1 a2 a3 => ?_, ?_, rfl, rfl, rfl⟩
  · rw [appX_def hk, p2, if_neg (show ¬ (20 : Int32) ≤ nI na from nI_ge (b := 20) hn (by decide)), setF_nI hn (by decide), setF_nI hn (by decide), nI_1]
  · rw [comes_def, p3, gI_nI hn (by decide), gI_nI hn (by decide), nI_clamp (by omega), nI_1]
  · rw [up2_s, upd_s]
  · rw [up2_n (by omega), upc_n (by omega), upc_s]
    show upd (X (k + 1)) na (nI m) j = upd (M 6) na (nI m) j
    unfold upd; rw [p4 j hj]
  · rw [up2_n (by omega), upc_s]
    show upd (X (k + 2)) na (nI s) j = upd (M 7) na (nI s) j
    unfold upd; rw [p5 j hj]
  · rw [up2_n (by omega), upc_n (by omega), upc_n (by omega)]; exact p6
  · rw [up2_n (by omega), upc_n (by omega), upc_n (by omega)]; exact p7
  · rw [up2_s, upd_n (by omega), upc_n (by omega), upc_n (by omega)]; exact p8
  · rw [up2_n (by omega), upc_n (by omega), upc_n (by omega)]; exact p9
  · show ∃ a, a < nm ∧ upd (M 6) na (nI m) j = nI a
    by_cases c : j = na
    · rw [c, upd_s]; exact ⟨m, hm, rfl⟩
    · rw [upd_n c]; exact p10 j (by omega)
  · show ∃ a, a < 3 ∧ upd (M 7) na (nI s) j = nI a
    by_cases c : j = na
    · rw [c, upd_s]; exact ⟨s, hs, rfl⟩
    · rw [upd_n c]; exact p11 j (by omega)
  · intro i j hi hj h1 h2
    have h1' : upd (M 6) na (nI m) i = upd (M 6) na (nI m) j := h1
    have h2' : upd (M 7) na (nI s) i = upd (M 7) na (nI s) j := h2
    by_cases ci : i = na <;> by_cases cj : j = na
    · omega
    · rw [ci, upd_s, upd_n cj] at h1' h2'
      exact absurd ⟨h1'.symm, h2'.symm⟩ (hx j (by omega))
    · rw [cj, upd_s, upd_n ci] at h1' h2'
      exact absurd ⟨h1', h2'⟩ (hx i (by omega))
    · rw [upd_n ci, upd_n cj] at h1' h2'
      exact hu i j (by omega) (by omega) h1' h2'
  · rw [up2_n a1, upc_n a3, upc_n a2]
  · rw [up2_n a1, up2_n a3, up2_n a2]
  · rw [up2_s, upc_n (by omega), upc_n (by omega)]
/-- what is not of the standing -/
def RelO (t nm nk nf nr ng nq : Nat) (X M : Mem) : Prop := rRos nm X M ∧ rKey nk X M ∧ rFlo nm nf X M ∧ rVot X M ∧ rMin (100 * t) nr ng X M ∧ rRig nq X M ∧ rShe X M ∧ rFnd X M
theorem Rel_O {t : Nat} {X M : Mem} (h : Rel t X M) : ∃ nm na nk nf nr ng nq, RelO t nm nk nf nr ng nq X M ∧ rSta 5 nm na X M ∧ rUni na M ∧ rTim (100 * t) nm M := by
  obtain ⟨nm, na, nk, nf, nr, ng, nq, h1, h2, h3, h4, h5, h6, h7, h8, h9, h10, h11⟩ := h
  exact ⟨nm, na, nk, nf, nr, ng, nq, ⟨h1, h5, h6, h7, h8, h9, h10, h11⟩, h2, h3, h4⟩
theorem Rel_I {t nm na nk nf nr ng nq : Nat} {X M : Mem} (h : RelO t nm nk nf nr ng nq X M) (h2 : rSta 5 nm na X M) (h3 : rUni na M) (h4 : rTim (100 * t) nm M) : Rel t X M := by
  obtain ⟨h1, h5, h6, h7, h8, h9, h10, h11⟩ := h
  exact ⟨nm, na, nk, nf, nr, ng, nq, h1, h2, h3, h4, h5, h6, h7, h8, h9, h10, h11⟩
/-- what stays when only the standing changes -/
theorem RelO_st {t nm nk nf nr ng nq : Nat} {X M X' M' : Mem} (h : RelO t nm nk nf nr ng nq X M) (hX : ∀ a, (a < 5 ∨ (16 < a ∧ a ≠ 19 ∧ a ≠ 20)) → X' a = X a) (hM : ∀ a, a ≠ 0 → a ≠ 4 → a ≠ 5 → a ≠ 6 → a ≠ 7 → a < 23 → M' a = M a) (h0 : ∀ j, j ≠ 6 → j ≠ 11 → j ≠ 33 → M' 0 j = M 0 j) : RelO (t + 1) nm nk nf nr ng nq X' M' := by
  obtain ⟨h1, h5, h6, h7, h8, h9, h10, h11⟩ := h
  have m1 := hM 1 (by omega) (by omega) (by omega) (by omega) (by omega) (by omega)
  have m2 := hM 2 (by omega) (by omega) (by omega) (by omega) (by omega) (by omega)
  have m3 := hM 3 (by omega) (by omega) (by omega) (by omega) (by omega) (by omega)
  have m8 := hM 8 (by omega) (by omega) (by omega) (by omega) (by omega) (by omega)
  have m9 := hM 9 (by omega) (by omega) (by omega) (by omega) (by omega) (by omega)
  have m10 := hM 10 (by omega) (by omega) (by omega) (by omega) (by omega) (by omega)
  have m11 := hM 11 (by omega) (by omega) (by omega) (by omega) (by omega) (by omega)
  have m12 := hM 12 (by omega) (by omega) (by omega) (by omega) (by omega) (by omega)
  have m13 := hM 13 (by omega) (by omega) (by omega) (by omega) (by omega) (by omega)
  have m14 := hM 14 (by omega) (by omega) (by omega) (by omega) (by omega) (by omega)
  have m15 := hM 15 (by omega) (by omega) (by omega) (by omega) (by omega) (by omega)
  have m16 := hM 16 (by omega) (by omega) (by omega) (by omega) (by omega) (by omega)
  have m17 := hM 17 (by omega) (by omega) (by omega) (by omega) (by omega) (by omega)
  have m18 := hM 18 (by omega) (by omega) (by omega) (by omega) (by omega) (by omega)
  have m19 := hM 19 (by omega) (by omega) (by omega) (by omega) (by omega) (by omega)
  have m20 := hM 20 (by omega) (by omega) (by omega) (by omega) (by omega) (by omega)
  have m21 := hM 21 (by omega) (by omega) (by omega) (by omega) (by omega) (by omega)
  have m22 := hM 22 (by omega) (by omega) (by omega) (by omega) (by omega) (by omega)
  refine ⟨?_, ?_, ?_, ?_, ?_, ?_, ?_, ?_⟩
  · unfold rRos; rw [hX 1 (by omega), hX 2 (by omega), hX 3 (by omega), hX 4 (by omega), h0 0 (by omega) (by omega) (by omega), m1, m2, m3]; exact h1
  · unfold rKey; rw [hX 17 (by omega), hX 18 (by omega), h0 9 (by omega) (by omega) (by omega), m8]; exact h5
  · unfold rFlo; rw [hX 21 (by omega), hX 22 (by omega), hX 23 (by omega), hX 24 (by omega), hX 25 (by omega), hX 26 (by omega), h0 12 (by omega) (by omega) (by omega), m9, m10, m11, m12, m13]; exact h6
  · unfold rVot; rw [hX 27 (by omega), hX 28 (by omega), h0 18 (by omega) (by omega) (by omega), m14]; exact h7
  · unfold rMin; rw [hX 29 (by omega), hX 30 (by omega), hX 31 (by omega), hX 32 (by omega), h0 20 (by omega) (by omega) (by omega), h0 21 (by omega) (by omega) (by omega), m15, m16, m17]
    exact ⟨h8.1, by have := h8.2.1; omega, h8.2.2⟩
  · unfold rRig; rw [hX 29 (by omega), hX 33 (by omega), hX 34 (by omega), h0 25 (by omega) (by omega) (by omega), m18, m19]; exact h9
  · unfold rShe; rw [hX 36 (by omega), hX 37 (by omega), hX 38 (by omega), hX 39 (by omega), hX 40 (by omega), hX 41 (by omega), hX 42 (by omega), hX 43 (by omega), m20, m21, m22]; exact h10
  · unfold rFnd; rw [hX 0 (by omega), h0 31 (by omega) (by omega) (by omega)]; exact h11
theorem rTim_up {t nm : Nat} {M M' : Mem} (h : rTim (100 * t) nm M) (e : M' 4 = M 4) : rTim (100 * (t + 1)) nm M' := by
  refine ⟨fun j hj => ?_, fun j h1 h2 => by rw [e]; exact h.2 j h1 h2⟩
  obtain ⟨u, hu, eu⟩ := h.1 j hj
  exact ⟨u, by omega, by rw [e]; exact eu⟩
theorem neg1_lt : (-1 : Int32) < 0 := by decide
theorem neg1_nle : ¬ (0 : Int32) ≤ -1 := by decide
theorem sim_ask {t : Nat} {X M : Mem} (h : Rel t X M) (_ht : t < 512) (a1 a2 : Int32) : ∃ (r : Int32) (X2 M2 : Mem), fX8_ask X a1 a2 = some (r, X2) ∧ fX9_ask M a1 a2 = some (r, M2) ∧ Rel (t + 1) X2 M2 := by
  obtain ⟨nm, na, nk, nf, nr, ng, nq, hO, h2, h3, h4⟩ := Rel_O h
  have h1 := hO.1
  unfold fX8_ask fX9_ask fX8_isAsking fX9_isSort fX7_size
  rw [has_eq h1, isIn_eq]
  rcases mem_cases h1 a1 with e | ⟨e, m, hm, rfl⟩
  · simp only [e, ob1_some, ob2_some', fX8_fin, fX9_fin, ↓reduceIte]
    exact ⟨_, _, _, rfl, rfl, Rel_fnd h⟩
  rcases isIn_cases a2 0 2 with ⟨e2, -⟩ | ⟨e2, g1, g2⟩
  · simp only [e, e2, ob1_some, ob2_some', fX8_fin, fX9_fin, n10, ↓reduceIte]
    exact ⟨_, _, _, rfl, rfl, Rel_fnd h⟩
  obtain ⟨s, hs, rfl⟩ := isIn_nat (n := 2) (by decide) g1 g2
  rcases find_both h2 h3 (nI m) (nI s) with ⟨f1, f2, f3⟩ | ⟨c, c1, c2, c3, c4⟩
  · rcases Nat.lt_or_ge na 20 with hn | hn
    · obtain ⟨X', M', x1, y1, r1, r2, x2, y2, x3, y3, y4, y5⟩ := st_app (Or.inl rfl) h2 hn hm (show s < 3 by omega)
      have q1 : nI na < 20 := nI_lt (b := 20) hn (by decide)
      have q2 : ¬ nI na = 20 := nI_ne (b := 20) (by omega) (by decide) (by omega)
      simp only [e, e2, f1, f2, x1, y1, ob1_some, n10, ↓reduceIte, h2.2.1, h2.2.2.1, q1, q2, neg1_lt]
      rw [x3, y3, upd_s, upd_s]
      exact ⟨_, _, _, rfl, rfl, Rel_I (RelO_st hO (fun a ha => x2 a (by omega) (by omega) (by omega)) (fun a b1 _ _ b4 b5 _ => y2 a b1 b4 b5) (fun j b1 _ _ => by rw [y3, upd_n b1])) r1 (r2 h3 f3) (rTim_up h4 (y2 4 (by omega) (by omega) (by omega)))⟩
    · have : na = 20 := by have := h2.1; omega
      subst this
      simp only [e, e2, f1, f2, ob1_some, ob2_some', fX8_fin, fX9_fin, n10, ↓reduceIte, h2.2.1, h2.2.2.1, neg1_lt, show nI 20 = 20 from rfl, show ¬ (20 : Int32) < 20 by decide]
      exact ⟨_, _, _, rfl, rfl, Rel_fnd h⟩
  · have q1 : ¬ nI c = -1 := nI_neg1 (by have := h2.1; omega)
    have q2 : ¬ nI c < 0 := nI_pos (by have := h2.1; omega)
    simp only [e, e2, c2, c3, ob1_some, ob2_some', fX8_fin, fX9_fin, n10, ↓reduceIte, q1, q2]
    exact ⟨_, _, _, rfl, rfl, Rel_fnd h⟩
theorem sim_withdraw {t : Nat} {X M : Mem} (h : Rel t X M) (_ht : t < 512) (a1 a2 : Int32) : ∃ (r : Int32) (X2 M2 : Mem), fX8_withdraw X a1 a2 = some (r, X2) ∧ fX9_withdraw M a1 a2 = some (r, M2) ∧ Rel (t + 1) X2 M2 := by
  obtain ⟨nm, na, nk, nf, nr, ng, nq, hO, h2, h3, h4⟩ := Rel_O h
  have h1 := hO.1
  unfold fX8_withdraw fX9_withdraw fX8_isAsking fX9_isSort fX7_size
  rw [has_eq h1, isIn_eq]
  rcases mem_cases h1 a1 with e | ⟨e, m, hm, rfl⟩
  · simp only [e, ob1_some, ob2_some', fX8_fin, fX9_fin, ↓reduceIte]
    exact ⟨_, _, _, rfl, rfl, Rel_fnd h⟩
  rcases isIn_cases a2 0 2 with ⟨e2, -⟩ | ⟨e2, -⟩
  · simp only [e, e2, ob1_some, ob2_some', fX8_fin, fX9_fin, n10, ↓reduceIte]
    exact ⟨_, _, _, rfl, rfl, Rel_fnd h⟩
  rcases find_both h2 h3 (nI m) a2 with ⟨f1, f2, f3⟩ | ⟨c, c1, c2, c3, c4⟩
  · simp only [e, e2, f1, f2, ob1_some, ob2_some', fX8_fin, fX9_fin, n10, ↓reduceIte, neg1_nle]
    exact ⟨_, _, _, rfl, rfl, Rel_fnd h⟩
  · have q1 : ¬ nI c = -1 := nI_neg1 (by have := h2.1; omega)
    have q2 : 0 ≤ nI c := nI_pos' (by have := h2.1; omega)
    obtain ⟨X', M', x1, y1, r1, r2, x2, y2, x3, y3, y4, y5⟩ := st_drop (Or.inl rfl) h2 c1
    simp only [e, e2, c2, c3, x1, y1, ob1_some, n10, ↓reduceIte, q1, q2]
    rw [x3, y3, upd_s, upd_s]
    exact ⟨_, _, _, rfl, rfl, Rel_I (RelO_st hO (fun a ha => x2 a (by omega) (by omega) (by omega)) (fun a b1 _ _ b4 b5 _ => y2 a b1 b4 b5) (fun j b1 _ _ => by rw [y3, upd_n b1])) r1 (r2 h3) (rTim_up h4 (y2 4 (by omega) (by omega) (by omega)))⟩
