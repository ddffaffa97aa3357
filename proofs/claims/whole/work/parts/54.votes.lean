theorem ofKind_1 {nm j : Nat} {X M : Mem} (h : rRos nm X M) (hj : j < 10) : fX4_isOfKind X (nI j) 1 = some (if M 1 j = 1 ∨ M 1 j = 3 then 1 else 0) := by
  have e : fX4_isOfKind X (nI j) 1 = _ := ofKind_eq (b := 1) h hj (by decide)
  obtain ⟨a, ha, ea⟩ := h.2.2.2.2.2.2.2.1 j hj
  rw [e, ea]
  rcases (show a = 0 ∨ a = 1 ∨ a = 2 ∨ a = 3 by omega) with rfl | rfl | rfl | rfl <;> rfl
theorem ofKind_2 {nm j : Nat} {X M : Mem} (h : rRos nm X M) (hj : j < 10) : fX4_isOfKind X (nI j) 2 = some (if M 1 j = 2 then 1 else 0) := by
  have e : fX4_isOfKind X (nI j) 2 = _ := ofKind_eq (b := 2) h hj (by decide)
  obtain ⟨a, ha, ea⟩ := h.2.2.2.2.2.2.2.1 j hj
  rw [e, ea]
  rcases (show a = 0 ∨ a = 1 ∨ a = 2 ∨ a = 3 by omega) with rfl | rfl | rfl | rfl <;> rfl
theorem ofKind_3 {nm j : Nat} {X M : Mem} (h : rRos nm X M) (hj : j < 10) : fX4_isOfKind X (nI j) 3 = some (if M 1 j = 3 then 1 else 0) := by
  have e : fX4_isOfKind X (nI j) 3 = _ := ofKind_eq (b := 3) h hj (by decide)
  obtain ⟨a, ha, ea⟩ := h.2.2.2.2.2.2.2.1 j hj
  rw [e, ea]
  rcases (show a = 0 ∨ a = 1 ∨ a = 2 ∨ a = 3 by omega) with rfl | rfl | rfl | rfl <;> rfl
def mvB (M : Mem) (j : Nat) : Int32 := if M 3 j = 0 then 0 else if M 1 j = 1 ∨ M 1 j = 3 then 0 else 1
theorem mayX {nm j : Nat} {X M : Mem} (h : rRos nm X M) (hj : j < 10) : fX4_mayVote X (nI j) = some (mvB M j) := by
  unfold fX4_mayVote mvB
  rw [here_eq h hj, ofKind_1 h hj, ob1_some, ob1_some]
  by_cases c : M 3 j = 0
  · rw [if_pos c, if_pos c]
  · rw [if_neg c, if_neg c]
    by_cases c2 : M 1 j = 1 ∨ M 1 j = 3
    · rw [if_pos c2, if_pos c2, if_neg n10]
    · rw [if_neg c2, if_neg c2, if_pos rfl]
theorem mayM {nm j : Nat} {X M : Mem} (h : rRos nm X M) (hj : j < 10) : fX9_mayVote M (nI j) = some (mvB M j) := by
  unfold fX9_mayVote mvB
  rw [gI_nI hj (by decide), nI_clamp (by omega), guest_eq h hj, ob1_some]
  by_cases c : M 3 j = 0
  · rw [if_pos c, if_pos c]
  · rw [if_neg c, if_neg c]
    by_cases c2 : M 1 j = 1 ∨ M 1 j = 3
    · rw [if_pos c2, if_pos c2, if_neg n10]
    · rw [if_neg c2, if_neg c2, if_pos rfl]
theorem sim_vote {t : Nat} {X M : Mem} (h : Rel t X M) (_ht : t < 512) : ∃ (r : Int32) (X2 M2 : Mem), fX8_vote X = some (r, X2) ∧ fX9_vote M = some (r, M2) ∧ Rel (t + 1) X2 M2 := by
  obtain ⟨nm, na, nk, nf, nr, ng, nq, h1, h2, h3, h4, h5, h6, h7, h8, h9, h10, h11⟩ := Rel_mono h
  unfold fX8_vote fX9_vote
  rw [open_eq h7, ob1_some]
  by_cases c : M 0 18 = 0
  · rw [if_pos c, if_pos c]
    have lX : ∀ k i n (Y : Mem), i + k = 10 → k < n → (∀ a, a ≠ 28 → Y a = X a) → (∀ j, j < i → Y 28 j = 0) → ∃ Z : Mem, fX0_open_2 n Y (nI i) = some (up2 Z 27 2 1) ∧ (∀ a, a ≠ 28 → Z a = X a) ∧ ∀ j, j < 10 → Z 28 j = 0 := by
      intro k
      induction k with
      | zero =>
        intro i n Y hi hk hY h0
        obtain ⟨n', rfl⟩ : ∃ n', n = n' + 1 := ⟨n - 1, by omega⟩
        rw [fX0_open_2, if_pos (show (10 : Int32) ≤ nI i from nI_le (a := 10) (by omega) (by omega))]
        exact ⟨Y, rfl, hY, fun j hj => h0 j (by omega)⟩
      | succ k ih =>
        intro i n Y hi hk hY h0
        obtain ⟨n', rfl⟩ : ∃ n', n = n' + 1 := ⟨n - 1, by omega⟩
        rw [fX0_open_2, if_neg (show ¬ (10 : Int32) ≤ nI i from nI_ge (b := 10) (by omega) (by decide)), gI_nI (show i < 10 by omega) (by decide), nI_clamp (by omega), nI_1]
        refine ih (i + 1) n' _ (by omega) (by omega) (fun a ha => by rw [up2_n ha]; exact hY a ha) (fun j hj => ?_)
        rw [up2_s]
        by_cases cj : j = i
        · rw [cj, upd_s]
        · rw [upd_n cj]; exact h0 j (by omega)
    have lM : ∀ k i n (Y : Mem), i + k = 10 → k < n → (∀ a, a ≠ 14 → Y a = up2 M 0 18 1 a) → (∀ j, j < i → Y 14 j = 0) → ∃ Z : Mem, fX9_vote_21 n Y (nI i) = some (1, Z) ∧ (∀ a, a ≠ 14 → Z a = up2 M 0 18 1 a) ∧ ∀ j, j < 10 → Z 14 j = 0 := by
      intro k
      induction k with
      | zero =>
        intro i n Y hi hk hY h0
        obtain ⟨n', rfl⟩ : ∃ n', n = n' + 1 := ⟨n - 1, by omega⟩
        rw [fX9_vote_21, if_pos (show (10 : Int32) ≤ nI i from nI_le (a := 10) (by omega) (by omega))]
        exact ⟨Y, rfl, hY, fun j hj => h0 j (by omega)⟩
      | succ k ih =>
        intro i n Y hi hk hY h0
        obtain ⟨n', rfl⟩ : ∃ n', n = n' + 1 := ⟨n - 1, by omega⟩
        rw [fX9_vote_21, if_neg (show ¬ (10 : Int32) ≤ nI i from nI_ge (b := 10) (by omega) (by decide)), gI_nI (show i < 10 by omega) (by decide), nI_clamp (by omega), nI_1]
        refine ih (i + 1) n' _ (by omega) (by omega) (fun a ha => by rw [up2_n ha]; exact hY a ha) (fun j hj => ?_)
        rw [up2_s]
        by_cases cj : j = i
        · rw [cj, upd_s]
        · rw [upd_n cj]; exact h0 j (by omega)
    have hf := fu_gt
    obtain ⟨ZX, eX, oX, zX⟩ := lX 10 0 fu X (by omega) (by omega) (fun a _ => rfl) (fun j hj => by omega)
    obtain ⟨ZM, eM, oM, zM⟩ := lM 10 0 fu (up2 M 0 18 1) (by omega) (by omega) (fun a _ => rfl) (fun j hj => by omega)
    refine ⟨1, up2 ZX 27 2 1, ZM, ?_, eM, ?_⟩
    · show ob1 (fX0_open_2 fu X (nI 0)) _ = _
      rw [eX]; rfl
    · have eq : ZX = upc X 28 (ZX 28) := by
        funext a
        unfold upc
        by_cases ca : a = 28
        · rw [if_pos ca, ca]
        · rw [if_neg ca, oX a ca]
      have eqM : ZM = upc (up2 M 0 18 1) 14 (ZM 14) := by
        funext a
        by_cases ca : a = 14
        · rw [ca, upc_s]
        · rw [upc_n ca, oM a ca]
      rw [eq, eqM]
      exact ⟨nm, na, nk, nf, nr, ng, nq, h1, h2, h3, h4, h5, h6, ⟨rfl, Or.inr rfl, fun j hj => (zX j hj).trans (zM j hj).symm⟩, h8, h9, h10, h11⟩
  · rw [if_neg c, if_neg c]
    simp only [ob2_some', fX8_fin, fX9_fin]
    exact ⟨_, _, _, rfl, rfl, Rel_fnd h⟩
theorem sim_say {t : Nat} {X M : Mem} (h : Rel t X M) (_ht : t < 512) (a1 a2 : Int32) : ∃ (r : Int32) (X2 M2 : Mem), fX8_say X a1 a2 = some (r, X2) ∧ fX9_say M a1 a2 = some (r, M2) ∧ Rel (t + 1) X2 M2 := by
  obtain ⟨nm, na, nk, nf, nr, ng, nq, h1, h2, h3, h4, h5, h6, h7, h8, h9, h10, h11⟩ := Rel_mono h
  have hn := h1.1
  unfold fX8_say fX9_say fX0_saidBy fX0_mark
  rw [has_eq h1, isIn_eq, open_eq h7]
  rcases mem_cases h1 a1 with e | ⟨e, j, hj, rfl⟩
  · simp only [e, ob1_some, ob2_some', fX8_fin, fX9_fin, ↓reduceIte]
    exact ⟨_, _, _, rfl, rfl, Rel_fnd h⟩
  have hj10 : j < 10 := by omega
  rcases isIn_cases a2 0 2 with ⟨e2, -⟩ | ⟨e2, -⟩
  · simp only [e, e2, ob1_some, ob2_some', fX8_fin, fX9_fin, n10, ↓reduceIte]
    exact ⟨_, _, _, rfl, rfl, Rel_fnd h⟩
  by_cases c : M 0 18 = 0
  · simp only [e, e2, c, ob1_some, ob2_some', fX8_fin, fX9_fin, n10, ↓reduceIte]
    exact ⟨_, _, _, rfl, rfl, Rel_fnd h⟩
  by_cases c2 : mvB M j = 0
  · simp only [e, e2, c, c2, mayX h1 hj10, mayM h1 hj10, ob1_some, ob2_some', fX8_fin, fX9_fin, n10, ↓reduceIte]
    exact ⟨_, _, _, rfl, rfl, Rel_fnd h⟩
  · simp only [e, e2, c, c2, mayX h1 hj10, mayM h1 hj10, ob1_some, n10, ↓reduceIte, atF_nI hj10 (show 10 < 2 ^ 31 by decide), setF_nI hj10 (show 10 < 2 ^ 31 by decide), gI_nI hj10 (show 10 < 2 ^ 31 by decide), nI_clamp (show j < 2 ^ 31 by omega), h7.2.2 j hj10]
    refine ⟨_, _, _, rfl, rfl, nm, na, nk, nf, nr, ng, nq, h1, h2, h3, h4, h5, h6, ⟨h7.1, h7.2.1, fun i hi => ?_⟩, h8, h9, h10, h11⟩
    show upd (X 28) j _ i = upd (M 14) j _ i
    unfold upd; rw [h7.2.2 i hi]
def vsum (M : Mem) (v : Int32) : Nat → Int32
  | 0 => 0
  | n + 1 => if mvB M n = 0 then vsum M v n else if M 14 n = v then vsum M v n + 1 else vsum M v n
theorem countX {nm : Nat} {X M : Mem} (h : rRos nm X M) (h7 : rVot X M) (v : Int32) : fX0_count X v = some (vsum M v nm) := by
  have hn := h.1
  have l : ∀ k i n, i + k = nm → k < n → fX0_count_4 X v n (vsum M v i) (nI i) = some (vsum M v nm) := by
    intro k
    induction k with
    | zero =>
      intro i n hi hk
      obtain ⟨n', rfl⟩ : ∃ n', n = n' + 1 := ⟨n - 1, by omega⟩
      have : i = nm := by omega
      subst this
      rw [fX0_count_4, fX4_size, ob1_some, h.2.1, if_pos (nI_le (Nat.le_refl i) (by omega))]
    | succ k ih =>
      intro i n hi hk
      obtain ⟨n', rfl⟩ : ∃ n', n = n' + 1 := ⟨n - 1, by omega⟩
      have hs := ih (i + 1) n' (by omega) (by omega)
      have i10 : i < 10 := by omega
      rw [fX0_count_4, fX4_size, ob1_some, h.2.1, if_neg (nI_ge (by omega) (by omega)), mayX h i10, ob1_some, fX0_saidBy, ob1_some, atF_nI i10 (by decide), h7.2.2 i i10, nI_1]
      rw [vsum] at hs
      by_cases c : mvB M i = 0
      · rw [if_pos c] at hs ⊢; exact hs
      · rw [if_neg c] at hs ⊢
        by_cases c2 : M 14 i = v
        · rw [if_pos c2] at hs ⊢; exact hs
        · rw [if_neg c2] at hs ⊢; exact hs
  exact l nm 0 fu (by omega) (by have := fu_gt; omega)
theorem countM {nm : Nat} {X M : Mem} (h : rRos nm X M) (v : Int32) : fX9_votesOf M v = some (vsum M v nm) := by
  have hn := h.1
  have l : ∀ k i n, i + k = nm → k < n → fX9_votesOf_4 M v n (vsum M v i) (nI i) = some (vsum M v nm) := by
    intro k
    induction k with
    | zero =>
      intro i n hi hk
      obtain ⟨n', rfl⟩ : ∃ n', n = n' + 1 := ⟨n - 1, by omega⟩
      have : i = nm := by omega
      subst this
      rw [fX9_votesOf_4, h.2.2.1, if_pos (nI_le (Nat.le_refl i) (by omega))]
    | succ k ih =>
      intro i n hi hk
      obtain ⟨n', rfl⟩ : ∃ n', n = n' + 1 := ⟨n - 1, by omega⟩
      have hs := ih (i + 1) n' (by omega) (by omega)
      have i10 : i < 10 := by omega
      rw [fX9_votesOf_4, h.2.2.1, if_neg (nI_ge (by omega) (by omega)), mayM h i10, ob1_some, gI_nI i10 (by decide), nI_clamp (by omega), nI_1, Int32.add_zero]
      rw [vsum] at hs
      by_cases c : mvB M i = 0
      · rw [if_pos c] at hs ⊢; exact hs
      · rw [if_neg c] at hs ⊢
        by_cases c2 : M 14 i = v
        · rw [if_pos c2] at hs ⊢; exact hs
        · rw [if_neg c2] at hs ⊢; exact hs
  exact l nm 0 fu (by omega) (by have := fu_gt; omega)
theorem sim_votes {t : Nat} {X M : Mem} (h : Rel t X M) (_ht : t < 512) (a1 : Int32) : ∃ (r : Int32) (X2 M2 : Mem), fX8_votes X a1 = some (r, X2) ∧ fX9_votes M a1 = some (r, M2) ∧ Rel (t + 1) X2 M2 := by
  obtain ⟨nm, na, nk, nf, nr, ng, nq, h1, h2, h3, h4, h5, h6, h7, h8, h9, h10, h11⟩ := id h
  unfold fX8_votes fX9_votes
  rw [isIn_eq, open_eq h7]
  rcases isIn_cases a1 0 2 with ⟨e, -⟩ | ⟨e, -⟩
  · simp only [e, ob1_some, ob2_some', fX8_fin, fX9_fin, ↓reduceIte]
    exact ⟨_, _, _, rfl, rfl, Rel_fnd h⟩
  by_cases c : M 0 18 = 0
  · simp only [e, c, ob1_some, ob2_some', fX8_fin, fX9_fin, n10, ↓reduceIte]
    exact ⟨_, _, _, rfl, rfl, Rel_fnd h⟩
  · simp only [e, c, ob1_some, n10, ↓reduceIte, countX h1 h7, countM h1]
    exact ⟨_, _, _, rfl, rfl, Rel_mono h⟩
def pasB (need y n : Int32) : Int32 := if need = 1 then (if y ≤ n then 0 else 1) else (if y ≤ 0 then 0 else if need = 2 then (if 3 * y < 2 * (y + n) then 0 else 1) else if n = 0 then 1 else 0)
theorem pasX (need y n : Int32) : fX8_passes need y n = some (pasB need y n) := by
  unfold fX8_passes pasB
  by_cases c1 : need = 1
  · rw [if_pos c1, if_pos c1]
    by_cases c : y ≤ n
    · rw [if_pos c, if_pos c]
    · rw [if_neg c, if_neg c]
  · rw [if_neg c1, if_neg c1]
    by_cases c2 : need = 2
    · rw [if_pos c2, if_pos c2]
      by_cases c : y ≤ 0
      · rw [if_pos c, if_pos c]
      · rw [if_neg c, if_neg c]
        by_cases c3 : 3 * y < 2 * (y + n)
        · rw [if_pos c3, if_pos c3]
        · rw [if_neg c3, if_neg c3]
    · rw [if_neg c2, if_neg c2]
      by_cases c : y ≤ 0
      · rw [if_pos c, if_pos c]
      · rw [if_neg c, if_neg c]
        by_cases c3 : n = 0
        · rw [if_pos c3, if_pos c3]
        · rw [if_neg c3, if_neg c3]
theorem pasM (need y n : Int32) : fX9_passes need y n = some (pasB need y n) := by
  unfold fX9_passes pasB
  by_cases c1 : need = 1
  · rw [if_pos c1, if_pos c1]
    by_cases c : y ≤ n
    · rw [if_pos c, if_pos c]
    · rw [if_neg c, if_neg c]
  · rw [if_neg c1, if_neg c1]
    by_cases c : y ≤ 0
    · rw [if_pos c, if_pos c]
    · rw [if_neg c, if_neg c]
      by_cases c2 : need = 2
      · rw [if_pos c2, if_pos c2]
        by_cases c3 : 3 * y < 2 * (y + n)
        · rw [if_pos c3, if_pos c3]
        · rw [if_neg c3, if_neg c3]
      · rw [if_neg c2, if_neg c2]
        by_cases c3 : n = 0
        · rw [if_pos c3, if_pos c3]
        · rw [if_neg c3, if_neg c3]
theorem sim_close {t : Nat} {X M : Mem} (h : Rel t X M) (_ht : t < 512) (a1 : Int32) : ∃ (r : Int32) (X2 M2 : Mem), fX8_close X a1 = some (r, X2) ∧ fX9_close M a1 = some (r, M2) ∧ Rel (t + 1) X2 M2 := by
  obtain ⟨nm, na, nk, nf, nr, ng, nq, h1, h2, h3, h4, h5, h6, h7, h8, h9, h10, h11⟩ := Rel_mono h
  unfold fX8_close fX9_close fX8_isNeed fX0_shut
  rw [isIn_eq, open_eq h7]
  rcases isIn_cases a1 1 3 with ⟨e, -⟩ | ⟨e, -⟩
  · simp only [e, ob1_some, ob2_some', fX8_fin, fX9_fin, ↓reduceIte]
    exact ⟨_, _, _, rfl, rfl, Rel_fnd h⟩
  by_cases c : M 0 18 = 0
  · simp only [e, c, ob1_some, ob2_some', fX8_fin, fX9_fin, n10, ↓reduceIte]
    exact ⟨_, _, _, rfl, rfl, Rel_fnd h⟩
  have hM : ∀ v, fX9_votesOf (up2 M 0 18 0) v = some (vsum M v nm) := by
    intro v
    have h1' : rRos nm X (up2 M 0 18 0) := h1
    rw [countM h1']
    congr 1
    have : ∀ n, vsum (up2 M 0 18 0) v n = vsum M v n := by
      intro n
      induction n with
      | zero => rfl
      | succ n ih => rw [vsum, vsum, ih]; rfl
    exact this nm
  simp only [e, c, ob1_some, n10, ↓reduceIte, countX h1 h7, hM, pasX, pasM]
  by_cases c2 : pasB a1 (vsum M 1 nm) (vsum M 2 nm) = 0
  · simp only [c2, ↓reduceIte]
    exact ⟨_, _, _, rfl, rfl, nm, na, nk, nf, nr, ng, nq, h1, h2, h3, h4, h5, h6, ⟨rfl, Or.inl rfl, h7.2.2⟩, h8, h9, h10, h11⟩
  · simp only [c2, ↓reduceIte]
    exact ⟨_, _, _, rfl, rfl, nm, na, nk, nf, nr, ng, nq, h1, h2, h3, h4, h5, h6, ⟨rfl, Or.inl rfl, h7.2.2⟩, h8, h9, h10, h11⟩
