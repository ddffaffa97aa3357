/-! pure tools: the printed functions' words, evaluated -/
theorem fu_gt : 90000 < fu := by unfold fu; omega
theorem fu_s : ∃ k, fu = k + 1 ∧ 90000 ≤ k := ⟨99999, rfl, by omega⟩
theorem ob1_some {α β : Type} {a : α} {f : α → Option β} : ob1 (some a) f = f a := rfl
theorem ob2_some' {α β γ : Type} {a : α} {b : β} {f : α → β → Option γ} : ob2 (some (a, b)) f = f a b := rfl
theorem n10 : ¬ (1 : Int32) = 0 := by decide
theorem gI_ok {α : Type} {i : Int32} {n : Nat} {t : Option α} (h : vp_in i n) : gI i n t = t := if_neg h
theorem gI_nI {α : Type} {i n : Nat} {t : Option α} (h : i < n) (hn : n < 2 ^ 31) : gI (nI i) n t = t := gI_ok (vp_in_nI h hn)
theorem gZ_ok {α : Type} {d : Int32} {t : Option α} (h : ¬ d = 0) : gZ d t = t := if_neg h
theorem gB_ok {α : Type} {d : Int32} {t : Option α} (h : isB d) : gB d t = t := if_pos h
theorem atF_nI {f : Nat → Int32} {i n : Nat} (h : i < n) (hn : n < 2 ^ 31) : atF f n (nI i) = f i := by
  unfold atF
  rw [if_neg (nI_pos (by omega)), if_neg (nI_ge h hn), nI_clamp (by omega)]
theorem setF_nI {f : Nat → Int32} {i n : Nat} {v : Int32} (h : i < n) (hn : n < 2 ^ 31) : setF f n (nI i) v = upd f i v := by
  unfold setF
  rw [if_neg (nI_pos (by omega)), if_neg (nI_ge h hn), nI_clamp (by omega)]
theorem rfF_lt {f f2 : Nat → Int32} {n j : Nat} (h : j < n) (hn : n < 2 ^ 31) : rfF f n f2 n n j = f2 j := by
  unfold rfF
  rw [if_pos h, atF_nI h hn]
theorem upd_s {f : Nat → Int32} {k : Nat} {v : Int32} : upd f k v k = v := if_pos rfl
theorem upd_n {f : Nat → Int32} {k j : Nat} {v : Int32} (h : j ≠ k) : upd f k v j = f j := if_neg h
theorem upc_s {mem : Mem} {k : Nat} {f : Nat → Int32} : upc mem k f k = f := if_pos rfl
theorem upc_n {mem : Mem} {k a : Nat} {f : Nat → Int32} (h : a ≠ k) : upc mem k f a = mem a := if_neg h
theorem up2_s {mem : Mem} {k j : Nat} {v : Int32} : up2 mem k j v k = upd (mem k) j v := if_pos rfl
theorem up2_n {mem : Mem} {k j a : Nat} {v : Int32} (h : a ≠ k) : up2 mem k j v a = mem a := if_neg h
theorem nar_B {v : Int32} (h : isB v) : vp_nar .boolean v = v := by
  rcases h with rfl | rfl <;> rfl
theorem nar_isB (v : Int32) : isB (vp_nar .boolean v) := by
  have h : vp_nar .boolean v = v &&& 1 := rfl
  rw [h]
  obtain ⟨j, hj, e⟩ := pk_andE v (m := 1) 1 (by decide)
  rw [e]
  rcases (show j = 0 ∨ j = 1 by omega) with rfl | rfl
  · exact Or.inl rfl
  · exact Or.inr rfl
theorem isIn_eq : fX8_isWithin = fX9_isIn := rfl
theorem isIn_cases (v lo hi : Int32) : (fX9_isIn v lo hi = some 0 ∧ (v < lo ∨ hi < v)) ∨ (fX9_isIn v lo hi = some 1 ∧ ¬ v < lo ∧ ¬ hi < v) := by
  unfold fX9_isIn
  by_cases h1 : v < lo
  · exact Or.inl ⟨if_pos h1, Or.inl h1⟩
  · by_cases h2 : hi < v
    · exact Or.inl ⟨(if_neg h1).trans (if_pos h2), Or.inr h2⟩
    · exact Or.inr ⟨(if_neg h1).trans (if_neg h2), h1, h2⟩
theorem isIn_nat {v : Int32} {n : Nat} (hn : n < 2 ^ 31 - 1) (h1 : ¬ v < 0) (h2 : ¬ nI n < v) : ∃ j, j ≤ n ∧ v = nI j := by
  rcases pk_ix v (n := n + 1) (by omega) with h | h | ⟨j, hj, e⟩
  · exact absurd h h1
  · refine absurd ?_ h2
    rw [Int32.le_iff_toInt_le, nI_toInt (by omega)] at h
    rw [Int32.lt_iff_toInt_lt, nI_toInt (by omega)]
    omega
  · exact ⟨j, by omega, e⟩
theorem fX8_fin (X : Mem) (v : Int32) : fX8_finding X v = some (v, up2 X 0 9 (X 0 9 + 1)) := rfl
theorem fX9_fin (M : Mem) (v : Int32) : fX9_finding M v = some (v, up2 M 0 31 (M 0 31 + 1)) := rfl
theorem nI_inj {a b : Nat} (ha : a < 2 ^ 31) (hb : b < 2 ^ 31) (h : nI a = nI b) : a = b := (nI_eq ha hb).mp h
theorem nI_ne {a b : Nat} (ha : a < 2 ^ 31) (hb : b < 2 ^ 31) (h : a ≠ b) : ¬ nI a = nI b := fun q => h (nI_inj ha hb q)
theorem nI_neg1 {a : Nat} (ha : a < 2 ^ 31) : ¬ nI a = -1 := by
  intro h
  have := nI_toInt ha
  rw [h] at this
  have e : (-1 : Int32).toInt = -1 := by decide
  omega
/-! the relation, by subsystems -/
def tsum (D T : Nat → Int32) (d : Int32) : Nat → Int32
  | 0 => 0
  | n + 1 => tsum D T d n + (if D n = d then T n else 0)
def rRos (nm : Nat) (X M : Mem) : Prop := nm ≤ 10 ∧ X 1 3 = nI nm ∧ M 0 0 = nI nm ∧ (∀ j, j < 10 → X 2 j = M 1 j) ∧ (∀ j, j < 10 → X 3 j = M 2 j) ∧ (∀ j, j < 10 → X 4 j = M 3 j) ∧ (∀ j, j < 10 → isB (M 3 j)) ∧ (∀ j, j < 10 → ∃ k, k < 4 ∧ M 1 j = nI k) ∧ (∀ j, j < 10 → ∃ d, d < 5 ∧ M 2 j = nI d)
def rSta (k nm na : Nat) (X M : Mem) : Prop := na ≤ 20 ∧ X k 6 = nI na ∧ M 0 6 = nI na ∧ (∀ j, j < 20 → X (k + 1) j = M 6 j) ∧ (∀ j, j < 20 → X (k + 2) j = M 7 j) ∧ (∀ j, j < 10 → X (k + 3) j = M 4 j) ∧ (∀ j, j < 10 → X (k + 4) j = M 5 j) ∧ X k 7 = M 0 11 ∧ (∀ d, d < 5 → X (k + 5) d = tsum (M 2) (M 4) (nI d) nm) ∧ (∀ j, j < na → ∃ a, a < nm ∧ M 6 j = nI a) ∧ (∀ j, j < na → ∃ s, s < 3 ∧ M 7 j = nI s)
def rUni (na : Nat) (M : Mem) : Prop := ∀ i j, i < na → j < na → M 6 i = M 6 j → M 7 i = M 7 j → i = j
def rTim (T nm : Nat) (M : Mem) : Prop := (∀ j, j < 10 → ∃ t, t ≤ T ∧ M 4 j = nI t) ∧ ∀ j, nm ≤ j → j < 10 → M 4 j = 0
def rKey (nk : Nat) (X M : Mem) : Prop := nk ≤ 6 ∧ X 17 2 = nI nk ∧ M 0 9 = nI nk ∧ (∀ j, j < 6 → X 18 j = M 8 j) ∧ ∀ j, j < nk → ∃ v, 1 ≤ v ∧ v ≤ 9 ∧ M 8 j = nI v
def rFlo (nm nf : Nat) (X M : Mem) : Prop := nf ≤ 5 ∧ X 21 5 = nI nf ∧ M 0 12 = nI nf ∧ (∀ j, j < 5 → X 22 j = M 9 j) ∧ (∀ j, j < 5 → X 23 j = M 10 j) ∧ (∀ j, j < 5 → X 24 j = M 11 j) ∧ (∀ j, j < 5 → X 25 j = M 12 j) ∧ (∀ j, j < nf → ∃ a, a < nm ∧ M 9 j = nI a) ∧ (∀ j, j < nf → ∃ l, 1 ≤ l ∧ l ≤ 100 ∧ M 11 j = nI l) ∧ (∀ s, s < 3 → X 26 s = M 13 s) ∧ ∀ s, s < 3 → ∃ v, 1 ≤ v ∧ v ≤ 50 ∧ M 13 s = nI v
def rVot (X M : Mem) : Prop := X 27 2 = M 0 18 ∧ isB (M 0 18) ∧ ∀ j, j < 10 → X 28 j = M 14 j
def rMin (T nr ng : Nat) (X M : Mem) : Prop := nr ≤ 100 ∧ ng ≤ T ∧ (0 < ng → nr = 100) ∧ M 0 20 = nI nr ∧ M 0 21 = nI ng ∧ X 29 5 = nI (ng + nr) ∧ (∀ i, i < nr → X 30 ((ng + i) % 100) = M 15 i) ∧ (∀ i, i < nr → X 31 ((ng + i) % 100) = M 16 i) ∧ ∀ i, i < nr → X 32 ((ng + i) % 100) = M 17 i
def rRig (nq : Nat) (X M : Mem) : Prop := nq ≤ 40 ∧ X 29 6 = nI nq ∧ M 0 25 = nI nq ∧ (∀ j, j < nq → X 33 j = M 18 (j + 1)) ∧ ∀ j, j < nq → X 34 j = M 19 (j + 1)
def shR (b x m : Int32) : Prop := (b = 8 → ∃ u, u < 256 ∧ x = nI u ∧ m = (nI u).toInt8.toInt32) ∧ (b = 16 → ∃ u, u < 65536 ∧ x = nI u ∧ m = (nI u).toInt16.toInt32) ∧ (b = 32 → x = m)
def shC (o n : Nat → Int32) (b z : Int32) (f : Nat → Int32) : Prop := o 1 = b ∧ o 2 = z ∧ (b = 0 ∨ b = 8 ∨ b = 16 ∨ b = 32) ∧ (∃ k, k ≤ 12 ∧ z = nI k) ∧ ∀ i, i < 12 → shR b (n i) (f i)
def rShe (X M : Mem) : Prop := shC (X 36) (X 37) (M 20 0) (M 21 0) (fun i => M 22 (12 * 0 + i)) ∧ shC (X 38) (X 39) (M 20 1) (M 21 1) (fun i => M 22 (12 * 1 + i)) ∧ shC (X 40) (X 41) (M 20 2) (M 21 2) (fun i => M 22 (12 * 2 + i)) ∧ shC (X 42) (X 43) (M 20 3) (M 21 3) (fun i => M 22 (12 * 3 + i))
def rFnd (X M : Mem) : Prop := X 0 9 = M 0 31
def Rel (t : Nat) (X M : Mem) : Prop := ∃ nm na nk nf nr ng nq : Nat, rRos nm X M ∧ rSta 5 nm na X M ∧ rUni na M ∧ rTim (100 * t) nm M ∧ rKey nk X M ∧ rFlo nm nf X M ∧ rVot X M ∧ rMin (100 * t) nr ng X M ∧ rRig nq X M ∧ rShe X M ∧ rFnd X M
theorem Rel_mono {t : Nat} {X M : Mem} (h : Rel t X M) : Rel (t + 1) X M := by
  obtain ⟨nm, na, nk, nf, nr, ng, nq, h1, h2, h3, h4, h5, h6, h7, h8, h9, h10, h11⟩ := h
  refine ⟨nm, na, nk, nf, nr, ng, nq, h1, h2, h3, ⟨fun j hj => ?_, h4.2⟩, h5, h6, h7, ⟨h8.1, by have := h8.2.1; omega, h8.2.2⟩, h9, h10, h11⟩
  obtain ⟨t, ht, e⟩ := h4.1 j hj
  exact ⟨t, by omega, e⟩
theorem Rel_fnd {t : Nat} {X M : Mem} (h : Rel t X M) : Rel (t + 1) (up2 X 0 9 (X 0 9 + 1)) (up2 M 0 31 (M 0 31 + 1)) := by
  obtain ⟨nm, na, nk, nf, nr, ng, nq, h1, h2, h3, h4, h5, h6, h7, h8, h9, h10, h11⟩ := Rel_mono h
  exact ⟨nm, na, nk, nf, nr, ng, nq, h1, h2, h3, h4, h5, h6, h7, h8, h9, h10, congrArg (· + 1) h11⟩
theorem sh0 : shC (fun _ => 0) (fun _ => 0) 0 0 (fun _ => 0) := ⟨rfl, rfl, Or.inl rfl, ⟨0, by omega, rfl⟩, fun i _ => ⟨fun h => absurd h (by decide), fun h => absurd h (by decide), fun h => absurd h (by decide)⟩⟩
theorem Rel_0 : Rel 0 memX0 memM0 := by
  refine ⟨0, 0, 0, 0, 0, 0, 0, ⟨by omega, rfl, rfl, fun j _ => rfl, fun j _ => rfl, fun j _ => rfl, fun j _ => Or.inl rfl, fun j _ => ⟨0, by omega, rfl⟩, fun j _ => ⟨0, by omega, rfl⟩⟩, ⟨by omega, rfl, rfl, fun j _ => rfl, fun j _ => rfl, fun j _ => rfl, fun j _ => rfl, rfl, fun d _ => rfl, fun j h => absurd h (Nat.not_lt_zero j), fun j h => absurd h (Nat.not_lt_zero j)⟩, fun i j h => absurd h (Nat.not_lt_zero i), ⟨fun j _ => ⟨0, by omega, rfl⟩, fun j _ _ => rfl⟩, ⟨by omega, rfl, rfl, fun j _ => rfl, fun j h => absurd h (Nat.not_lt_zero j)⟩, ⟨by omega, rfl, rfl, fun j _ => rfl, fun j _ => rfl, fun j _ => rfl, fun j _ => rfl, fun j h => absurd h (Nat.not_lt_zero j), fun j h => absurd h (Nat.not_lt_zero j), fun s _ => rfl, fun s hs => ?_⟩, ⟨rfl, Or.inl rfl, fun j _ => rfl⟩, ⟨by omega, by omega, fun h => by omega, rfl, rfl, rfl, fun j h => absurd h (Nat.not_lt_zero j), fun j h => absurd h (Nat.not_lt_zero j), fun j h => absurd h (Nat.not_lt_zero j)⟩, ⟨by omega, rfl, rfl, fun j h => absurd h (Nat.not_lt_zero j), fun j h => absurd h (Nat.not_lt_zero j)⟩, ⟨sh0, sh0, sh0, sh0⟩, rfl⟩
  · rcases (show s = 0 ∨ s = 1 ∨ s = 2 by omega) with rfl | rfl | rfl
    · exact ⟨10, by omega, by omega, rfl⟩
    · exact ⟨4, by omega, by omega, rfl⟩
    · exact ⟨2, by omega, by omega, rfl⟩
theorem has_eq {nm : Nat} {X M : Mem} (h : rRos nm X M) (a : Int32) : fX4_has X a = fX9_isMember M a := by
  unfold fX4_has fX9_isMember
  rw [h.2.1, h.2.2.1]
theorem mem_cases {nm : Nat} {X M : Mem} (h : rRos nm X M) (a : Int32) : fX9_isMember M a = some 0 ∨ (fX9_isMember M a = some 1 ∧ ∃ j, j < nm ∧ a = nI j) := by
  unfold fX9_isMember
  rw [h.2.2.1]
  have hn := h.1
  rcases pk_ix a (n := nm) (by omega) with c | c | ⟨j, hj, rfl⟩
  · exact Or.inl (if_pos c)
  · by_cases c0 : a < 0
    · exact Or.inl (if_pos c0)
    · exact Or.inl ((if_neg c0).trans (if_pos c))
  · exact Or.inr ⟨(if_neg (nI_pos (by omega))).trans (if_neg (nI_ge hj (by omega))), j, hj, rfl⟩
theorem here_eq {nm j : Nat} {X M : Mem} (h : rRos nm X M) (hj : j < 10) : fX4_isHere X (nI j) = some (M 3 j) := by
  unfold fX4_isHere
  rw [if_neg (nI_pos (by omega)), if_neg (show ¬ (10 : Int32) ≤ nI j from nI_ge (b := 10) hj (by decide)), gI_nI hj (by omega), nI_clamp (by omega), h.2.2.2.2.2.1 j hj]
  rcases h.2.2.2.2.2.2.1 j hj with e | e
  · rw [e, if_pos rfl]
  · rw [e, if_neg n10]
theorem guest_eq {nm j : Nat} {X M : Mem} (_h : rRos nm X M) (hj : j < 10) : fX9_isGuest M (nI j) = some (if M 1 j = 1 ∨ M 1 j = 3 then 1 else 0) := by
  unfold fX9_isGuest
  rw [gI_nI hj (by omega), gI_nI hj (by omega), nI_clamp (by omega)]
  by_cases c1 : M 1 j = 1
  · rw [if_pos c1, if_pos (Or.inl c1)]
  · by_cases c3 : M 1 j = 3
    · rw [if_neg c1, if_pos c3, if_pos (Or.inr c3)]
    · rw [if_neg c1, if_neg c3, if_neg (fun h => h.elim c1 c3)]
theorem ofKind_dec : ∀ a, a < 4 → ∀ b, b < 4 → fX4_isOfKind_12 (fun _ _ => 0) 0 (nI b) 6 (nI a) 0 = some (if nI b = 0 ∨ nI b = nI a ∨ (nI b = 1 ∧ nI a = 3) then 1 else 0) := by decide +kernel
theorem ofKind_fuel (mem mem' : Mem) (z z' b : Int32) : ∀ (n : Nat) (a i r : Int32), fX4_isOfKind_12 mem z b n a i = some r → ∀ k, fX4_isOfKind_12 mem' z' b (n + k) a i = some r := by
  intro n
  induction n with
  | zero => intro a i r h; cases h
  | succ n ih =>
    intro a i r h k
    rw [Nat.succ_add_eq_add_succ, Nat.add_succ, fX4_isOfKind_12]
    rw [fX4_isOfKind_12] at h
    by_cases c1 : 4 ≤ i
    · rw [if_pos c1] at h ⊢; exact h
    · rw [if_neg c1] at h ⊢
      by_cases c2 : a = b
      · rw [if_pos c2] at h ⊢; exact h
      · rw [if_neg c2] at h ⊢
        exact ih _ _ _ h k
theorem ofKind_eq {nm j b : Nat} {X M : Mem} (h : rRos nm X M) (hj : j < 10) (hb : b < 4) : fX4_isOfKind X (nI j) (nI b) = some (if nI b = 0 ∨ nI b = M 1 j ∨ (nI b = 1 ∧ M 1 j = 3) then 1 else 0) := by
  unfold fX4_isOfKind
  rw [atF_nI hj (by omega), h.2.2.2.1 j hj]
  obtain ⟨a, ha, e⟩ := h.2.2.2.2.2.2.2.1 j hj
  rw [e]
  exact ofKind_fuel _ _ _ _ _ 6 _ _ _ (ofKind_dec a ha b hb) 99994
