theorem peoX {X : Mem} {nm : Nat} {v : Int32} (hm : X 1 3 = nI nm) (hn : nm ≤ 10) : ∀ k i n, i + k = nm → k < n → (fX4_isPeopled_2 X v n (nI i) = some 1 ∧ ∃ j, i ≤ j ∧ j < nm ∧ X 3 j = v) ∨ (fX4_isPeopled_2 X v n (nI i) = some 0 ∧ ∀ j, i ≤ j → j < nm → ¬ X 3 j = v) := by
  intro k
  induction k with
  | zero =>
    intro i n hi hk
    obtain ⟨n', rfl⟩ : ∃ n', n = n' + 1 := ⟨n - 1, by omega⟩
    rw [fX4_isPeopled_2, hm, if_pos (nI_le (by omega) (by omega))]
    exact Or.inr ⟨rfl, fun j h1 h2 => by omega⟩
  | succ k ih =>
    intro i n hi hk
    obtain ⟨n', rfl⟩ : ∃ n', n = n' + 1 := ⟨n - 1, by omega⟩
    rw [fX4_isPeopled_2, hm, if_neg (nI_ge (by omega) (by omega)), fX4_delegationOf, ob1_some, atF_nI (show i < 10 by omega) (by decide), nI_1]
    by_cases c : X 3 i = v
    · rw [if_pos c]; exact Or.inl ⟨rfl, i, Nat.le_refl i, by omega, c⟩
    · rw [if_neg c]
      rcases ih (i + 1) n' (by omega) (by omega) with ⟨e, j, h1, h2, h3⟩ | ⟨e, h⟩
      · exact Or.inl ⟨e, j, by omega, h2, h3⟩
      · refine Or.inr ⟨e, fun j h1 h2 h3 => ?_⟩
        by_cases cj : j = i
        · subst cj; exact c h3
        · exact h j (by omega) h2 h3
theorem peoM {M : Mem} {nm : Nat} {v : Int32} (hm : M 0 0 = nI nm) (hn : nm ≤ 10) : ∀ k i n (acc : Int32), isB acc → i + k = nm → k < n → (fX9_hasMember_4 M v n acc (nI i) = some 1 ∧ (acc = 1 ∨ ∃ j, i ≤ j ∧ j < nm ∧ M 2 j = v)) ∨ (fX9_hasMember_4 M v n acc (nI i) = some 0 ∧ acc = 0 ∧ ∀ j, i ≤ j → j < nm → ¬ M 2 j = v) := by
  intro k
  induction k with
  | zero =>
    intro i n acc ha hi hk
    obtain ⟨n', rfl⟩ : ∃ n', n = n' + 1 := ⟨n - 1, by omega⟩
    rw [fX9_hasMember_4, hm, if_pos (nI_le (by omega) (by omega)), gB_ok ha]
    rcases ha with rfl | rfl
    · exact Or.inr ⟨rfl, rfl, fun j h1 h2 => by omega⟩
    · exact Or.inl ⟨rfl, Or.inl rfl⟩
  | succ k ih =>
    intro i n acc ha hi hk
    obtain ⟨n', rfl⟩ : ∃ n', n = n' + 1 := ⟨n - 1, by omega⟩
    rw [fX9_hasMember_4, hm, if_neg (nI_ge (by omega) (by omega)), gI_nI (show i < 10 by omega) (by decide), nI_clamp (by omega), nI_1]
    by_cases c : M 2 i = v
    · rw [if_pos c]
      have e1 : acc ||| 1 = 1 := by rcases ha with rfl | rfl <;> rfl
      rw [e1]
      rcases ih (i + 1) n' 1 (Or.inr rfl) (by omega) (by omega) with ⟨e, -⟩ | ⟨-, e, -⟩
      · exact Or.inl ⟨e, Or.inr ⟨i, Nat.le_refl i, by omega, c⟩⟩
      · exact absurd e (by decide)
    · rw [if_neg c]
      have e1 : acc ||| 0 = acc := by rcases ha with rfl | rfl <;> rfl
      rw [e1]
      rcases ih (i + 1) n' acc ha (by omega) (by omega) with ⟨e, q | ⟨j, h1, h2, h3⟩⟩ | ⟨e, ea, h⟩
      · exact Or.inl ⟨e, Or.inl q⟩
      · exact Or.inl ⟨e, Or.inr ⟨j, by omega, h2, h3⟩⟩
      · refine Or.inr ⟨e, ea, fun j h1 h2 h3 => ?_⟩
        by_cases cj : j = i
        · subst cj; exact c h3
        · exact h j (by omega) h2 h3
theorem tsum_nat {D T : Nat → Int32} {d : Int32} {B : Nat} : ∀ n, (∀ j, j < n → ∃ t, t ≤ B ∧ T j = nI t) → ∃ τ, τ ≤ n * B ∧ tsum D T d n = nI τ := by
  intro n
  induction n with
  | zero => intro _; exact ⟨0, by omega, rfl⟩
  | succ n ih =>
    intro h
    obtain ⟨τ, h1, h2⟩ := ih (fun j hj => h j (by omega))
    rw [tsum, h2]
    have e : (n + 1) * B = n * B + B := Nat.succ_mul n B
    by_cases c : D n = d
    · obtain ⟨t, ht, et⟩ := h n (by omega)
      rw [if_pos c, et, nI_add]
      exact ⟨τ + t, by omega, rfl⟩
    · rw [if_neg c, Int32.add_zero]
      exact ⟨τ, by omega, rfl⟩
theorem tsum_zero {D T : Nat → Int32} {d : Int32} : ∀ n, (∀ j, j < n → ¬ D j = d) → tsum D T d n = 0 := by
  intro n
  induction n with
  | zero => intro _; rfl
  | succ n ih =>
    intro h
    rw [tsum, ih (fun j hj => h j (by omega)), if_neg (h n (by omega))]
    rfl
/-- what both know of the delegations: whether peopled, and their time -/
def fairF (X M : Mem) (pf : Nat → Int32) (tf : Nat → Nat) : Prop := ∀ d, d < 5 → isB (pf d) ∧ fX4_isPeopled X (nI d) = some (pf d) ∧ fX9_hasMember M (nI d) = some (pf d) ∧ fX7_delegationTime 5 X (nI d) = some (nI (tf d)) ∧ fX9_timeOf M (nI d) = some (nI (tf d)) ∧ tf d ≤ 600000 ∧ (pf d = 0 → tf d = 0)
theorem fair_get {t : Nat} {X M : Mem} (h : Rel t X M) (ht : t < 512) : ∃ pf tf, fairF X M pf tf := by
  obtain ⟨nm, na, nk, nf, nr, ng, nq, h1, h2, h3, h4, h5, h6, h7, h8, h9, h10, h11⟩ := id h
  have hf := fu_gt
  have hn := h1.1
  have key : ∀ d, ∃ q : Int32 × Nat, d < 5 → isB q.1 ∧ fX4_isPeopled X (nI d) = some q.1 ∧ fX9_hasMember M (nI d) = some q.1 ∧ fX7_delegationTime 5 X (nI d) = some (nI q.2) ∧ fX9_timeOf M (nI d) = some (nI q.2) ∧ q.2 ≤ 600000 ∧ (q.1 = 0 → q.2 = 0) := by
    intro d
    by_cases hd : d < 5
    · obtain ⟨τ, hτ, eτ⟩ := tsum_nat (D := M 2) (T := M 4) (d := nI d) (B := 100 * t) nm (fun j hj => h4.1 j (by omega))
      have hb : τ ≤ 600000 := by
        have : nm * (100 * t) ≤ 10 * (100 * t) := Nat.mul_le_mul_right _ hn
        omega
      have eX : fX7_delegationTime 5 X (nI d) = some (nI τ) := by
        unfold fX7_delegationTime
        rw [atF_nI hd (by decide), h2.2.2.2.2.2.2.2.2.1 d hd, eτ]
      have eM : fX9_timeOf M (nI d) = some (nI τ) := by rw [timeOf_eq h1, eτ]
      rcases peoX (v := nI d) h1.2.1 hn nm 0 fu (by omega) (by omega) with ⟨e, j, j1, j2, j3⟩ | ⟨e, he⟩
      · rcases peoM (v := nI d) h1.2.2.1 hn nm 0 fu 0 (Or.inl rfl) (by omega) (by omega) with ⟨e2, -⟩ | ⟨e2, -, g⟩
        · exact ⟨(1, τ), fun _ => ⟨Or.inr rfl, e, e2, eX, eM, hb, fun q => absurd q n10⟩⟩
        · exact absurd (by rw [← h1.2.2.2.2.1 j (by omega)]; exact j3) (g j j1 j2)
      · rcases peoM (v := nI d) h1.2.2.1 hn nm 0 fu 0 (Or.inl rfl) (by omega) (by omega) with ⟨e2, q | ⟨j, j1, j2, j3⟩⟩ | ⟨e2, -, g⟩
        · exact absurd q (by decide)
        · exact absurd (by rw [h1.2.2.2.2.1 j (by omega)]; exact j3) (he j j1 j2)
        · refine ⟨(0, τ), fun _ => ⟨Or.inl rfl, e, e2, eX, eM, hb, fun _ => ?_⟩⟩
          have := tsum_zero (D := M 2) (T := M 4) (d := nI d) nm (fun j hj => g j (by omega) hj)
          rw [eτ] at this
          exact nI_inj (b := 0) (by omega) (by omega) this
    · exact ⟨(0, 0), fun q => absurd q hd⟩
  obtain ⟨f, hfn⟩ := Classical.axiomOfChoice key
  exact ⟨fun d => (f d).1, fun d => (f d).2, hfn⟩
theorem apart_loop {X M : Mem} {pf : Nat → Int32} {tf : Nat → Nat} (h : fairF X M pf tf) : ∀ k d n n', d + k = 5 → k < n → k < n' → (∃ r, fX8_apart_9 X n 0 0 0 (nI d) = some r ∧ fX9_apart_6 M n' (-1) 0 (nI d) = some r) ∧ ∀ hi lo : Nat, hi ≤ 600000 → lo ≤ 600000 → ∃ r, fX8_apart_9 X n (nI hi) (nI lo) 1 (nI d) = some r ∧ fX9_apart_6 M n' (nI lo) (nI hi) (nI d) = some r := by
  intro k
  induction k with
  | zero =>
    intro d n n' hd h1 h2
    obtain ⟨m1, rfl⟩ : ∃ q, n = q + 1 := ⟨n - 1, by omega⟩
    obtain ⟨m2, rfl⟩ : ∃ q, n' = q + 1 := ⟨n' - 1, by omega⟩
    have c5 : (5 : Int32) ≤ nI d := nI_le (a := 5) (by omega) (by omega)
    refine ⟨⟨0, ?_, ?_⟩, fun hi lo a1 a2 => ⟨nI hi - nI lo, ?_, ?_⟩⟩
    · rw [fX8_apart_9, if_pos c5]; rfl
    · rw [fX9_apart_6, if_pos c5, if_neg (by decide)]
    · rw [fX8_apart_9, if_pos c5]
    · rw [fX9_apart_6, if_pos c5, if_pos (nI_pos' (by omega))]
  | succ k ih =>
    intro d n n' hd h1 h2
    obtain ⟨m1, rfl⟩ : ∃ q, n = q + 1 := ⟨n - 1, by omega⟩
    obtain ⟨m2, rfl⟩ : ∃ q, n' = q + 1 := ⟨n' - 1, by omega⟩
    have c5 : ¬ (5 : Int32) ≤ nI d := nI_ge (b := 5) (by omega) (by decide)
    obtain ⟨b1, b2, b3, b4, b5, b6, b7⟩ := h d (by omega)
    obtain ⟨i1, i2⟩ := ih (d + 1) m1 m2 (by omega) (by omega) (by omega)
    refine ⟨?_, fun hi lo a1 a2 => ?_⟩
    · rw [fX8_apart_9, fX9_apart_6, if_neg c5, if_neg c5, b2, b3, b4, b5, ob1_some, ob1_some, ob1_some, ob1_some, nI_1]
      rcases b1 with e | e
      · rw [e, if_pos rfl, if_pos rfl]; exact i1
      · rw [e, if_neg n10, if_neg n10, if_pos rfl, if_pos rfl, if_pos (show (-1 : Int32) < 0 by decide)]
        by_cases c : nI (tf d) ≤ 0
        · have : tf d = 0 := by have := (nI_leI (b := 0) (by omega) (by omega)).mp c; omega
          rw [if_pos c, this]
          exact i2 0 0 (by omega) (by omega)
        · rw [if_neg c]
          exact i2 (tf d) (tf d) b6 b6
    · rw [fX8_apart_9, fX9_apart_6, if_neg c5, if_neg c5, b2, b3, b4, b5, ob1_some, ob1_some, ob1_some, ob1_some, nI_1]
      rcases b1 with e | e
      · rw [e, if_pos rfl, if_pos rfl]; exact i2 hi lo a1 a2
      · rw [e, if_neg n10, if_neg n10, if_neg n10, if_neg n10, if_neg (nI_pos (by omega))]
        by_cases c1 : nI lo ≤ nI (tf d)
        · have d1 : ¬ nI (tf d) < nI lo := nI_nlt ((nI_leI (by omega) (by omega)).mp c1) (by omega)
          rw [if_pos c1, if_neg d1]
          by_cases c2 : nI (tf d) ≤ nI hi
          · have d2 : ¬ nI hi < nI (tf d) := nI_nlt ((nI_leI (by omega) (by omega)).mp c2) (by omega)
            rw [if_pos c2, if_neg d2]; exact i2 hi lo a1 a2
          · have d2 : nI hi < nI (tf d) := nI_lt (Nat.not_le.mp (fun q => c2 (nI_le q (by omega)))) (by omega)
            rw [if_neg c2, if_pos d2]; exact i2 (tf d) lo b6 a2
        · have d1 : nI (tf d) < nI lo := nI_lt (Nat.not_le.mp (fun q => c1 (nI_le q (by omega)))) (by omega)
          rw [if_neg c1, if_pos d1]
          by_cases c2 : nI (tf d) ≤ nI hi
          · have d2 : ¬ nI hi < nI (tf d) := nI_nlt ((nI_leI (by omega) (by omega)).mp c2) (by omega)
            rw [if_pos c2, if_neg d2]; exact i2 hi (tf d) a1 b6
          · have d2 : nI hi < nI (tf d) := nI_lt (Nat.not_le.mp (fun q => c2 (nI_le q (by omega)))) (by omega)
            rw [if_neg c2, if_pos d2]; exact i2 (tf d) (tf d) b6 b6
theorem sim_apart {t : Nat} {X M : Mem} (h : Rel t X M) (ht : t < 512) : ∃ (r : Int32), fX8_apart X = some r ∧ fX9_apart M = some r := by
  obtain ⟨pf, tf, hF⟩ := fair_get h ht
  have hf := fu_gt
  exact (apart_loop hF 5 0 fu fu (by omega) (by omega) (by omega)).1
def gapN (pf : Nat → Int32) (tf : Nat → Nat) (d c : Nat) : Nat := if pf c = 0 then 0 else if pf d = 0 then 0 else if tf d ≤ tf c then tf c - tf d else tf d - tf c
def sIn (pf : Nat → Int32) (tf : Nat → Nat) (d : Nat) : Nat → Nat
  | 0 => 0
  | c + 1 => sIn pf tf d c + gapN pf tf d c
def sGp (pf : Nat → Int32) (tf : Nat → Nat) : Nat → Nat
  | 0 => 0
  | d + 1 => sGp pf tf d + sIn pf tf d d
def nPe (pf : Nat → Int32) : Nat → Nat
  | 0 => 0
  | d + 1 => if pf d = 0 then nPe pf d else nPe pf d + 1
def aTi (tf : Nat → Nat) : Nat → Nat
  | 0 => 0
  | d + 1 => aTi tf d + tf d
theorem abs_X {a b : Nat} (ha : a ≤ 600000) (hb : b ≤ 600000) : (if (0 : Int32) ≤ nI a - nI b then nI a - nI b else 0 - (nI a - nI b)) = nI (if a ≤ b then b - a else a - b) := by
  have e := sub_toInt (z := a) (N := b) (by omega) (by omega)
  by_cases c : (0 : Int32) ≤ nI a - nI b
  · rw [if_pos c]
    rw [Int32.le_iff_toInt_le, e] at c
    have z : (0 : Int32).toInt = 0 := by decide
    have hba : b ≤ a := by omega
    rw [pk_sub hba]
    by_cases q : a ≤ b
    · rw [if_pos q, show a - b = b - a by omega]
    · rw [if_neg q]
  · rw [if_neg c]
    rw [Int32.le_iff_toInt_le, e] at c
    have z : (0 : Int32).toInt = 0 := by decide
    have hab : a ≤ b := by omega
    rw [if_pos hab, Int32.zero_sub, Int32.neg_sub, pk_sub hab]
theorem abs_M {a b : Nat} (ha : a ≤ 600000) (hb : b ≤ 600000) : (if (0 : Int32) ≤ nI a - nI b then nI a - nI b else -(nI a - nI b)) = nI (if b ≤ a then a - b else b - a) := by
  have e := sub_toInt (z := a) (N := b) (by omega) (by omega)
  have z : (0 : Int32).toInt = 0 := by decide
  by_cases c : (0 : Int32) ≤ nI a - nI b
  · rw [if_pos c]
    rw [Int32.le_iff_toInt_le, e] at c
    have hba : b ≤ a := by omega
    rw [pk_sub hba, if_pos hba]
  · rw [if_neg c]
    rw [Int32.le_iff_toInt_le, e] at c
    rw [if_neg (by omega), Int32.neg_sub, pk_sub (by omega)]
theorem gapX {X M : Mem} {pf : Nat → Int32} {tf : Nat → Nat} (h : fairF X M pf tf) {d S : Nat} (hd : d < 5) {kc : Int32 → Int32 → Option Int32} : ∀ k c n, c + k = d → k < n → fX8_gapsOfPairs_11 X (nI d) kc n (nI (S + sIn pf tf d c)) (nI c) = kc (nI (S + sIn pf tf d d)) (nI (d + 1)) := by
  intro k
  induction k with
  | zero =>
    intro c n hc hn
    obtain ⟨m, rfl⟩ : ∃ q, n = q + 1 := ⟨n - 1, by omega⟩
    have : c = d := by omega
    subst this
    rw [fX8_gapsOfPairs_11, if_pos (nI_le (Nat.le_refl c) (by omega)), nI_1]
  | succ k ih =>
    intro c n hc hn
    obtain ⟨m, rfl⟩ : ∃ q, n = q + 1 := ⟨n - 1, by omega⟩
    obtain ⟨b1, b2, b3, b4, b5, b6, b7⟩ := h d hd
    obtain ⟨c1, c2, c3, c4, c5, c6, c7⟩ := h c (by omega)
    have hs := ih (c + 1) m (by omega) (by omega)
    rw [sIn] at hs
    rw [fX8_gapsOfPairs_11, if_neg (nI_ge (by omega) (by omega)), b2, c2, b4, c4, ob1_some, ob1_some, ob1_some, ob1_some, nI_1, abs_X b6 c6]
    unfold gapN at hs
    rcases b1 with e | e
    · rw [if_pos e]
      have : (if pf c = 0 then 0 else if pf d = 0 then 0 else if tf d ≤ tf c then tf c - tf d else tf d - tf c) = 0 := by
        rw [if_pos e]; split <;> rfl
      rw [this, Nat.add_zero] at hs
      exact hs
    · have ne : ¬ pf d = 0 := by rw [e]; exact n10
      rw [if_neg ne]
      rw [if_neg ne] at hs
      by_cases q : pf c = 0
      · rw [if_pos q]
        rw [if_pos q, Nat.add_zero] at hs
        exact hs
      · rw [if_neg q]
        rw [if_neg q] at hs
        rw [nI_add]
        rw [← Nat.add_assoc] at hs
        exact hs
theorem gapX2 {X M : Mem} {pf : Nat → Int32} {tf : Nat → Nat} (h : fairF X M pf tf) : ∀ k d n, d + k = 5 → k < n → fX8_gapsOfPairs_4 X n (nI (sGp pf tf d)) (nI d) = some (nI (sGp pf tf 5)) := by
  have hf := fu_gt
  intro k
  induction k with
  | zero =>
    intro d n hd hn
    obtain ⟨m, rfl⟩ : ∃ q, n = q + 1 := ⟨n - 1, by omega⟩
    have : d = 5 := by omega
    subst this
    rw [fX8_gapsOfPairs_4, if_pos (show (5 : Int32) ≤ nI 5 by decide)]
  | succ k ih =>
    intro d n hd hn
    obtain ⟨m, rfl⟩ : ∃ q, n = q + 1 := ⟨n - 1, by omega⟩
    rw [fX8_gapsOfPairs_4, if_neg (show ¬ (5 : Int32) ≤ nI d from nI_ge (b := 5) (by omega) (by decide))]
    have e : fX8_gapsOfPairs_11 X (nI d) (fX8_gapsOfPairs_4 X m) fu (nI (sGp pf tf d)) 0 = _ := gapX h (S := sGp pf tf d) (kc := fX8_gapsOfPairs_4 X m) (show d < 5 by omega) d 0 fu (by omega) (by omega)
    rw [e]
    exact ih (d + 1) m (by omega) (by omega)
theorem peoX2 {X M : Mem} {pf : Nat → Int32} {tf : Nat → Nat} (h : fairF X M pf tf) : ∀ k d n, d + k = 5 → k < n → fX8_peopledDelegations_4 X n (nI (nPe pf d)) (nI d) = some (nI (nPe pf 5)) := by
  intro k
  induction k with
  | zero =>
    intro d n hd hn
    obtain ⟨m, rfl⟩ : ∃ q, n = q + 1 := ⟨n - 1, by omega⟩
    have : d = 5 := by omega
    subst this
    rw [fX8_peopledDelegations_4, if_pos (show (5 : Int32) ≤ nI 5 by decide)]
  | succ k ih =>
    intro d n hd hn
    obtain ⟨m, rfl⟩ : ∃ q, n = q + 1 := ⟨n - 1, by omega⟩
    obtain ⟨b1, b2, -⟩ := h d (by omega)
    have hs := ih (d + 1) m (by omega) (by omega)
    rw [nPe] at hs
    rw [fX8_peopledDelegations_4, if_neg (show ¬ (5 : Int32) ≤ nI d from nI_ge (b := 5) (by omega) (by decide)), b2, ob1_some, nI_1, nI_1]
    by_cases c : pf d = 0
    · rw [if_pos c] at hs ⊢; exact hs
    · rw [if_neg c] at hs ⊢; exact hs
theorem allX {X M : Mem} {pf : Nat → Int32} {tf : Nat → Nat} (h : fairF X M pf tf) : ∀ k d n, d + k = 5 → k < n → fX8_allTime_4 X n (nI (aTi tf d)) (nI d) = some (nI (aTi tf 5)) := by
  intro k
  induction k with
  | zero =>
    intro d n hd hn
    obtain ⟨m, rfl⟩ : ∃ q, n = q + 1 := ⟨n - 1, by omega⟩
    have : d = 5 := by omega
    subst this
    rw [fX8_allTime_4, if_pos (show (5 : Int32) ≤ nI 5 by decide)]
  | succ k ih =>
    intro d n hd hn
    obtain ⟨m, rfl⟩ : ∃ q, n = q + 1 := ⟨n - 1, by omega⟩
    obtain ⟨-, -, -, b4, -⟩ := h d (by omega)
    rw [fX8_allTime_4, if_neg (show ¬ (5 : Int32) ≤ nI d from nI_ge (b := 5) (by omega) (by decide)), b4, ob1_some, nI_1, nI_add]
    exact ih (d + 1) m (by omega) (by omega)
theorem gapM {X M : Mem} {pf : Nat → Int32} {tf : Nat → Nat} (h : fairF X M pf tf) {d S : Nat} (hd : d < 5) {z1 z2 z3 : Int32} {kc : Int32 → Int32 → Int32 → Int32 → Option Int32} : ∀ k c n, c + k = d → k < n → fX9_uneven_45 M z1 z2 z3 (nI d) kc n (nI (S + sIn pf tf d c)) (nI c) = kc z2 z3 (nI (S + sIn pf tf d d)) (nI (d + 1)) := by
  intro k
  induction k with
  | zero =>
    intro c n hc hn
    obtain ⟨m, rfl⟩ : ∃ q, n = q + 1 := ⟨n - 1, by omega⟩
    have : c = d := by omega
    subst this
    rw [fX9_uneven_45, if_pos (nI_le (Nat.le_refl c) (by omega)), nI_1]
  | succ k ih =>
    intro c n hc hn
    obtain ⟨m, rfl⟩ : ∃ q, n = q + 1 := ⟨n - 1, by omega⟩
    obtain ⟨b1, b2, b3, b4, b5, b6, b7⟩ := h d hd
    obtain ⟨c1, c2, c3, c4, c5, c6, c7⟩ := h c (by omega)
    have hs := ih (c + 1) m (by omega) (by omega)
    rw [sIn] at hs
    unfold gapN at hs
    rw [fX9_uneven_45, if_neg (nI_ge (by omega) (by omega)), b3, c3, b5, c5, ob1_some, ob1_some, ob1_some, ob1_some, nI_1, Int32.add_zero]
    by_cases q : pf c = 0
    · rw [if_pos q]
      rw [if_pos q, Nat.add_zero] at hs
      exact hs
    · rw [if_neg q]
      rw [if_neg q] at hs
      by_cases q2 : pf d = 0
      · rw [if_pos q2]
        rw [if_pos q2, Nat.add_zero] at hs
        exact hs
      · rw [if_neg q2]
        rw [if_neg q2, ← Nat.add_assoc, ← nI_add, ← abs_M c6 b6] at hs
        by_cases w : (0 : Int32) ≤ nI (tf c) - nI (tf d)
        · rw [if_pos w]
          rw [if_pos w] at hs
          exact hs
        · rw [if_neg w]
          rw [if_neg w] at hs
          exact hs
theorem unM {X M : Mem} {pf : Nat → Int32} {tf : Nat → Nat} (h : fairF X M pf tf) {z1 : Int32} : ∀ k d n, d + k = 5 → k < n → fX9_uneven_10 M z1 n (nI (nPe pf d)) (nI (aTi tf d)) (nI (sGp pf tf d)) (nI d) = fX9_uneven_10 M z1 1 (nI (nPe pf 5)) (nI (aTi tf 5)) (nI (sGp pf tf 5)) (nI 5) := by
  have hf := fu_gt
  intro k
  induction k with
  | zero =>
    intro d n hd hn
    obtain ⟨m, rfl⟩ : ∃ q, n = q + 1 := ⟨n - 1, by omega⟩
    have : d = 5 := by omega
    subst this
    rw [fX9_uneven_10, fX9_uneven_10, if_pos (show (5 : Int32) ≤ nI 5 by decide), if_pos (show (5 : Int32) ≤ nI 5 by decide)]
  | succ k ih =>
    intro d n hd hn
    obtain ⟨m, rfl⟩ : ∃ q, n = q + 1 := ⟨n - 1, by omega⟩
    obtain ⟨b1, b2, b3, b4, b5, b6, b7⟩ := h d (by omega)
    have hs := ih (d + 1) m (by omega) (by omega)
    rw [nPe, aTi, sGp] at hs
    have e : ∀ z2 z3 : Int32, fX9_uneven_45 M z1 z2 z3 (nI d) (fX9_uneven_10 M z1 m) fu (nI (sGp pf tf d)) 0 = _ := fun z2 z3 => gapM h (S := sGp pf tf d) (z1 := z1) (z2 := z2) (z3 := z3) (kc := fX9_uneven_10 M z1 m) (show d < 5 by omega) d 0 fu (by omega) (by omega)
    rw [fX9_uneven_10, if_neg (show ¬ (5 : Int32) ≤ nI d from nI_ge (b := 5) (by omega) (by decide)), b3, b5, ob1_some, ob1_some, ob1_some, e, e, Int32.add_zero, nI_add, nI_1]
    by_cases c : pf d = 0
    · rw [if_pos c] at hs ⊢; exact hs
    · rw [if_neg c] at hs ⊢; exact hs
theorem gcd_both {z0 z1 y0 y1 : Int32} : ∀ k a b i n n', a < 2 ^ 31 → b < 2 ^ 31 → b < 2 ^ k → i + 2 * k + 1 ≤ 100 → 2 * k + 1 < n → 2 * k + 1 < n' → fX8_greatestDivisor_7 z0 z1 n (nI a) (nI b) (nI i) = some (nI (Nat.gcd a b)) ∧ fX9_common_4 y0 y1 n' (nI a) (nI b) = some (nI (Nat.gcd a b)) := by
  intro k
  induction k with
  | zero =>
    intro a b i n n' ha hb hk hi h1 h2
    obtain ⟨m1, rfl⟩ : ∃ q, n = q + 1 := ⟨n - 1, by omega⟩
    obtain ⟨m2, rfl⟩ : ∃ q, n' = q + 1 := ⟨n' - 1, by omega⟩
    have : b = 0 := by simp at hk; exact hk
    subst this
    rw [fX8_greatestDivisor_7, fX9_common_4, if_neg (show ¬ (100 : Int32) ≤ nI i from nI_ge (b := 100) (by omega) (by decide)), if_pos (show nI 0 = 0 from rfl), if_pos (show nI 0 = 0 from rfl), Nat.gcd_zero_right]
    exact ⟨rfl, rfl⟩
  | succ k ih =>
    intro a b i n n' ha hb hk hi h1 h2
    obtain ⟨m1, rfl⟩ : ∃ q, n = q + 1 := ⟨n - 1, by omega⟩
    obtain ⟨m2, rfl⟩ : ∃ q, n' = q + 1 := ⟨n' - 1, by omega⟩
    rw [fX8_greatestDivisor_7, fX9_common_4, if_neg (show ¬ (100 : Int32) ≤ nI i from nI_ge (b := 100) (by omega) (by decide))]
    rcases Nat.eq_zero_or_pos b with rfl | hb0
    · rw [if_pos (show nI 0 = 0 from rfl), if_pos (show nI 0 = 0 from rfl), Nat.gcd_zero_right]
      exact ⟨rfl, rfl⟩
    · have nz : ¬ nI b = 0 := nI_ne0 hb0 hb
      have er : nI a - nI a / nI b * nI b = nI (a % b) := pk_rem ha hb0 hb
      have hr : a % b < b := Nat.mod_lt a hb0
      have eg : Nat.gcd a b = Nat.gcd b (a % b) := by rw [Nat.gcd_comm a b, Nat.gcd_rec b a, Nat.gcd_comm]
      rw [if_neg nz, if_neg nz, gZ_ok nz, gZ_ok nz, er, nI_1, eg]
      obtain ⟨m3, rfl⟩ : ∃ q, m1 = q + 1 := ⟨m1 - 1, by omega⟩
      obtain ⟨m4, rfl⟩ : ∃ q, m2 = q + 1 := ⟨m2 - 1, by omega⟩
      rw [fX8_greatestDivisor_7, fX9_common_4, if_neg (show ¬ (100 : Int32) ≤ nI (i + 1) from nI_ge (b := 100) (by omega) (by decide))]
      generalize a % b = r at hr eg ⊢
      rcases Nat.eq_zero_or_pos r with rfl | hr0
      · rw [if_pos (show nI 0 = 0 from rfl), if_pos (show nI 0 = 0 from rfl), Nat.gcd_zero_right]
        exact ⟨rfl, rfl⟩
      · have nz2 : ¬ nI r = 0 := nI_ne0 hr0 (by omega)
        have er2 : nI b - nI b / nI r * nI r = nI (b % r) := pk_rem hb hr0 (by omega)
        have eg2 : Nat.gcd b r = Nat.gcd r (b % r) := by rw [Nat.gcd_comm b r, Nat.gcd_rec r b, Nat.gcd_comm]
        have hq : b % r < r := Nat.mod_lt b hr0
        have hq2 : 2 * (b % r) < b := by
          have h3 : b % r + r * (b / r) = b := Nat.mod_add_div b r
          have h4 : 1 ≤ b / r := Nat.div_pos (by omega) hr0
          have h5 : r * 1 ≤ r * (b / r) := Nat.mul_le_mul_left r h4
          omega
        rw [if_neg nz2, if_neg nz2, gZ_ok nz2, gZ_ok nz2, er2, nI_1, eg2]
        have hp : 2 ^ (k + 1) = 2 * 2 ^ k := by rw [Nat.pow_succ, Nat.mul_comm]
        exact ih r (b % r) (i + 1 + 1) m3 m4 (by omega) (by omega) (by omega) (by omega) (by omega) (by omega)
theorem sIn_le {X M : Mem} {pf : Nat → Int32} {tf : Nat → Nat} (h : fairF X M pf tf) {d : Nat} (hd : d < 5) : ∀ c, c ≤ d → sIn pf tf d c ≤ c * 600000 := by
  intro c
  induction c with
  | zero => intro _; exact Nat.le_refl 0
  | succ c ih =>
    intro hc
    have h1 := ih (by omega)
    have h2 := (h d hd).2.2.2.2.2.1
    have h3 := (h c (by omega)).2.2.2.2.2.1
    rw [sIn]
    have : gapN pf tf d c ≤ 600000 := by
      unfold gapN
      split
      · omega
      · split
        · omega
        · split <;> omega
    omega
/-- no time: no pair is apart -/
theorem sGp_zero {pf : Nat → Int32} {tf : Nat → Nat} (tz : ∀ d, d < 5 → tf d = 0) : sGp pf tf 5 = 0 := by
  have gz : ∀ d c, d < 5 → c < 5 → gapN pf tf d c = 0 := by
    intro d c hd hc
    unfold gapN
    rw [tz d hd, tz c hc]
    split
    · rfl
    · split
      · rfl
      · rfl
  have iz : ∀ d, d < 5 → ∀ c, c ≤ d → sIn pf tf d c = 0 := by
    intro d hd c
    induction c with
    | zero => intro _; rfl
    | succ c ih =>
      intro hc
      rw [sIn, ih (by omega), gz d c hd (by omega)]
  have e0 := iz 0 (by omega) 0 (by omega)
  have e1 := iz 1 (by omega) 1 (by omega)
  have e2 := iz 2 (by omega) 2 (by omega)
  have e3 := iz 3 (by omega) 3 (by omega)
  have e4 := iz 4 (by omega) 4 (by omega)
  show 0 + sIn pf tf 0 0 + sIn pf tf 1 1 + sIn pf tf 2 2 + sIn pf tf 3 3 + sIn pf tf 4 4 = 0
  omega
theorem sim_uneven {t : Nat} {X M : Mem} (h : Rel t X M) (ht : t < 512) (a1 : Int32) : ∃ (r : Int32), fX8_uneven X a1 = some r ∧ fX9_uneven M a1 = some r := by
  obtain ⟨pf, tf, hF⟩ := fair_get h ht
  have hf := fu_gt
  have e1 : fX8_gapsOfPairs X = some (nI (sGp pf tf 5)) := gapX2 hF 5 0 fu (by omega) (by omega)
  have e2 : fX8_peopledDelegations X = some (nI (nPe pf 5)) := peoX2 hF 5 0 fu (by omega) (by omega)
  have e3 : fX8_allTime X = some (nI (aTi tf 5)) := allX hF 5 0 fu (by omega) (by omega)
  have e4 : fX9_uneven M a1 = _ := unM hF (z1 := a1) 5 0 fu (by omega) (by omega)
  have t0 := (hF 0 (by omega)).2.2.2.2.2
  have t1 := (hF 1 (by omega)).2.2.2.2.2
  have t2 := (hF 2 (by omega)).2.2.2.2.2
  have t3 := (hF 3 (by omega)).2.2.2.2.2
  have t4 := (hF 4 (by omega)).2.2.2.2.2
  have s0 := sIn_le hF (d := 0) (by omega) 0 (by omega)
  have s1 := sIn_le hF (d := 1) (by omega) 1 (by omega)
  have s2 := sIn_le hF (d := 2) (by omega) 2 (by omega)
  have s3 := sIn_le hF (d := 3) (by omega) 3 (by omega)
  have s4 := sIn_le hF (d := 4) (by omega) 4 (by omega)
  have hS : sGp pf tf 5 < 2 ^ 31 := by
    show 0 + sIn pf tf 0 0 + sIn pf tf 1 1 + sIn pf tf 2 2 + sIn pf tf 3 3 + sIn pf tf 4 4 < 2 ^ 31
    omega
  have hA : aTi tf 5 = 0 + tf 0 + tf 1 + tf 2 + tf 3 + tf 4 := rfl
  have hP : ∀ d, nPe pf d ≤ d := by
    intro d
    induction d with
    | zero => exact Nat.le_refl 0
    | succ d ih => rw [nPe]; split <;> omega
  have hP5 := hP 5
  have hPpos : 0 < aTi tf 5 → 0 < nPe pf 5 := by
    intro q
    have mono : ∀ d e, d ≤ e → nPe pf d ≤ nPe pf e := by
      intro d e hde
      induction e with
      | zero => have : d = 0 := by omega
                rw [this]; exact Nat.le_refl _
      | succ e ih =>
        by_cases c : d = e + 1
        · rw [c]; exact Nat.le_refl _
        · have := ih (by omega)
          rw [nPe]; split <;> omega
    have one : ∀ d, d < 5 → 0 < tf d → 0 < nPe pf 5 := by
      intro d hd hp
      have hz : ¬ pf d = 0 := fun z => by
        have := (hF d hd).2.2.2.2.2.2 z
        omega
      have h1 : nPe pf (d + 1) = nPe pf d + 1 := by rw [nPe, if_neg hz]
      have h2 := mono (d + 1) 5 (by omega)
      omega
    by_cases c0 : 0 < tf 0
    · exact one 0 (by omega) c0
    by_cases c1 : 0 < tf 1
    · exact one 1 (by omega) c1
    by_cases c2 : 0 < tf 2
    · exact one 2 (by omega) c2
    by_cases c3 : 0 < tf 3
    · exact one 3 (by omega) c3
    exact one 4 (by omega) (by omega)
  have hAb : aTi tf 5 ≤ 3000000 := by omega
  have hb : nPe pf 5 * aTi tf 5 ≤ 5 * 3000000 := Nat.mul_le_mul hP5 hAb
  unfold fX8_uneven
  rw [e1, e2, e3, e4, fX9_uneven_10, if_pos (show (5 : Int32) ≤ nI 5 by decide)]
  simp only [ob1_some, pk_mul]
  rcases Nat.eq_zero_or_pos (aTi tf 5) with z | z
  · have tz : ∀ d, d < 5 → tf d = 0 := by
      intro d hd
      have : d = 0 ∨ d = 1 ∨ d = 2 ∨ d = 3 ∨ d = 4 := by omega
      rcases this with rfl | rfl | rfl | rfl | rfl <;> omega
    have g1 : fX8_greatestDivisor (nI 0) (nI 0) = some (nI 0) := by
      have g := (gcd_both (z0 := nI 0) (z1 := nI 0) (y0 := nI 0) (y1 := nI 0) 0 0 0 0 fu fu (by omega) (by omega) (by omega) (by omega) (by omega) (by omega)).1
      rw [Nat.gcd_zero_right] at g
      exact g
    rw [z, Nat.mul_zero, sGp_zero tz, g1, ob1_some, if_pos (show nI 0 = 0 from rfl), if_pos (show nI 0 = 0 from rfl)]
    by_cases c : a1 = 0
    · rw [if_pos c]; exact ⟨_, rfl, rfl⟩
    · rw [if_neg c]; exact ⟨_, rfl, rfl⟩
  · have hpp : 0 < nPe pf 5 * aTi tf 5 := Nat.mul_pos (hPpos z) z
    obtain ⟨g1, g2⟩ := gcd_both (z0 := nI (sGp pf tf 5)) (z1 := nI (nPe pf 5 * aTi tf 5)) (y0 := nI (sGp pf tf 5)) (y1 := nI (nPe pf 5 * aTi tf 5)) 31 (sGp pf tf 5) (nPe pf 5 * aTi tf 5) 0 fu fu hS (by omega) (by omega) (by omega) (by omega) (by omega)
    have g1' : fX8_greatestDivisor (nI (sGp pf tf 5)) (nI (nPe pf 5 * aTi tf 5)) = _ := g1
    have g2' : fX9_common (nI (sGp pf tf 5)) (nI (nPe pf 5 * aTi tf 5)) = _ := g2
    have hg0 : 0 < Nat.gcd (sGp pf tf 5) (nPe pf 5 * aTi tf 5) := Nat.gcd_pos_of_pos_right _ hpp
    have hg1 : Nat.gcd (sGp pf tf 5) (nPe pf 5 * aTi tf 5) ≤ nPe pf 5 * aTi tf 5 := Nat.gcd_le_right _ hpp
    have nz : ¬ nI (Nat.gcd (sGp pf tf 5) (nPe pf 5 * aTi tf 5)) = 0 := nI_ne0 hg0 (by omega)
    rw [if_neg (nI_ne0 z (by omega)), g1', g2', ob1_some, ob1_some, if_neg nz]
    by_cases c : a1 = 0
    · rw [if_pos c, gZ_ok nz]; exact ⟨_, rfl, rfl⟩
    · rw [if_neg c, gZ_ok nz]; exact ⟨_, rfl, rfl⟩
