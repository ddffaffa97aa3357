theorem shR_zero {b x m : Int32} (hb : b = 8 ∨ b = 16 ∨ b = 32) (h : shR b x m) : x = 0 ↔ m = 0 := by
  rcases hb with rfl | rfl | rfl
  · obtain ⟨u, hu, rfl, rfl⟩ := h.1 rfl
    have e := toInt8_val hu
    constructor
    · intro q
      have := nI_inj (b := 0) (by omega) (by omega) q
      subst this; decide
    · intro q
      rw [q] at e
      have z : (0 : Int32).toInt = 0 := by decide
      have : u = 0 := by split at e <;> omega
      rw [this]; rfl
  · obtain ⟨u, hu, rfl, rfl⟩ := h.2.1 rfl
    have e := toInt16_val hu
    constructor
    · intro q
      have := nI_inj (b := 0) (by omega) (by omega) q
      subst this; decide
    · intro q
      rw [q] at e
      have z : (0 : Int32).toInt = 0 := by decide
      have : u = 0 := by split at e <;> omega
      rw [this]; rfl
  · rw [h.2.2 rfl]
theorem shR_key {b x m : Int32} (hb : b = 8 ∨ b = 16 ∨ b = 32) (h : shR b x m) : (fX9_isIn x 1 9 = some 1 ∧ fX9_isIn m 1 9 = some 1 ∧ m = x ∧ ∃ v, 1 ≤ v ∧ v ≤ 9 ∧ m = nI v) ∨ (fX9_isIn x 1 9 = some 0 ∧ fX9_isIn m 1 9 = some 0) := by
  have e1 : (1 : Int32).toInt = 1 := by decide
  have e9 : (9 : Int32).toInt = 9 := by decide
  have key : (x = m) ∨ (9 < x.toInt ∧ m.toInt < 1) := by
    rcases hb with rfl | rfl | rfl
    · obtain ⟨u, hu, rfl, rfl⟩ := h.1 rfl
      have e := toInt8_val hu
      have eu := nI_toInt (n := u) (by omega)
      by_cases c : u < 128
      · rw [if_pos c] at e
        exact Or.inl (Int32.toInt_inj.mp (by rw [e, eu]))
      · rw [if_neg c] at e
        exact Or.inr ⟨by omega, by omega⟩
    · obtain ⟨u, hu, rfl, rfl⟩ := h.2.1 rfl
      have e := toInt16_val hu
      have eu := nI_toInt (n := u) (by omega)
      by_cases c : u < 32768
      · rw [if_pos c] at e
        exact Or.inl (Int32.toInt_inj.mp (by rw [e, eu]))
      · rw [if_neg c] at e
        exact Or.inr ⟨by omega, by omega⟩
    · exact Or.inl (h.2.2 rfl)
  rcases key with rfl | ⟨k1, k2⟩
  · rcases isIn_cases x 1 9 with ⟨e, -⟩ | ⟨e, g1, g2⟩
    · exact Or.inr ⟨e, e⟩
    · obtain ⟨v, hv1, hv, rfl⟩ := one_nat (n := 9) (by decide) g1 g2
      exact Or.inl ⟨e, e, rfl, v, hv1, hv, rfl⟩
  · right
    rcases isIn_cases x 1 9 with ⟨e, -⟩ | ⟨e, g1, g2⟩
    · rcases isIn_cases m 1 9 with ⟨e', -⟩ | ⟨e', g1, g2⟩
      · exact ⟨e, e'⟩
      · rw [Int32.lt_iff_toInt_lt] at g1; omega
    · rw [Int32.lt_iff_toInt_lt] at g2; omega
theorem shR_inj {b x m x' m' : Int32} (hb : b = 8 ∨ b = 16 ∨ b = 32) (h : shR b x m) (h' : shR b x' m') : x = x' ↔ m = m' := by
  rcases hb with rfl | rfl | rfl
  · obtain ⟨u, hu, rfl, rfl⟩ := h.1 rfl
    obtain ⟨v, hv, rfl, rfl⟩ := h'.1 rfl
    constructor
    · intro q; rw [q]
    · intro q
      have e1 := toInt8_val hu
      have e2 := toInt8_val hv
      rw [q, e2] at e1
      have : u = v := by split at e1 <;> split at e1 <;> omega
      rw [this]
  · obtain ⟨u, hu, rfl, rfl⟩ := h.2.1 rfl
    obtain ⟨v, hv, rfl, rfl⟩ := h'.2.1 rfl
    constructor
    · intro q; rw [q]
    · intro q
      have e1 := toInt16_val hu
      have e2 := toInt16_val hv
      rw [q, e2] at e1
      have : u = v := by split at e1 <;> split at e1 <;> omega
      rw [this]
  · rw [h.2.2 rfl, h'.2.2 rfl]
section READ
variable {X M : Mem} {s z : Nat} {b : Int32}
theorem len_both (hs : s < 4) (hb : b = 8 ∨ b = 16 ∨ b = 32) (hz : z ≤ 12) (p2 : X (36 + 2 * s) 2 = nI z) (m2 : M 21 s = nI z) (p5 : ∀ i, i < 12 → shR b (X (36 + 2 * s + 1) i) (M 22 (12 * s + i))) : ∀ j i fX fM, i + j = z → j < fX → j < fM → ∃ N, N ≤ z ∧ fX6_lengthToZero_2 (36 + 2 * s) X fX (nI i) = some (nI N) ∧ fX9_read_32 M (nI s) fM (nI i) = fX9_read_70 M (nI s) (nI N) fu 1 0 0 := by
  intro j
  induction j with
  | zero =>
    intro i fX fM hi h1 h2
    obtain ⟨n1, rfl⟩ : ∃ n', fX = n' + 1 := ⟨fX - 1, by omega⟩
    obtain ⟨n2, rfl⟩ : ∃ n', fM = n' + 1 := ⟨fM - 1, by omega⟩
    have : i = z := by omega
    subst this
    rw [fX6_lengthToZero_2, fX9_read_32, gI_nI hs (by decide), nI_clamp (by omega), p2, m2, if_pos (nI_le (Nat.le_refl i) (by omega)), if_pos (nI_le (Nat.le_refl i) (by omega))]
    exact ⟨i, Nat.le_refl i, rfl, rfl⟩
  | succ j ih =>
    intro i fX fM hi h1 h2
    obtain ⟨n1, rfl⟩ : ∃ n', fX = n' + 1 := ⟨fX - 1, by omega⟩
    obtain ⟨n2, rfl⟩ : ∃ n', fM = n' + 1 := ⟨fM - 1, by omega⟩
    rw [fX6_lengthToZero_2, fX9_read_32, gI_nI hs (by decide), nI_clamp (by omega), p2, m2, if_neg (nI_ge (by omega) (by omega)), if_neg (nI_ge (by omega) (by omega)), fX6_numberAt, ob1_some, atF_nI (show i < 12 by omega) (by decide), mul12, gI_nI (show 12 * s + i < 48 by omega) (by decide), nI_clamp (by omega), nI_1]
    by_cases c : X (36 + 2 * s + 1) i = 0
    · rw [if_pos c, if_pos ((shR_zero hb (p5 i (by omega))).mp c)]
      exact ⟨i, by omega, rfl, rfl⟩
    · rw [if_neg c, if_neg (fun q => c ((shR_zero hb (p5 i (by omega))).mpr q))]
      exact ih (i + 1) n1 n2 (by omega) (by omega) (by omega)
theorem flt36 {k N c : Nat} {kc : Int32 → Option Int32} (hN : N ≤ 12) (hc : c < N) : ∀ j d fuel, d + j = c → j < fuel → (fX8_faultOfKeys_36 k X (nI N) (nI c) kc fuel (nI d) = some (-100003) ∧ ∃ e, d ≤ e ∧ e < c ∧ X (k + 1) c = X (k + 1) e) ∨ (fX8_faultOfKeys_36 k X (nI N) (nI c) kc fuel (nI d) = kc (nI (c + 1)) ∧ ∀ e, d ≤ e → e < c → ¬ X (k + 1) c = X (k + 1) e) := by
  intro j
  induction j with
  | zero =>
    intro d fuel hd hf
    obtain ⟨n', rfl⟩ : ∃ n', fuel = n' + 1 := ⟨fuel - 1, by omega⟩
    rw [fX8_faultOfKeys_36, if_pos (nI_le (by omega) (by omega)), nI_1]
    exact Or.inr ⟨rfl, fun e h1 h2 => by omega⟩
  | succ j ih =>
    intro d fuel hd hf
    obtain ⟨n', rfl⟩ : ∃ n', fuel = n' + 1 := ⟨fuel - 1, by omega⟩
    rw [fX8_faultOfKeys_36, if_neg (nI_ge (by omega) (by omega)), fX6_numberAt, fX6_numberAt, ob1_some, ob1_some, atF_nI (show c < 12 by omega) (by decide), atF_nI (show d < 12 by omega) (by decide), nI_1]
    by_cases q : X (k + 1) c = X (k + 1) d
    · rw [if_pos q]; exact Or.inl ⟨rfl, d, Nat.le_refl d, by omega, q⟩
    · rw [if_neg q]
      rcases ih (d + 1) n' (by omega) (by omega) with ⟨e, w, h1, h2, h3⟩ | ⟨e, h⟩
      · exact Or.inl ⟨e, w, by omega, h2, h3⟩
      · refine Or.inr ⟨e, fun w h1 h2 h3 => ?_⟩
        by_cases qw : w = d
        · subst qw; exact q h3
        · exact h w (by omega) h2 h3
theorem flt29 {k N : Nat} (hN : N ≤ 12) : ∀ j c fuel, c + j = N → j < fuel → (fX8_faultOfKeys_29 k X (nI N) fuel (nI c) = some (-100003) ∧ ∃ w e, c ≤ w ∧ w < N ∧ e < w ∧ X (k + 1) w = X (k + 1) e) ∨ (fX8_faultOfKeys_29 k X (nI N) fuel (nI c) = (if nI N ≤ 6 then some 0 else some (-100005)) ∧ ∀ w e, c ≤ w → w < N → e < w → ¬ X (k + 1) w = X (k + 1) e) := by
  have hfu := fu_gt
  intro j
  induction j with
  | zero =>
    intro c fuel hc hf
    obtain ⟨n', rfl⟩ : ∃ n', fuel = n' + 1 := ⟨fuel - 1, by omega⟩
    rw [fX8_faultOfKeys_29, if_pos (nI_le (by omega) (by omega))]
    exact Or.inr ⟨rfl, fun w e h1 h2 => by omega⟩
  | succ j ih =>
    intro c fuel hc hf
    obtain ⟨n', rfl⟩ : ∃ n', fuel = n' + 1 := ⟨fuel - 1, by omega⟩
    rw [fX8_faultOfKeys_29, if_neg (nI_ge (by omega) (by omega))]
    rcases flt36 (X := X) (k := k) (kc := fX8_faultOfKeys_29 k X (nI N) n') hN (show c < N by omega) c 0 fu (by omega) (by omega) with ⟨e, w, h1, h2, h3⟩ | ⟨e, h⟩
    · exact Or.inl ⟨e, c, w, Nat.le_refl c, by omega, h2, h3⟩
    · have e' : fX8_faultOfKeys_36 k X (nI N) (nI c) (fX8_faultOfKeys_29 k X (nI N) n') fu 0 = _ := e
      rw [e']
      rcases ih (c + 1) n' (by omega) (by omega) with ⟨e2, w, v, h1, h2, h3, h4⟩ | ⟨e2, h2⟩
      · exact Or.inl ⟨e2, w, v, by omega, h2, h3, h4⟩
      · refine Or.inr ⟨e2, fun w v h3 h4 h5 h6 => ?_⟩
        by_cases qw : w = c
        · subst qw; exact h v (by omega) h5 h6
        · exact h2 w v (by omega) h4 h5 h6
theorem flt2 {k N : Nat} (hN : N ≤ 12) : ∀ j c fuel, c + j = N → j < fuel → (fX8_faultOfKeys_2 k X (nI N) fuel (nI c) = some (-100001) ∧ ∃ w, c ≤ w ∧ w < N ∧ fX9_isIn (X (k + 1) w) 1 9 = some 0) ∨ (fX8_faultOfKeys_2 k X (nI N) fuel (nI c) = fX8_faultOfKeys_29 k X (nI N) fu 0 ∧ ∀ w, c ≤ w → w < N → fX9_isIn (X (k + 1) w) 1 9 = some 1) := by
  intro j
  induction j with
  | zero =>
    intro c fuel hc hf
    obtain ⟨n', rfl⟩ : ∃ n', fuel = n' + 1 := ⟨fuel - 1, by omega⟩
    rw [fX8_faultOfKeys_2, if_pos (nI_le (by omega) (by omega))]
    exact Or.inr ⟨rfl, fun w h1 h2 => by omega⟩
  | succ j ih =>
    intro c fuel hc hf
    obtain ⟨n', rfl⟩ : ∃ n', fuel = n' + 1 := ⟨fuel - 1, by omega⟩
    rw [fX8_faultOfKeys_2, if_neg (nI_ge (by omega) (by omega)), fX6_numberAt, ob1_some, atF_nI (show c < 12 by omega) (by decide), nI_1, fX8_isKey, isIn_eq]
    rcases isIn_cases (X (k + 1) c) 1 9 with ⟨e, -⟩ | ⟨e, -⟩
    · rw [e, ob1_some, ob1_some, if_pos rfl]
      exact Or.inl ⟨rfl, c, Nat.le_refl c, by omega, e⟩
    · rw [e, ob1_some, ob1_some, if_neg n10]
      rcases ih (c + 1) n' (by omega) (by omega) with ⟨e2, w, h1, h2, h3⟩ | ⟨e2, h2⟩
      · exact Or.inl ⟨e2, w, by omega, h2, h3⟩
      · refine Or.inr ⟨e2, fun w h3 h4 => ?_⟩
        by_cases qw : w = c
        · subst qw; exact e
        · exact h2 w (by omega) h4
theorem rd100 {N c : Nat} {z3 : Int32} {kc : Int32 → Int32 → Int32 → Option (Int32 × Mem)} (hs : s < 4) (hN : N ≤ 12) (hc : c < N) : ∀ j d fuel (tw : Int32), d + j = c → j < fuel → isB tw → ∃ tw', isB tw' ∧ fX9_read_100 M (nI s) (nI N) z3 (nI c) kc fuel tw (nI d) = kc z3 tw' (nI (c + 1)) ∧ (tw' = 1 ↔ tw = 1 ∨ ∃ e, d ≤ e ∧ e < c ∧ M 22 (12 * s + c) = M 22 (12 * s + e)) := by
  intro j
  induction j with
  | zero =>
    intro d fuel tw hd hf ht
    obtain ⟨n', rfl⟩ : ∃ n', fuel = n' + 1 := ⟨fuel - 1, by omega⟩
    rw [fX9_read_100, if_pos (nI_le (by omega) (by omega)), nI_1]
    exact ⟨tw, ht, rfl, fun q => Or.inl q, fun q => q.elim id (fun ⟨e, h1, h2, _⟩ => by omega)⟩
  | succ j ih =>
    intro d fuel tw hd hf ht
    obtain ⟨n', rfl⟩ : ∃ n', fuel = n' + 1 := ⟨fuel - 1, by omega⟩
    rw [fX9_read_100, if_neg (nI_ge (by omega) (by omega)), mul12, mul12, gI_nI (show 12 * s + c < 48 by omega) (by decide), gI_nI (show 12 * s + d < 48 by omega) (by decide), nI_clamp (by omega), nI_clamp (by omega), nI_1]
    by_cases q : M 22 (12 * s + c) = M 22 (12 * s + d)
    · rw [if_pos q, show tw ||| 1 = 1 from by rcases ht with rfl | rfl <;> rfl]
      obtain ⟨tw', h1, h2, h3⟩ := ih (d + 1) n' 1 (by omega) (by omega) (Or.inr rfl)
      exact ⟨tw', h1, h2, fun _ => Or.inr ⟨d, Nat.le_refl d, by omega, q⟩, fun _ => h3.mpr (Or.inl rfl)⟩
    · rw [if_neg q, show tw ||| 0 = tw from by rcases ht with rfl | rfl <;> rfl]
      obtain ⟨tw', h1, h2, h3⟩ := ih (d + 1) n' tw (by omega) (by omega) ht
      refine ⟨tw', h1, h2, fun w => ?_, fun w => h3.mpr ?_⟩
      · rcases h3.mp w with w | ⟨e, a1, a2, a3⟩
        · exact Or.inl w
        · exact Or.inr ⟨e, by omega, a2, a3⟩
      · rcases w with w | ⟨e, a1, a2, a3⟩
        · exact Or.inl w
        · refine Or.inr ⟨e, ?_, a2, a3⟩
          by_cases qe : e = d
          · subst qe; exact absurd a3 q
          · omega
theorem rd70 {N : Nat} (hs : s < 4) (hN : N ≤ 12) : ∀ j c fuel (gd tw : Int32), c + j = N → j < fuel → isB gd → isB tw → ∃ gd' tw', isB gd' ∧ isB tw' ∧ fX9_read_70 M (nI s) (nI N) fuel gd tw (nI c) = fX9_read_70 M (nI s) (nI N) 1 gd' tw' (nI N) ∧ (gd' = 1 ↔ gd = 1 ∧ ∀ w, c ≤ w → w < N → fX9_isIn (M 22 (12 * s + w)) 1 9 = some 1) ∧ (tw' = 1 ↔ tw = 1 ∨ ∃ w e, c ≤ w ∧ w < N ∧ e < w ∧ M 22 (12 * s + w) = M 22 (12 * s + e)) := by
  have hfu := fu_gt
  intro j
  induction j with
  | zero =>
    intro c fuel gd tw hc hf hg ht
    obtain ⟨n', rfl⟩ : ∃ n', fuel = n' + 1 := ⟨fuel - 1, by omega⟩
    have : c = N := by omega
    subst this
    refine ⟨gd, tw, hg, ht, ?_, ⟨fun q => ⟨q, fun w h1 h2 => by omega⟩, fun q => q.1⟩, ⟨fun q => Or.inl q, fun q => q.elim id (fun ⟨w, e, h1, h2, _⟩ => by omega)⟩⟩
    rw [fX9_read_70, fX9_read_70, if_pos (nI_le (Nat.le_refl c) (by omega)), if_pos (nI_le (Nat.le_refl c) (by omega))]
  | succ j ih =>
    intro c fuel gd tw hc hf hg ht
    obtain ⟨n', rfl⟩ : ∃ n', fuel = n' + 1 := ⟨fuel - 1, by omega⟩
    rw [fX9_read_70, if_neg (nI_ge (by omega) (by omega)), mul12, gI_nI (show 12 * s + c < 48 by omega) (by decide), nI_clamp (by omega)]
    have step : ∀ r, isB r → fX9_isIn (M 22 (12 * s + c)) 1 9 = some r → ∃ gd' tw', isB gd' ∧ isB tw' ∧ fX9_read_100 M (nI s) (nI N) (gd &&& r) (nI c) (fX9_read_70 M (nI s) (nI N) n') fu tw 0 = fX9_read_70 M (nI s) (nI N) 1 gd' tw' (nI N) ∧ (gd' = 1 ↔ gd = 1 ∧ ∀ w, c ≤ w → w < N → fX9_isIn (M 22 (12 * s + w)) 1 9 = some 1) ∧ (tw' = 1 ↔ tw = 1 ∨ ∃ w e, c ≤ w ∧ w < N ∧ e < w ∧ M 22 (12 * s + w) = M 22 (12 * s + e)) := by
      intro r hr er
      obtain ⟨t1, a1, a2, a3⟩ := rd100 (M := M) (z3 := gd &&& r) (kc := fX9_read_70 M (nI s) (nI N) n') hs hN (show c < N by omega) c 0 fu tw (by omega) (by omega) ht
      have a2' : fX9_read_100 M (nI s) (nI N) (gd &&& r) (nI c) (fX9_read_70 M (nI s) (nI N) n') fu tw 0 = _ := a2
      rw [a2']
      have hgr : isB (gd &&& r) := by
        rcases hg with rfl | rfl <;> rcases hr with rfl | rfl
        · exact Or.inl rfl
        · exact Or.inl rfl
        · exact Or.inl rfl
        · exact Or.inr rfl
      obtain ⟨gd', tw', b1, b2, b3, b4, b5⟩ := ih (c + 1) n' (gd &&& r) t1 (by omega) (by omega) hgr a1
      refine ⟨gd', tw', b1, b2, b3, b4.trans ⟨fun q => ?_, fun q => ?_⟩, b5.trans ⟨fun q => ?_, fun q => ?_⟩⟩
      · obtain ⟨q1, q2⟩ := q
        have hg1 : gd = 1 ∧ r = 1 := by
          rcases hg with rfl | rfl <;> rcases hr with rfl | rfl
          · exact absurd q1 (by decide)
          · exact absurd q1 (by decide)
          · exact absurd q1 (by decide)
          · exact ⟨rfl, rfl⟩
        refine ⟨hg1.1, fun w h1 h2 => ?_⟩
        by_cases qw : w = c
        · rw [qw, er, hg1.2]
        · exact q2 w (by omega) h2
      · obtain ⟨q1, q2⟩ := q
        have : r = 1 := Option.some.inj (er.symm.trans (q2 c (Nat.le_refl c) (by omega)))
        rw [q1, this]
        exact ⟨rfl, fun w h1 h2 => q2 w (by omega) h2⟩
      · rcases q with q | ⟨w, e, h1, h2, h3, h4⟩
        · rcases a3.mp q with q | ⟨e, h1, h2, h3⟩
          · exact Or.inl q
          · exact Or.inr ⟨c, e, Nat.le_refl c, by omega, h2, h3⟩
        · exact Or.inr ⟨w, e, by omega, h2, h3, h4⟩
      · rcases q with q | ⟨w, e, h1, h2, h3, h4⟩
        · exact Or.inl (a3.mpr (Or.inl q))
        · by_cases qw : w = c
          · subst qw; exact Or.inl (a3.mpr (Or.inr ⟨e, by omega, h3, h4⟩))
          · exact Or.inr ⟨w, e, by omega, h2, h3, h4⟩
    rcases isIn_cases (M 22 (12 * s + c)) 1 9 with ⟨e, -⟩ | ⟨e, -⟩
    · obtain ⟨g', t', q⟩ := step 0 (Or.inl rfl) e
      rw [e, ob1_some]; exact ⟨g', t', q⟩
    · obtain ⟨g', t', q⟩ := step 1 (Or.inr rfl) e
      rw [e, ob1_some]; exact ⟨g', t', q⟩
theorem rd66 {N : Nat} (hN : N ≤ 6) {z1 z4 : Int32} : ∀ j i fuel (Y : Mem), i + j = N → j < fuel → (∀ a, a ≠ 17 → a ≠ 18 → Y a = X a) → Y 17 2 = nI i → (∀ c, c < 6 → Y 18 c = if c < i then X (36 + 2 * s + 1) c else X 18 c) → ∃ Z : Mem, fX8_read_66 (36 + 2 * s) z1 (nI N) z4 fuel Y (nI i) = some (nI N, Z) ∧ (∀ a, a ≠ 17 → a ≠ 18 → Z a = X a) ∧ Z 17 2 = nI N ∧ ∀ c, c < 6 → Z 18 c = if c < N then X (36 + 2 * s + 1) c else X 18 c := by
  intro j
  induction j with
  | zero =>
    intro i fuel Y hi hf hY h17 h18
    obtain ⟨n', rfl⟩ : ∃ n', fuel = n' + 1 := ⟨fuel - 1, by omega⟩
    have : i = N := by omega
    subst this
    rw [fX8_read_66, if_pos (nI_le (Nat.le_refl i) (by omega))]
    exact ⟨Y, rfl, hY, h17, h18⟩
  | succ j ih =>
    intro i fuel Y hi hf hY h17 h18
    obtain ⟨n', rfl⟩ : ∃ n', fuel = n' + 1 := ⟨fuel - 1, by omega⟩
    rw [fX8_read_66, if_neg (nI_ge (by omega) (by omega)), fX6_numberAt, ob1_some, atF_nI (show i < 12 by omega) (by decide), keyX_def, h17, if_neg (show ¬ (6 : Int32) ≤ nI i from nI_ge (b := 6) (by omega) (by decide)), ob1_some, setF_nI (show i < 6 by omega) (by decide), nI_1, hY _ (show 36 + 2 * s + 1 ≠ 17 by omega) (by omega)]
    refine ih (i + 1) n' _ (by omega) (by omega) (fun a h1 h2 => by rw [up2_n h1, upc_n h2]; exact hY a h1 h2) (by rw [up2_s, upd_s]) (fun c hc => ?_)
    rw [up2_n (by omega), upc_s]
    by_cases q : c = i
    · rw [q, upd_s, if_pos (by omega)]
    · rw [upd_n q, h18 c hc]
      by_cases w : c < i
      · rw [if_pos w, if_pos (by omega)]
      · rw [if_neg w, if_neg (by omega)]
theorem rd200 {N : Nat} (hs : s < 4) (hN : N ≤ 6) {z3 z4 : Int32} : ∀ j i fuel (Y : Mem), i + j = N → j < fuel → (∀ a, a ≠ 8 → Y a = M a) → (∀ c, c < 6 → Y 8 c = if c < i then M 22 (12 * s + c) else M 8 c) → ∃ Z : Mem, fX9_read_200 (nI s) (nI N) z3 z4 fuel Y (nI i) = some (nI N, up2 Z 0 9 (nI N)) ∧ (∀ a, a ≠ 8 → Z a = M a) ∧ ∀ c, c < 6 → Z 8 c = if c < N then M 22 (12 * s + c) else M 8 c := by
  intro j
  induction j with
  | zero =>
    intro i fuel Y hi hf hY h8
    obtain ⟨n', rfl⟩ : ∃ n', fuel = n' + 1 := ⟨fuel - 1, by omega⟩
    have : i = N := by omega
    subst this
    rw [fX9_read_200, if_pos (nI_le (Nat.le_refl i) (by omega))]
    exact ⟨Y, rfl, hY, h8⟩
  | succ j ih =>
    intro i fuel Y hi hf hY h8
    obtain ⟨n', rfl⟩ : ∃ n', fuel = n' + 1 := ⟨fuel - 1, by omega⟩
    rw [fX9_read_200, if_neg (nI_ge (by omega) (by omega)), mul12, gI_nI (show 12 * s + i < 48 by omega) (by decide), gI_nI (show i < 6 by omega) (by decide), nI_clamp (by omega), nI_clamp (by omega), nI_1, hY 22 (by omega)]
    refine ih (i + 1) n' _ (by omega) (by omega) (fun a h1 => by rw [up2_n h1]; exact hY a h1) (fun c hc => ?_)
    rw [up2_s]
    by_cases q : c = i
    · rw [q, upd_s, if_pos (by omega)]
    · rw [upd_n q, h8 c hc]
      by_cases w : c < i
      · rw [if_pos w, if_pos (by omega)]
      · rw [if_neg w, if_neg (by omega)]
end READ
theorem sim_read {t : Nat} {X M : Mem} (h : Rel t X M) (_ht : t < 512) (a1 : Int32) : ∃ (r : Int32) (X2 M2 : Mem), fX8_read X a1 = some (r, X2) ∧ fX9_read M a1 = some (r, M2) ∧ Rel (t + 1) X2 M2 := by
  have hfu := fu_gt
  unfold fX8_read fX9_read fX6_isMissing
  rcases sh_cases a1 with ⟨e1, e2⟩ | ⟨s, hs, rfl, e1, e2⟩
  · simp only [e1, e2, oc_none, ob1_some, ob2_some', fX8_fin, fX9_fin, ↓reduceIte]
    exact ⟨_, _, _, rfl, rfl, Rel_fnd h⟩
  obtain ⟨p1, p2, p3, ⟨z, hz, p4⟩, p5⟩ := she_get (Rel_she h) hs
  simp only [e1, e2, oc_some, ob1_some, ob2_some', fX8_fin, fX9_fin, n10, ↓reduceIte, gI_nI hs (show 4 < 2 ^ 31 by decide), nI_clamp (show s < 2 ^ 31 by omega), p1]
  by_cases c0 : M 20 s = 0
  · simp only [c0, ↓reduceIte, ob1_some, n10]
    exact ⟨_, _, _, rfl, rfl, Rel_fnd h⟩
  have hb : M 20 s = 8 ∨ M 20 s = 16 ∨ M 20 s = 32 := p3.resolve_left c0
  have p5' : ∀ i, i < 12 → shR (M 20 s) (X (36 + 2 * s + 1) i) (M 22 (12 * s + i)) := fun i hi => by
    rw [show 36 + 2 * s + 1 = 37 + 2 * s by omega]; exact p5 i hi
  obtain ⟨N, hN, l1, l2⟩ := len_both (X := X) (M := M) hs hb hz (p2.trans p4) p4 p5' z 0 fu fu (by omega) (by omega) (by omega)
  have hN12 : N ≤ 12 := by omega
  have l1' : fX6_lengthToZero (36 + 2 * s) X = some (nI N) := l1
  have l2' : fX9_read_32 M (nI s) fu 0 = fX9_read_70 M (nI s) (nI N) fu 1 0 0 := l2
  simp only [c0, ↓reduceIte, ob1_some, l1', l2']
  obtain ⟨gd, tw, b1, b2, b3, b4, b5⟩ := rd70 (M := M) (N := N) hs hN12 N 0 fu 1 0 (by omega) (by omega) (Or.inr rfl) (Or.inl rfl)
  have b3' : fX9_read_70 M (nI s) (nI N) fu 1 0 0 = _ := b3
  rw [b3', fX9_read_70, if_pos (nI_le (Nat.le_refl N) (by omega))]
  simp only [ob2_some', fX9_fin]
  unfold fX8_faultOfKeys
  have k0 : ¬ (-100001 : Int32) = 0 := by decide
  have k3 : ¬ (-100003 : Int32) = 0 := by decide
  have k5 : ¬ (-100005 : Int32) = 0 := by decide
  rcases flt2 (X := X) (k := 36 + 2 * s) hN12 N 0 fu (by omega) (by omega) with ⟨f1, w, w1, w2, w3⟩ | ⟨f1, f2⟩
  · have f1' : fX8_faultOfKeys_2 (36 + 2 * s) X (nI N) fu 0 = _ := f1
    have hg : gd = 0 := by
      rcases b1 with q | q
      · exact q
      · rcases shR_key hb (p5' w (by omega)) with ⟨q1, -⟩ | ⟨-, q2⟩
        · rw [w3] at q1; exact absurd (Option.some.inj q1) (by decide)
        · rw [(b4.mp q).2 w w1 w2] at q2; exact absurd (Option.some.inj q2) (by decide)
    simp only [f1', hg, ob1_some, k0, ↓reduceIte]
    exact ⟨_, _, _, rfl, rfl, Rel_fnd h⟩
  · have f1' : fX8_faultOfKeys_2 (36 + 2 * s) X (nI N) fu 0 = _ := f1
    have hg : gd = 1 := b4.mpr ⟨rfl, fun w w1 w2 => by
      rcases shR_key hb (p5' w (by omega)) with ⟨-, q1, -⟩ | ⟨q2, -⟩
      · exact q1
      · rw [f2 w w1 w2] at q2; exact absurd (Option.some.inj q2) (by decide)⟩
    rcases flt29 (X := X) (k := 36 + 2 * s) hN12 N 0 fu (by omega) (by omega) with ⟨g1, w, v, w1, w2, w3, w4⟩ | ⟨g1, g2⟩
    · have g1' : fX8_faultOfKeys_29 (36 + 2 * s) X (nI N) fu 0 = _ := g1
      have ht : ¬ tw = 0 := by
        have : tw = 1 := b5.mpr (Or.inr ⟨w, v, w1, w2, w3, (shR_inj hb (p5' w (by omega)) (p5' v (by omega))).mp w4⟩)
        rw [this]; exact n10
      simp only [f1', g1', hg, ht, ob1_some, n10, k3, ↓reduceIte]
      exact ⟨_, _, _, rfl, rfl, Rel_fnd h⟩
    · have g1' : fX8_faultOfKeys_29 (36 + 2 * s) X (nI N) fu 0 = _ := g1
      have ht : tw = 0 := by
        rcases b2 with q | q
        · exact q
        · rcases b5.mp q with q | ⟨w, v, w1, w2, w3, w4⟩
          · exact absurd q (by decide)
          · exact absurd ((shR_inj hb (p5' w (by omega)) (p5' v (by omega))).mpr w4) (g2 w v w1 w2 w3)
      by_cases c6 : nI N ≤ 6
      · have hN6 : N ≤ 6 := (nI_leI (b := 6) (by omega) (by decide)).mp c6
        obtain ⟨ZX, x1, x2, x3, x4⟩ := rd66 (X := X) (s := s) (z1 := nI s) (z4 := 0) hN6 N 0 fu (up2 X 17 2 0) (by omega) (by omega) (fun a h1 _ => up2_n h1) rfl (fun c hc => by rw [if_neg (by omega)]; rfl)
        obtain ⟨ZM, y1, y2, y3⟩ := rd200 (M := M) (z3 := 1) (z4 := 0) hs hN6 N 0 fu M (by omega) (by omega) (fun _ _ => rfl) (fun c hc => by rw [if_neg (by omega)])
        have x1' : fX8_read_66 (36 + 2 * s) (nI s) (nI N) 0 fu (up2 X 17 2 0) 0 = _ := x1
        have y1' : fX9_read_200 (nI s) (nI N) 1 0 fu M 0 = _ := y1
        simp only [f1', g1', hg, ht, c6, ob1_some, n10, ↓reduceIte, fX5_clear, x1', y1']
        refine ⟨_, _, _, rfl, rfl, ?_⟩
        have eX : ZX = upc (upc X 17 (ZX 17)) 18 (ZX 18) := by
          funext a
          by_cases c18 : a = 18
          · rw [c18, upc_s]
          · rw [upc_n c18]
            by_cases c17 : a = 17
            · rw [c17, upc_s]
            · rw [upc_n c17, x2 a c17 c18]
        have eM : ZM = upc M 8 (ZM 8) := by
          funext a
          by_cases c8 : a = 8
          · rw [c8, upc_s]
          · rw [upc_n c8, y2 a c8]
        obtain ⟨nm, na, nk, nf, nr, ng, nq, h1, h2, h3, h4, h5, h6, h7, h8, h9, h10, h11⟩ := Rel_mono h
        rw [eX, eM]
        refine ⟨nm, na, N, nf, nr, ng, nq, h1, h2, h3, h4, ⟨hN6, x3, rfl, fun c hc => ?_, fun c hc => ?_⟩, h6, h7, h8, h9, h10, h11⟩
        · show ZX 18 c = ZM 8 c
          rw [x4 c hc, y3 c hc]
          by_cases cc : c < N
          · rw [if_pos cc, if_pos cc]
            rcases shR_key hb (p5' c (by omega)) with ⟨-, -, q1, -⟩ | ⟨q2, -⟩
            · exact q1.symm
            · rw [f2 c (by omega) cc] at q2; exact absurd (Option.some.inj q2) (by decide)
          · rw [if_neg cc, if_neg cc]; exact h5.2.2.2.1 c hc
        · show ∃ v, 1 ≤ v ∧ v ≤ 9 ∧ ZM 8 c = nI v
          rw [y3 c (by omega), if_pos hc]
          rcases shR_key hb (p5' c (by omega)) with ⟨-, -, -, q1⟩ | ⟨q2, -⟩
          · exact q1
          · rw [f2 c (by omega) hc] at q2; exact absurd (Option.some.inj q2) (by decide)
      · simp only [f1', g1', hg, ht, c6, ob1_some, n10, k5, ↓reduceIte]
        exact ⟨_, _, _, rfl, rfl, Rel_fnd h⟩
