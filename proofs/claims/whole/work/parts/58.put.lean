theorem Rel_she {t : Nat} {X M : Mem} (h : Rel t X M) : rShe X M := by
  obtain ⟨nm, na, nk, nf, nr, ng, nq, h1, h2, h3, h4, h5, h6, h7, h8, h9, h10, h11⟩ := h
  exact h10
theorem sub_toInt {z N : Nat} (hz : z < 2 ^ 30) (hN : N < 2 ^ 31) : (nI z - nI N).toInt = (z : Int) - N := by
  rw [Int32.toInt_sub, nI_toInt (by omega), nI_toInt hN, Int.bmod_def]
  split <;> omega
theorem toInt8_val {u : Nat} (hu : u < 256) : ((nI u).toInt8.toInt32).toInt = if u < 128 then (u : Int) else u - 256 := by
  rw [Int8.toInt_toInt32, Int32.toInt_toInt8, nI_toInt (by omega), Int.bmod_def]
  split <;> split <;> omega
theorem toInt16_val {u : Nat} (hu : u < 65536) : ((nI u).toInt16.toInt32).toInt = if u < 32768 then (u : Int) else u - 65536 := by
  rw [Int16.toInt_toInt32, Int32.toInt_toInt16, nI_toInt (by omega), Int.bmod_def]
  split <;> split <;> omega
theorem and_toInt8 (x : Int32) : (x &&& 255).toInt8 = x.toInt8 := by
  apply Int8.toInt_inj.mp
  have hx : x.toInt = x.toBitVec.toInt := rfl
  have hl : x.toBitVec.toNat < 2 ^ 32 := x.toBitVec.isLt
  have hp : x &&& 255 = nI (x.toBitVec.toNat % 2 ^ 8) := pk_and x (m := 255) 8 (by decide)
  rw [Int32.toInt_toInt8, Int32.toInt_toInt8, hp, nI_toInt (by omega), hx, BitVec.toInt_eq_toNat_cond, Int.bmod_def, Int.bmod_def]
  generalize x.toBitVec.toNat = n at hl ⊢
  by_cases c : 2 * n < 2 ^ 32
  · rw [if_pos c]; split <;> split <;> omega
  · rw [if_neg c]; split <;> split <;> omega
theorem and_toInt16 (x : Int32) : (x &&& 65535).toInt16 = x.toInt16 := by
  apply Int16.toInt_inj.mp
  have hx : x.toInt = x.toBitVec.toInt := rfl
  have hl : x.toBitVec.toNat < 2 ^ 32 := x.toBitVec.isLt
  have hp : x &&& 65535 = nI (x.toBitVec.toNat % 2 ^ 16) := pk_and x (m := 65535) 16 (by decide)
  rw [Int32.toInt_toInt16, Int32.toInt_toInt16, hp, nI_toInt (by omega), hx, BitVec.toInt_eq_toNat_cond, Int.bmod_def, Int.bmod_def]
  generalize x.toBitVec.toNat = n at hl ⊢
  by_cases c : 2 * n < 2 ^ 32
  · rw [if_pos c]; split <;> split <;> omega
  · rw [if_neg c]; split <;> split <;> omega
theorem shR_8 (v : Int32) : shR 8 (v &&& 255) v.toInt8.toInt32 := by
  refine ⟨fun _ => ?_, fun h => absurd h (by decide), fun h => absurd h (by decide)⟩
  obtain ⟨j, hj, e⟩ := pk_andE v (m := 255) 8 (by decide)
  refine ⟨j, by omega, e, ?_⟩
  rw [← e, and_toInt8]
theorem shR_16 (v : Int32) : shR 16 (v &&& 65535) v.toInt16.toInt32 := by
  refine ⟨fun h => absurd h (by decide), fun _ => ?_, fun h => absurd h (by decide)⟩
  obtain ⟨j, hj, e⟩ := pk_andE v (m := 65535) 16 (by decide)
  refine ⟨j, by omega, e, ?_⟩
  rw [← e, and_toInt16]
theorem shR_32 (v : Int32) : shR 32 v v := ⟨fun h => absurd h (by decide), fun h => absurd h (by decide), fun _ => rfl⟩
/-- one number of a sheet is put -/
theorem put_good {t s i : Nat} {X M : Mem} {x m : Int32} (h : Rel t X M) (hs : s < 4) (hi : i < 12) (hr : shR (M 20 s) x m) : Rel (t + 1) (upc X (36 + 2 * s + 1) (upd (X (36 + 2 * s + 1)) i x)) (up2 M 22 (12 * s + i) m) := by
  refine Rel_sheet h (fun a ha => upc_n (by omega)) (fun a h1 h2 h3 h4 => up2_n h3) (she_of fun s' hs' => ?_)
  obtain ⟨p1, p2, p3, p4, p5⟩ := she_get (Rel_she h) hs'
  rw [upc_n (show 36 + 2 * s' ≠ 36 + 2 * s + 1 by omega), up2_n (show 20 ≠ 22 by omega), up2_n (show 21 ≠ 22 by omega)]
  refine ⟨p1, p2, p3, p4, fun j hj => ?_⟩
  show shR _ (upc X (36 + 2 * s + 1) (upd (X (36 + 2 * s + 1)) i x) (37 + 2 * s') j) (up2 M 22 (12 * s + i) m 22 (12 * s' + j))
  rw [up2_s]
  by_cases c : s' = s
  · subst c
    rw [show 37 + 2 * s' = 36 + 2 * s' + 1 by omega, upc_s]
    by_cases cj : j = i
    · rw [cj, upd_s, upd_s]; exact hr
    · rw [upd_n cj, upd_n (by omega), show 36 + 2 * s' + 1 = 37 + 2 * s' by omega]; exact p5 j hj
  · rw [upc_n (by omega), upd_n (by omega)]
    exact p5 j hj
theorem sim_put {t : Nat} {X M : Mem} (h : Rel t X M) (_ht : t < 512) (a1 a2 a3 : Int32) : ∃ (r : Int32) (X2 M2 : Mem), fX8_put X a1 a2 a3 = some (r, X2) ∧ fX9_put M a1 a2 a3 = some (r, M2) ∧ Rel (t + 1) X2 M2 := by
  unfold fX8_put fX9_put fX6_size fX6_isMissing fX6_store fX6_lowestBits
  rcases sh_cases a1 with ⟨e1, e2⟩ | ⟨s, hs, rfl, e1, e2⟩
  · simp only [e1, e2, oc_none, ob1_some, ob2_some', fX8_fin, fX9_fin, ↓reduceIte]
    exact ⟨_, _, _, rfl, rfl, Rel_fnd h⟩
  obtain ⟨p1, p2, p3, ⟨n, hn, p4⟩, p5⟩ := she_get (Rel_she h) hs
  simp only [e1, e2, oc_some, ob1_some, ob2_some', fX8_fin, fX9_fin, n10, ↓reduceIte, gI_nI hs (show 4 < 2 ^ 31 by decide), nI_clamp (show s < 2 ^ 31 by omega), p1, p2, p4]
  by_cases c0 : M 20 s = 0
  · simp only [c0, ↓reduceIte, ob1_some, n10]
    exact ⟨_, _, _, rfl, rfl, Rel_fnd h⟩
  simp only [c0, ↓reduceIte, ob1_some]
  rw [isIn_eq]
  rcases pk_ix a2 (n := n) (by omega) with c | c | ⟨i, hi, rfl⟩
  · rcases isIn_cases a2 0 (nI n - 1) with ⟨e3, -⟩ | ⟨e3, g1, -⟩
    · simp only [e3, if_pos c, ob1_some, ↓reduceIte]
      exact ⟨_, _, _, rfl, rfl, Rel_fnd h⟩
    · exact absurd c g1
  · rcases isIn_cases a2 0 (nI n - 1) with ⟨e3, -⟩ | ⟨e3, g1, g2⟩
    · by_cases c2 : a2 < 0
      · simp only [e3, if_pos c2, ob1_some, ↓reduceIte]
        exact ⟨_, _, _, rfl, rfl, Rel_fnd h⟩
      · have c3 : ¬ a2 < nI n := fun q => by
          rw [Int32.lt_iff_toInt_lt] at q; rw [Int32.le_iff_toInt_le] at c; omega
        simp only [e3, c2, c3, ob1_some, ↓reduceIte]
        exact ⟨_, _, _, rfl, rfl, Rel_fnd h⟩
    · refine absurd ?_ g2
      have e := sub_toInt (z := n) (N := 1) (by omega) (by omega)
      have e' : (nI n - 1).toInt = (n : Int) - 1 := e
      rw [Int32.lt_iff_toInt_lt, e']
      rw [Int32.le_iff_toInt_le, nI_toInt (by omega)] at c
      omega
  · have hin : fX9_isIn (nI i) 0 (nI n - 1) = some 1 := by
      rcases isIn_cases (nI i) 0 (nI n - 1) with ⟨-, g | g⟩ | ⟨e3, -⟩
      · exact absurd g (nI_pos (by omega))
      · have e' : (nI n - 1).toInt = (n : Int) - 1 := sub_toInt (z := n) (N := 1) (by omega) (by omega)
        rw [Int32.lt_iff_toInt_lt, e', nI_toInt (by omega)] at g
        omega
      · exact e3
    have i12 : i < 12 := by omega
    simp only [hin, ob1_some, n10, ↓reduceIte, if_neg (nI_pos (show i < 2 ^ 31 by omega)), if_pos (nI_lt hi (show n < 2 ^ 31 by omega)), mul12, gI_nI (show 12 * s + i < 48 by omega) (show 48 < 2 ^ 31 by decide), nI_clamp (show 12 * s + i < 2 ^ 31 by omega), setF_nI i12 (show 12 < 2 ^ 31 by decide)]
    by_cases c8 : M 20 s = 8
    · simp only [c8, ↓reduceIte, ob1_some]
      exact ⟨_, _, _, rfl, rfl, put_good h hs i12 (by rw [c8]; exact shR_8 a3)⟩
    · by_cases c16 : M 20 s = 16
      · simp only [c16, ↓reduceIte, ob1_some, show ¬ (16 : Int32) = 8 by decide]
        exact ⟨_, _, _, rfl, rfl, put_good h hs i12 (by rw [c16]; exact shR_16 a3)⟩
      · simp only [c8, c16, ↓reduceIte, ob1_some]
        have c32 : M 20 s = 32 := by
          rcases p3 with z | z | z | z
          · exact absurd z c0
          · exact absurd z c8
          · exact absurd z c16
          · exact z
        exact ⟨_, _, _, rfl, rfl, put_good h hs i12 (by rw [c32]; exact shR_32 a3)⟩
