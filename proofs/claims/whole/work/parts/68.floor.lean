/-! the floor is left -/
def RelN (T nm na nk nq : Nat) (X M : Mem) : Prop := rRos nm X M ∧ rSta 5 nm na X M ∧ rUni na M ∧ rTim T nm M ∧ rKey nk X M ∧ rVot X M ∧ rRig nq X M ∧ rShe X M ∧ rFnd X M
def rFlG (nm nf dep : Nat) (X M : Mem) : Prop := nf ≤ 5 ∧ X 21 5 = nI dep ∧ M 0 12 = nI dep ∧ (∀ j, j < 5 → X 22 j = M 9 j) ∧ (∀ j, j < 5 → X 23 j = M 10 j) ∧ (∀ j, j < 5 → X 24 j = M 11 j) ∧ (∀ j, j < 5 → X 25 j = M 12 j) ∧ (∀ j, j < nf → ∃ a, a < nm ∧ M 9 j = nI a) ∧ (∀ j, j < nf → ∃ l, 1 ≤ l ∧ l ≤ 100 ∧ M 11 j = nI l) ∧ (∀ s, s < 3 → X 26 s = M 13 s) ∧ ∀ s, s < 3 → ∃ v, 1 ≤ v ∧ v ≤ 50 ∧ M 13 s = nI v
theorem RelN_fr {T nm na nk nq : Nat} {X M X' M' : Mem} (h : RelN T nm na nk nq X M) (hX : ∀ c, (c < 21 ∨ (25 < c ∧ c < 29) ∨ 32 < c) → X' c = X c) (h29 : X' 29 6 = X 29 6) (hM : ∀ c, c ≠ 0 → (c < 9 ∨ c = 14 ∨ 17 < c) → M' c = M c) (h0 : ∀ j, j ≠ 12 → j ≠ 20 → j ≠ 21 → M' 0 j = M 0 j) : RelN T nm na nk nq X' M' := by
  obtain ⟨h1, h2, h3, h4, h5, h7, h9, h10, h11⟩ := h
  refine ⟨?_, ?_, ?_, ?_, ?_, ?_, ?_, ?_, ?_⟩
  · unfold rRos; rw [hX 1 (by omega), hX 2 (by omega), hX 3 (by omega), hX 4 (by omega), h0 0 (by omega) (by omega) (by omega), hM 1 (by omega) (by omega), hM 2 (by omega) (by omega), hM 3 (by omega) (by omega)]; exact h1
  · unfold rSta; rw [hX 5 (by omega), hX (5 + 1) (by omega), hX (5 + 2) (by omega), hX (5 + 3) (by omega), hX (5 + 4) (by omega), hX (5 + 5) (by omega), h0 6 (by omega) (by omega) (by omega), h0 11 (by omega) (by omega) (by omega), hM 2 (by omega) (by omega), hM 4 (by omega) (by omega), hM 5 (by omega) (by omega), hM 6 (by omega) (by omega), hM 7 (by omega) (by omega)]; exact h2
  · unfold rUni; rw [hM 6 (by omega) (by omega), hM 7 (by omega) (by omega)]; exact h3
  · unfold rTim; rw [hM 4 (by omega) (by omega)]; exact h4
  · unfold rKey; rw [hX 17 (by omega), hX 18 (by omega), h0 9 (by omega) (by omega) (by omega), hM 8 (by omega) (by omega)]; exact h5
  · unfold rVot; rw [hX 27 (by omega), hX 28 (by omega), h0 18 (by omega) (by omega) (by omega), hM 14 (by omega) (by omega)]; exact h7
  · unfold rRig; rw [h29, hX 33 (by omega), hX 34 (by omega), h0 25 (by omega) (by omega) (by omega), hM 18 (by omega) (by omega), hM 19 (by omega) (by omega)]; exact h9
  · unfold rShe; rw [hX 36 (by omega), hX 37 (by omega), hX 38 (by omega), hX 39 (by omega), hX 40 (by omega), hX 41 (by omega), hX 42 (by omega), hX 43 (by omega), hM 20 (by omega) (by omega), hM 21 (by omega) (by omega), hM 22 (by omega) (by omega)]; exact h10
  · unfold rFnd; rw [hX 0 (by omega), h0 31 (by omega) (by omega) (by omega)]; exact h11
theorem writeX_def (X : Mem) (a1 a2 a3 : Int32) : fX3_write X a1 a2 a3 = some (up2 (upc (upc (upc X 30 (setF (X 30) 100 (X 29 5 - X 29 5 / 100 * 100) a1)) 31 (setF (X 31) 100 (X 29 5 - X 29 5 / 100 * 100) a2)) 32 (setF (X 32) 100 (X 29 5 - X 29 5 / 100 * 100) a3)) 29 5 (X 29 5 + 1)) := rfl
def enX (X : Mem) (d sl : Nat) (W A B C : Int32) : Mem := up2 (up2 (upc (upc (upc X 30 (upd (X 30) sl A)) 31 (upd (X 31) sl B)) 32 (upd (X 32) sl C)) 29 5 W) 21 5 (nI d)
theorem endX {T nm d nr ng : Nat} {X M : Mem} (h6 : rFlG nm d (d + 1) X M) (hd : d < 5) (h8 : rMin T nr ng X M) (hT : T ≤ 60000) : fX8_endHolding X = some (enX X d ((ng + nr) % 100) (nI (ng + nr + 1)) (M 9 d) (M 10 d) (M 12 d)) := by
  obtain ⟨q1, q2, q3, q4, q5, q6, q7, q8, q9, q10, q11⟩ := h6
  obtain ⟨r1, r2, r3, r4, r5, r6, r7, r8, r9⟩ := h8
  have hm : (ng + nr) % 100 < 100 := Nat.mod_lt _ (by omega)
  have er : nI (ng + nr) - nI (ng + nr) / 100 * 100 = nI ((ng + nr) % 100) := pk_rem (a := ng + nr) (d := 100) (by omega) (by omega) (by omega)
  unfold fX8_endHolding fX1_holder fX1_isHeld fX1_sortHeld fX1_ticksHad fX1_pop
  rw [q2, if_neg (nI_nle (by omega) (by omega)), ob1_some, if_neg n10, nI_pred, atF_nI hd (by decide), atF_nI hd (by decide), atF_nI hd (by decide), q4 d hd, q5 d hd, q7 d hd, ob1_some, ob1_some, ob1_some, writeX_def, r6, er, setF_nI hm (by decide), setF_nI hm (by decide), setF_nI hm (by decide), nI_1, ob1_some]
  have e1 : (up2 (upc (upc (upc X 30 (upd (X 30) ((ng + nr) % 100) (M 9 d))) 31 (upd (X 31) ((ng + nr) % 100) (M 10 d))) 32 (upd (X 32) ((ng + nr) % 100) (M 12 d))) 29 5 (nI (ng + nr + 1))) 21 5 = X 21 5 := rfl
  rw [e1, q2, if_neg (nI_nle (by omega) (by omega)), nI_pred, ob1_some]
  rfl
theorem endM_def (M : Mem) : fX9_end M = if M 0 20 = 100 then fX9_end_41 fu (up2 (up2 (up2 M 0 12 (M 0 12 - 1)) 0 20 (M 0 20 - 1)) 0 21 (M 0 21 + 1)) 0 else gI (M 0 12 - 1) 5 (gI (M 0 20) 100 (gI (M 0 12 - 1) 5 (gI (M 0 20) 100 (gI (M 0 12 - 1) 5 (gI (M 0 20) 100 (some (up2 (up2 (up2 (up2 (up2 M 0 12 (M 0 12 - 1)) 15 (M 0 20).toNatClampNeg (M 9 (M 0 12 - 1).toNatClampNeg)) 16 (M 0 20).toNatClampNeg (M 10 (M 0 12 - 1).toNatClampNeg)) 17 (M 0 20).toNatClampNeg (M 12 (M 0 12 - 1).toNatClampNeg)) 0 20 (M 0 20 + 1)))))))) := rfl
theorem end41_def (M : Mem) (x : Int32) (n : Nat) : fX9_end_41 (n + 1) M x = if M 0 20 ≤ x then gI (M 0 12) 5 (gI (M 0 20) 100 (gI (M 0 12) 5 (gI (M 0 20) 100 (gI (M 0 12) 5 (gI (M 0 20) 100 (some (up2 (up2 (up2 (up2 M 15 (M 0 20).toNatClampNeg (M 9 (M 0 12).toNatClampNeg)) 16 (M 0 20).toNatClampNeg (M 10 (M 0 12).toNatClampNeg)) 17 (M 0 20).toNatClampNeg (M 12 (M 0 12).toNatClampNeg)) 0 20 (M 0 20 + 1)))))))) else gI (x + 1) 100 (gI x 100 (gI (x + 1) 100 (gI x 100 (gI (x + 1) 100 (gI x 100 (fX9_end_41 n (up2 (up2 (up2 M 15 x.toNatClampNeg (M 15 (x + 1).toNatClampNeg)) 16 x.toNatClampNeg (M 16 (x + 1).toNatClampNeg)) 17 x.toNatClampNeg (M 17 (x + 1).toNatClampNeg)) (x + 1))))))) := rfl
def shv (f : Nat → Int32) (i c : Nat) : Int32 := if c < i then f (c + 1) else f c
theorem shv_s {f g : Nat → Int32} {i : Nat} (h : ∀ c, c < 100 → g c = shv f i c) (hi : i < 99) : ∀ c, c < 100 → upd g i (g (i + 1)) c = shv f (i + 1) c := by
  intro c hc
  unfold shv
  by_cases q : c = i
  · rw [q, upd_s, if_pos (by omega), h (i + 1) (by omega)]
    unfold shv
    rw [if_neg (by omega)]
  · rw [upd_n q, h c hc]
    unfold shv
    by_cases w : c < i
    · rw [if_pos w, if_pos (by omega)]
    · rw [if_neg w, if_neg (by omega)]
theorem end41_loop {B : Mem} {d : Nat} (hd : d < 5) (b20 : B 0 20 = nI 99) (b12 : B 0 12 = nI d) : ∀ j i n (Y : Mem), i + j = 99 → j < n → (∀ c, c ≠ 15 → c ≠ 16 → c ≠ 17 → Y c = B c) → (∀ c, c < 100 → Y 15 c = shv (B 15) i c) → (∀ c, c < 100 → Y 16 c = shv (B 16) i c) → (∀ c, c < 100 → Y 17 c = shv (B 17) i c) → ∃ Z : Mem, fX9_end_41 n Y (nI i) = some Z ∧ (∀ c, c ≠ 0 → c ≠ 15 → c ≠ 16 → c ≠ 17 → Z c = B c) ∧ Z 0 = upd (B 0) 20 (nI 100) ∧ (∀ c, c < 100 → Z 15 c = if c = 99 then B 9 d else B 15 (c + 1)) ∧ (∀ c, c < 100 → Z 16 c = if c = 99 then B 10 d else B 16 (c + 1)) ∧ ∀ c, c < 100 → Z 17 c = if c = 99 then B 12 d else B 17 (c + 1) := by
  intro j
  induction j with
  | zero =>
    intro i n Y hi hn hY g15 g16 g17
    obtain ⟨n', rfl⟩ : ∃ n', n = n' + 1 := ⟨n - 1, by omega⟩
    have e : i = 99 := by omega
    subst e
    have y0 := hY 0 (by omega) (by omega) (by omega)
    have fin : ∀ (f g : Nat → Int32) (v : Int32), (∀ c, c < 100 → g c = shv f 99 c) → ∀ c, c < 100 → upd g 99 v c = if c = 99 then v else f (c + 1) := by
      intro f g v hg c hc
      by_cases q : c = 99
      · rw [q, upd_s, if_pos rfl]
      · rw [upd_n q, if_neg q, hg c hc]
        unfold shv
        rw [if_pos (by omega)]
    rw [end41_def, y0, b20, b12, if_pos (nI_le (Nat.le_refl 99) (by omega)), nI_clamp (show 99 < 2 ^ 31 by omega), nI_clamp (show d < 2 ^ 31 by omega), hY 9 (by omega) (by omega) (by omega), hY 10 (by omega) (by omega) (by omega), hY 12 (by omega) (by omega) (by omega), nI_1]
    simp only [gI_nI hd (show 5 < 2 ^ 31 by decide), gI_nI (show 99 < 100 by omega) (show 100 < 2 ^ 31 by decide)]
    refine ⟨_, rfl, fun c c0 c1 c2 c3 => by rw [up2_n c0, up2_n c3, up2_n c2, up2_n c1]; exact hY c c1 c2 c3, ?_, fun c hc => ?_, fun c hc => ?_, fun c hc => ?_⟩
    · show upd (Y 0) 20 (nI 100) = _
      rw [y0]
    · exact fin (B 15) (Y 15) _ g15 c hc
    · exact fin (B 16) (Y 16) _ g16 c hc
    · exact fin (B 17) (Y 17) _ g17 c hc
  | succ j ih =>
    intro i n Y hi hn hY g15 g16 g17
    obtain ⟨n', rfl⟩ : ∃ n', n = n' + 1 := ⟨n - 1, by omega⟩
    rw [end41_def, hY 0 (by omega) (by omega) (by omega), b20, if_neg (nI_ge (by omega) (by omega)), nI_1, nI_clamp (show i < 2 ^ 31 by omega), nI_clamp (show i + 1 < 2 ^ 31 by omega)]
    simp only [gI_nI (show i < 100 by omega) (show 100 < 2 ^ 31 by decide), gI_nI (show i + 1 < 100 by omega) (show 100 < 2 ^ 31 by decide)]
    refine ih (i + 1) n' _ (by omega) (by omega) (fun c c1 c2 c3 => by rw [up2_n c3, up2_n c2, up2_n c1]; exact hY c c1 c2 c3) ?_ ?_ ?_
    · exact shv_s g15 (by omega)
    · exact shv_s g16 (by omega)
    · exact shv_s g17 (by omega)
theorem end_both {T T2 nm na nk d nr ng nq : Nat} {X M : Mem} (hN : RelN T nm na nk nq X M) (h6 : rFlG nm d (d + 1) X M) (hd : d < 5) (h8 : rMin T2 nr ng X M) (hT : T2 ≤ 60000) : ∃ (X' M' : Mem) (nr' ng' : Nat), fX8_endHolding X = some X' ∧ fX9_end M = some M' ∧ RelN T nm na nk nq X' M' ∧ rFlo nm d X' M' ∧ rMin (T2 + 1) nr' ng' X' M' := by
  have eX := endX h6 hd h8 hT
  obtain ⟨q1, q2, q3, q4, q5, q6, q7, q8, q9, q10, q11⟩ := h6
  obtain ⟨r1, r2, r3, r4, r5, r6, r7, r8, r9⟩ := h8
  have hfu := fu_gt
  have xf : ∀ c, (c < 21 ∨ (25 < c ∧ c < 29) ∨ 32 < c) → enX X d ((ng + nr) % 100) (nI (ng + nr + 1)) (M 9 d) (M 10 d) (M 12 d) c = X c := fun c hc => by
    unfold enX
    rw [up2_n (by omega), up2_n (by omega), upc_n (by omega), upc_n (by omega), upc_n (by omega)]
  by_cases c : nr = 100
  · subst c
    have e99 : (100 : Int32) - 1 = nI 99 := by decide
    obtain ⟨Z, z1, z2, z3, z4, z5, z6⟩ := end41_loop (B := up2 (up2 (up2 M 0 12 (nI d)) 0 20 (nI 99)) 0 21 (nI (ng + 1))) hd rfl rfl 99 0 fu (up2 (up2 (up2 M 0 12 (nI d)) 0 20 (nI 99)) 0 21 (nI (ng + 1))) (by omega) (by omega) (fun _ _ _ _ => rfl) (fun c _ => by unfold shv; rw [if_neg (Nat.not_lt_zero c)]) (fun c _ => by unfold shv; rw [if_neg (Nat.not_lt_zero c)]) (fun c _ => by unfold shv; rw [if_neg (Nat.not_lt_zero c)])
    have eM : fX9_end M = some Z := by
      rw [endM_def, r4, q3, r5, if_pos (show nI 100 = 100 from rfl), nI_pred, nI_pred, nI_1]
      exact z1
    have zf : ∀ c, c ≠ 0 → c ≠ 15 → c ≠ 16 → c ≠ 17 → Z c = M c := fun c c0 c1 c2 c3 => by
      rw [z2 c c0 c1 c2 c3, up2_n c0, up2_n c0, up2_n c0]
    have z0 : ∀ j, j ≠ 12 → j ≠ 20 → j ≠ 21 → Z 0 j = M 0 j := fun j j1 j2 j3 => by
      rw [z3, upd_n j2, up2_s, upd_n j3, up2_s, upd_n j2, up2_s, upd_n j1]
    have z12 : Z 0 12 = nI d := by rw [z3]; rfl
    have z20 : Z 0 20 = nI 100 := by rw [z3]; rfl
    have z21 : Z 0 21 = nI (ng + 1) := by rw [z3]; rfl
    have ring : ∀ (f g h : Nat → Int32) (v : Int32), (∀ i, i < 100 → f ((ng + i) % 100) = g i) → (∀ c, c < 100 → h c = if c = 99 then v else g (c + 1)) → ∀ i, i < 100 → upd f ((ng + 100) % 100) v ((ng + 1 + i) % 100) = h i := by
      intro f g h v hf hh i hi
      rw [hh i hi]
      by_cases w : i = 99
      · rw [if_pos w, w, show (ng + 1 + 99) % 100 = (ng + 100) % 100 by omega, upd_s]
      · rw [if_neg w, upd_n (by omega), show ng + 1 + i = ng + (i + 1) by omega]
        exact hf (i + 1) (by omega)
    refine ⟨_, Z, 100, ng + 1, eX, eM, RelN_fr hN xf rfl (fun c c0 hc => zf c c0 (by omega) (by omega) (by omega)) z0, ?_, by omega, by omega, fun _ => rfl, z20, z21, ?_, ?_, ?_, ?_⟩
    · unfold rFlo
      rw [z12, zf 9 (by omega) (by omega) (by omega) (by omega), zf 10 (by omega) (by omega) (by omega) (by omega), zf 11 (by omega) (by omega) (by omega) (by omega), zf 12 (by omega) (by omega) (by omega) (by omega), zf 13 (by omega) (by omega) (by omega) (by omega)]
      exact ⟨q1, rfl, rfl, q4, q5, q6, q7, q8, q9, q10, q11⟩
    · show nI (ng + 100 + 1) = nI (ng + 1 + 100)
      rw [show ng + 100 + 1 = ng + 1 + 100 by omega]
    · exact ring (X 30) (M 15) (Z 15) (M 9 d) r7 z4
    · exact ring (X 31) (M 16) (Z 16) (M 10 d) r8 z5
    · exact ring (X 32) (M 17) (Z 17) (M 12 d) r9 z6
  · have g0 : ng = 0 := by
      rcases Nat.eq_zero_or_pos ng with w | w
      · exact w
      · exact absurd (r3 w) c
    subst g0
    have eM : fX9_end M = some (up2 (up2 (up2 (up2 (up2 M 0 12 (nI d)) 15 nr (M 9 d)) 16 nr (M 10 d)) 17 nr (M 12 d)) 0 20 (nI (nr + 1))) := by
      rw [endM_def, r4, q3, if_neg (show ¬ nI nr = 100 from nI_ne (b := 100) (by omega) (by decide) c), nI_pred, nI_1, nI_clamp (show nr < 2 ^ 31 by omega), nI_clamp (show d < 2 ^ 31 by omega)]
      simp only [gI_nI hd (show 5 < 2 ^ 31 by decide), gI_nI (show nr < 100 by omega) (show 100 < 2 ^ 31 by decide)]
    have line : ∀ (f g : Nat → Int32) (v : Int32), (∀ i, i < nr → f ((0 + i) % 100) = g i) → ∀ i, i < nr + 1 → upd f ((0 + nr) % 100) v ((0 + i) % 100) = upd g nr v i := by
      intro f g v hf i hi
      by_cases w : i = nr
      · rw [w, upd_s, upd_s]
      · rw [upd_n (by omega), upd_n w]
        exact hf i (by omega)
    refine ⟨_, _, nr + 1, 0, eX, eM, RelN_fr hN xf rfl (fun c c0 hc => by rw [up2_n c0, up2_n (by omega), up2_n (by omega), up2_n (by omega), up2_n c0]) (fun j j1 j2 j3 => by rw [up2_s, upd_n j2]; show upd (M 0) 12 (nI d) j = _; rw [upd_n j1]), ?_, by omega, by omega, fun w => by omega, rfl, ?_, ?_, ?_, ?_, ?_⟩
    · exact ⟨q1, rfl, rfl, q4, q5, q6, q7, q8, q9, q10, q11⟩
    · exact r5
    · show nI (0 + nr + 1) = nI (0 + (nr + 1))
      rw [Nat.add_assoc]
    · exact line (X 30) (M 15) (M 9 d) r7
    · exact line (X 31) (M 16) (M 10 d) r8
    · exact line (X 32) (M 17) (M 12 d) r9
theorem Rel_N {t : Nat} {X M : Mem} (h : Rel t X M) : ∃ nm na nk nf nr ng nq, RelN (100 * t) nm na nk nq X M ∧ rFlo nm nf X M ∧ rMin (100 * t) nr ng X M := by
  obtain ⟨nm, na, nk, nf, nr, ng, nq, h1, h2, h3, h4, h5, h6, h7, h8, h9, h10, h11⟩ := h
  exact ⟨nm, na, nk, nf, nr, ng, nq, ⟨h1, h2, h3, h4, h5, h7, h9, h10, h11⟩, h6, h8⟩
theorem N_Rel {T t nm na nk nf nr ng nq : Nat} {X M : Mem} (hN : RelN T nm na nk nq X M) (h6 : rFlo nm nf X M) (h8 : rMin T nr ng X M) (hT : T ≤ 100 * t) : Rel t X M := by
  obtain ⟨h1, h2, h3, h4, h5, h7, h9, h10, h11⟩ := hN
  refine ⟨nm, na, nk, nf, nr, ng, nq, h1, h2, h3, ⟨fun j hj => ?_, h4.2⟩, h5, h6, h7, ⟨h8.1, by have := h8.2.1; omega, h8.2.2⟩, h9, h10, h11⟩
  obtain ⟨u, hu, e⟩ := h4.1 j hj
  exact ⟨u, by omega, e⟩
theorem rMin_up {T T' nr ng : Nat} {X M : Mem} (h : rMin T nr ng X M) (hT : T ≤ T') : rMin T' nr ng X M := ⟨h.1, by have := h.2.1; omega, h.2.2⟩
theorem RelN_up {T T' nm na nk nq : Nat} {X M : Mem} (hN : RelN T nm na nk nq X M) (hT : T ≤ T') : RelN T' nm na nk nq X M := by
  obtain ⟨h1, h2, h3, h4, h5, h7, h9, h10, h11⟩ := hN
  refine ⟨h1, h2, h3, ⟨fun j hj => ?_, h4.2⟩, h5, h7, h9, h10, h11⟩
  obtain ⟨u, hu, e⟩ := h4.1 j hj
  exact ⟨u, by omega, e⟩
theorem rFlo_G {nm d : Nat} {X M : Mem} (h : rFlo nm (d + 1) X M) : rFlG nm d (d + 1) X M := by
  obtain ⟨q1, q2, q3, q4, q5, q6, q7, q8, q9, q10, q11⟩ := h
  exact ⟨by omega, q2, q3, q4, q5, q6, q7, fun j hj => q8 j (by omega), fun j hj => q9 j (by omega), q10, q11⟩
theorem sim_yield {t : Nat} {X M : Mem} (h : Rel t X M) (ht : t < 512) : ∃ (r : Int32) (X2 M2 : Mem), fX8_yield X = some (r, X2) ∧ fX9_yield M = some (r, M2) ∧ Rel (t + 1) X2 M2 := by
  obtain ⟨nm, na, nk, nf, nr, ng, nq, hN, h6, h8⟩ := Rel_N h
  have hn := h6.1
  unfold fX8_yield fX9_yield fX1_isHeld
  rw [h6.2.1, h6.2.2.1]
  rcases Nat.eq_zero_or_pos nf with c | c
  · subst c
    rw [if_pos (show nI 0 ≤ 0 by decide), ob1_some, if_pos rfl, if_pos (show nI 0 = 0 from rfl), fX8_fin, fX9_fin, ob2_some', ob2_some']
    exact ⟨_, _, _, rfl, rfl, Rel_fnd h⟩
  · obtain ⟨d, rfl⟩ : ∃ d, nf = d + 1 := ⟨nf - 1, by omega⟩
    obtain ⟨X', M', nr', ng', e1, e2, e3, e4, e5⟩ := end_both hN (rFlo_G h6) (by omega) h8 (by omega)
    rw [if_neg (nI_nle c (by omega)), ob1_some, if_neg n10, if_neg (nI_ne0 c (by omega)), e1, e2, ob1_some, ob1_some]
    unfold fX1_holder fX1_isHeld
    rw [e4.2.1, e4.2.2.1]
    have fin : Rel (t + 1) X' M' := N_Rel (RelN_up e3 (Nat.le_add_right _ 1)) e4 e5 (by omega)
    rcases Nat.eq_zero_or_pos d with w | w
    · subst w
      rw [if_pos (show nI 0 ≤ 0 by decide), ob1_some, if_pos rfl, if_pos (show nI 0 = 0 from rfl), ob1_some]
      exact ⟨_, _, _, rfl, rfl, fin⟩
    · obtain ⟨p, rfl⟩ : ∃ p, d = p + 1 := ⟨d - 1, by omega⟩
      rw [if_neg (nI_nle w (by omega)), ob1_some, if_neg n10, if_neg (nI_ne0 w (by omega)), nI_pred, atF_nI (show p < 5 by omega) (by decide), gI_nI (show p < 5 by omega) (by decide), nI_clamp (by omega), e4.2.2.2.1 p (by omega), ob1_some]
      exact ⟨_, _, _, rfl, rfl, fin⟩
