/-! how long one would wait -/
theorem becomeX_def (X : Mem) : fX7_become 11 5 X = some (up2 (up2 (upc (upc (upc (upc (upc X 12 (rfF (X 12) 20 (X 6) 20 20)) 13 (rfF (X 13) 20 (X 7) 20 20)) 14 (rfF (X 14) 10 (X 8) 10 10)) 15 (rfF (X 15) 10 (X 9) 10 10)) 16 (rfF (X 16) 5 (X 10) 5 5)) 11 6 (X 5 6)) 11 7 (X 5 7)) := rfl
theorem become_both {nm na : Nat} {X M : Mem} (h2 : rSta 5 nm na X M) : ∃ X' : Mem, fX7_become 11 5 X = some X' ∧ (∀ c, (c < 11 ∨ 16 < c) → X' c = X c) ∧ rSta 11 nm na X' M := by
  obtain ⟨p1, p2, p3, p4, p5, p6, p7, p8, p9, p10, p11⟩ := h2
  refine ⟨_, becomeX_def X, fun c hc => ?_, p1, p2, p3, fun j hj => ?_, fun j hj => ?_, fun j hj => ?_, fun j hj => ?_, p8, fun d hd => ?_, p10, p11⟩
  · rw [up2_n (by omega), up2_n (by omega), upc_n (by omega), upc_n (by omega), upc_n (by omega), upc_n (by omega), upc_n (by omega)]
  · show rfF (X 12) 20 (X 6) 20 20 j = _
    rw [rfF_lt hj (by decide)]; exact p4 j hj
  · show rfF (X 13) 20 (X 7) 20 20 j = _
    rw [rfF_lt hj (by decide)]; exact p5 j hj
  · show rfF (X 14) 10 (X 8) 10 10 j = _
    rw [rfF_lt hj (by decide)]; exact p6 j hj
  · show rfF (X 15) 10 (X 9) 10 10 j = _
    rw [rfF_lt hj (by decide)]; exact p7 j hj
  · show rfF (X 16) 5 (X 10) 5 5 d = _
    rw [rfF_lt hd (by decide)]; exact p9 d hd
theorem cp_s {f g : Nat → Int32} {i : Nat} (h : ∀ c, c < i → g c = f c) : ∀ c, c < i + 1 → upd g i (f i) c = f c := by
  intro c hc
  by_cases q : c = i
  · rw [q, upd_s]
  · rw [upd_n q]; exact h c (by omega)
theorem w53_def (z1 z2 z3 : Int32) (n : Nat) (M : Mem) (x : Int32) : fX9_wait_53 z1 z2 z3 (n + 1) M x = if z2 ≤ x then fX9_wait_96 z1 z2 z3 fu M 0 else gI x 20 (gI x 20 (gI x 20 (gI x 20 (fX9_wait_53 z1 z2 z3 n (up2 (up2 M 24 x.toNatClampNeg (M 6 x.toNatClampNeg)) 25 x.toNatClampNeg (M 7 x.toNatClampNeg)) (x + 1))))) := rfl
theorem w96_def (z1 z2 z3 : Int32) (n : Nat) (M : Mem) (x : Int32) : fX9_wait_96 z1 z2 z3 (n + 1) M x = if M 0 0 ≤ x then ob2 (fX9_firstOf M 0) (fun r17 m16 => fX9_wait_149 z1 z2 z3 fu m16 0 r17) else gI x 10 (gI x 10 (gI x 10 (gI x 10 (fX9_wait_96 z1 z2 z3 n (up2 (up2 M 26 x.toNatClampNeg (M 4 x.toNatClampNeg)) 27 x.toNatClampNeg (M 5 x.toNatClampNeg)) (x + 1))))) := rfl
theorem w53_loop {M : Mem} {na : Nat} (hn : na ≤ 20) (z1 z3 : Int32) : ∀ j i n (Y : Mem), i + j = na → j < n → (∀ c, c ≠ 24 → c ≠ 25 → Y c = M c) → (∀ c, c < i → Y 24 c = M 6 c) → (∀ c, c < i → Y 25 c = M 7 c) → ∃ Z : Mem, fX9_wait_53 z1 (nI na) z3 n Y (nI i) = fX9_wait_96 z1 (nI na) z3 fu Z 0 ∧ (∀ c, c ≠ 24 → c ≠ 25 → Z c = M c) ∧ (∀ c, c < na → Z 24 c = M 6 c) ∧ ∀ c, c < na → Z 25 c = M 7 c := by
  intro j
  induction j with
  | zero =>
    intro i n Y hi hn' hY g1 g2
    obtain ⟨n', rfl⟩ : ∃ n', n = n' + 1 := ⟨n - 1, by omega⟩
    have e : i = na := by omega
    subst e
    rw [w53_def, if_pos (nI_le (Nat.le_refl i) (by omega))]
    exact ⟨Y, rfl, hY, g1, g2⟩
  | succ j ih =>
    intro i n Y hi hn' hY g1 g2
    obtain ⟨n', rfl⟩ : ∃ n', n = n' + 1 := ⟨n - 1, by omega⟩
    rw [w53_def, if_neg (nI_ge (by omega) (by omega)), nI_clamp (show i < 2 ^ 31 by omega), nI_1, hY 6 (by omega) (by omega), hY 7 (by omega) (by omega)]
    simp only [gI_nI (show i < 20 by omega) (show 20 < 2 ^ 31 by decide)]
    exact ih (i + 1) n' _ (by omega) (by omega) (fun c c1 c2 => by rw [up2_n c2, up2_n c1]; exact hY c c1 c2) (cp_s g1) (cp_s g2)
theorem w96_loop {M : Mem} {nm : Nat} (hn : nm ≤ 10) (h0 : M 0 0 = nI nm) (z1 z2 z3 : Int32) : ∀ j i n (Y : Mem), i + j = nm → j < n → (∀ c, c ≠ 26 → c ≠ 27 → Y c = M c) → (∀ c, c < i → Y 26 c = M 4 c) → (∀ c, c < i → Y 27 c = M 5 c) → ∃ Z : Mem, fX9_wait_96 z1 z2 z3 n Y (nI i) = ob2 (fX9_firstOf Z 0) (fun r17 m16 => fX9_wait_149 z1 z2 z3 fu m16 0 r17) ∧ (∀ c, c ≠ 26 → c ≠ 27 → Z c = M c) ∧ (∀ c, c < nm → Z 26 c = M 4 c) ∧ ∀ c, c < nm → Z 27 c = M 5 c := by
  intro j
  induction j with
  | zero =>
    intro i n Y hi hn' hY g1 g2
    obtain ⟨n', rfl⟩ : ∃ n', n = n' + 1 := ⟨n - 1, by omega⟩
    have e : i = nm := by omega
    subst e
    rw [w96_def, hY 0 (by omega) (by omega), h0, if_pos (nI_le (Nat.le_refl i) (by omega))]
    exact ⟨Y, rfl, hY, g1, g2⟩
  | succ j ih =>
    intro i n Y hi hn' hY g1 g2
    obtain ⟨n', rfl⟩ : ∃ n', n = n' + 1 := ⟨n - 1, by omega⟩
    rw [w96_def, hY 0 (by omega) (by omega), h0, if_neg (nI_ge (by omega) (by omega)), nI_clamp (show i < 2 ^ 31 by omega), nI_1, hY 4 (by omega) (by omega), hY 5 (by omega) (by omega)]
    simp only [gI_nI (show i < 10 by omega) (show 10 < 2 ^ 31 by decide)]
    exact ih (i + 1) n' _ (by omega) (by omega) (fun c c1 c2 => by rw [up2_n c2, up2_n c1]; exact hY c c1 c2) (cp_s g1) (cp_s g2)
/-- what is kept aside while one supposes -/
def Kept (na nm : Nat) (M S : Mem) : Prop := (∀ c, c < na → S 24 c = M 6 c) ∧ (∀ c, c < na → S 25 c = M 7 c) ∧ (∀ c, c < nm → S 26 c = M 4 c) ∧ (∀ c, c < nm → S 27 c = M 5 c)
def WF (na nm : Nat) (X M X' M' : Mem) : Prop := (∀ c, (c < 11 ∨ 16 < c) → X' c = X c) ∧ (∀ c, c ≠ 0 → c ≠ 4 → c ≠ 5 → c ≠ 6 → c ≠ 7 → c < 23 → M' c = M c) ∧ (∀ j, j ≠ 6 → j ≠ 11 → j ≠ 33 → M' 0 j = M 0 j) ∧ (∀ c, na ≤ c → c < 20 → M' 6 c = M 6 c) ∧ (∀ c, na ≤ c → c < 20 → M' 7 c = M 7 c) ∧ (∀ c, nm ≤ c → c < 10 → M' 4 c = M 4 c) ∧ (∀ c, nm ≤ c → c < 10 → M' 5 c = M 5 c) ∧ Kept na nm M M'
theorem WF_O {t nm na nk nf nr ng nq : Nat} {X M X' M' : Mem} (hO : RelO t nm nk nf nr ng nq X M) (hW : WF na nm X M X' M') : RelO (t + 1) nm nk nf nr ng nq X' M' :=
  RelO_st hO (fun a ha => hW.1 a (by omega)) hW.2.1 hW.2.2.1
theorem rs_s {f g : Nat → Int32} {i na N : Nat} (h : ∀ c, c < N → (c < i ∨ na ≤ c) → g c = f c) : ∀ c, c < N → (c < i + 1 ∨ na ≤ c) → upd g i (f i) c = f c := by
  intro c hc hq
  by_cases q : c = i
  · rw [q, upd_s]
  · rw [upd_n q]; exact h c hc (by omega)
theorem w254_def (z1 z2 z3 z4 z5 : Int32) (n : Nat) (M : Mem) (x : Int32) : fX9_wait_254 z1 z2 z3 z4 z5 (n + 1) M x = if z2 ≤ x then fX9_wait_297 z1 z2 z3 z4 z5 fu M 0 else gI x 20 (gI x 20 (gI x 20 (gI x 20 (fX9_wait_254 z1 z2 z3 z4 z5 n (up2 (up2 M 6 x.toNatClampNeg (M 24 x.toNatClampNeg)) 7 x.toNatClampNeg (M 25 x.toNatClampNeg)) (x + 1))))) := rfl
theorem w297_def (z1 z2 z3 z4 z5 : Int32) (n : Nat) (M : Mem) (x : Int32) : fX9_wait_297 z1 z2 z3 z4 z5 (n + 1) M x = if M 0 0 ≤ x then (if z4 = 100 then some (-100008, up2 M 0 31 (M 0 31 + 1)) else some (z4, M)) else gI x 10 (gI x 10 (gI x 10 (gI x 10 (fX9_wait_297 z1 z2 z3 z4 z5 n (up2 (up2 M 4 x.toNatClampNeg (M 26 x.toNatClampNeg)) 5 x.toNatClampNeg (M 27 x.toNatClampNeg)) (x + 1))))) := rfl
theorem w254_loop {M B : Mem} {na : Nat} (hn : na ≤ 20) (k1 : ∀ c, c < na → B 24 c = M 6 c) (k2 : ∀ c, c < na → B 25 c = M 7 c) (z1 z3 z4 z5 : Int32) : ∀ j i n (Y : Mem), i + j = na → j < n → (∀ c, c ≠ 6 → c ≠ 7 → Y c = B c) → (∀ c, c < 20 → (c < i ∨ na ≤ c) → Y 6 c = M 6 c) → (∀ c, c < 20 → (c < i ∨ na ≤ c) → Y 7 c = M 7 c) → ∃ Z : Mem, fX9_wait_254 z1 (nI na) z3 z4 z5 n Y (nI i) = fX9_wait_297 z1 (nI na) z3 z4 z5 fu Z 0 ∧ (∀ c, c ≠ 6 → c ≠ 7 → Z c = B c) ∧ (∀ c, c < 20 → Z 6 c = M 6 c) ∧ ∀ c, c < 20 → Z 7 c = M 7 c := by
  intro j
  induction j with
  | zero =>
    intro i n Y hi hn' hY g1 g2
    obtain ⟨n', rfl⟩ : ∃ n', n = n' + 1 := ⟨n - 1, by omega⟩
    have e : i = na := by omega
    subst e
    rw [w254_def, if_pos (nI_le (Nat.le_refl i) (by omega))]
    exact ⟨Y, rfl, hY, fun c hc => g1 c hc (by omega), fun c hc => g2 c hc (by omega)⟩
  | succ j ih =>
    intro i n Y hi hn' hY g1 g2
    obtain ⟨n', rfl⟩ : ∃ n', n = n' + 1 := ⟨n - 1, by omega⟩
    rw [w254_def, if_neg (nI_ge (by omega) (by omega)), nI_clamp (show i < 2 ^ 31 by omega), nI_1, hY 24 (by omega) (by omega), hY 25 (by omega) (by omega), k1 i (by omega), k2 i (by omega)]
    simp only [gI_nI (show i < 20 by omega) (show 20 < 2 ^ 31 by decide)]
    exact ih (i + 1) n' _ (by omega) (by omega) (fun c c1 c2 => by rw [up2_n c2, up2_n c1]; exact hY c c1 c2) (rs_s g1) (rs_s g2)
theorem w297_loop {M B : Mem} {nm : Nat} (hn : nm ≤ 10) (h0 : B 0 0 = nI nm) (k1 : ∀ c, c < nm → B 26 c = M 4 c) (k2 : ∀ c, c < nm → B 27 c = M 5 c) (z1 z2 z3 z4 z5 : Int32) : ∀ j i n (Y : Mem), i + j = nm → j < n → (∀ c, c ≠ 4 → c ≠ 5 → Y c = B c) → (∀ c, c < 10 → (c < i ∨ nm ≤ c) → Y 4 c = M 4 c) → (∀ c, c < 10 → (c < i ∨ nm ≤ c) → Y 5 c = M 5 c) → ∃ Z : Mem, fX9_wait_297 z1 z2 z3 z4 z5 n Y (nI i) = (if z4 = 100 then some (-100008, up2 Z 0 31 (Z 0 31 + 1)) else some (z4, Z)) ∧ (∀ c, c ≠ 4 → c ≠ 5 → Z c = B c) ∧ (∀ c, c < 10 → Z 4 c = M 4 c) ∧ ∀ c, c < 10 → Z 5 c = M 5 c := by
  intro j
  induction j with
  | zero =>
    intro i n Y hi hn' hY g1 g2
    obtain ⟨n', rfl⟩ : ∃ n', n = n' + 1 := ⟨n - 1, by omega⟩
    have e : i = nm := by omega
    subst e
    rw [w297_def, hY 0 (by omega) (by omega), h0, if_pos (nI_le (Nat.le_refl i) (by omega))]
    refine ⟨Y, ?_, hY, fun c hc => g1 c hc (by omega), fun c hc => g2 c hc (by omega)⟩
    rw [hY 0 (by omega) (by omega)]
  | succ j ih =>
    intro i n Y hi hn' hY g1 g2
    obtain ⟨n', rfl⟩ : ∃ n', n = n' + 1 := ⟨n - 1, by omega⟩
    rw [w297_def, hY 0 (by omega) (by omega), h0, if_neg (nI_ge (by omega) (by omega)), nI_clamp (show i < 2 ^ 31 by omega), nI_1, hY 26 (by omega) (by omega), hY 27 (by omega) (by omega), k1 i (by omega), k2 i (by omega)]
    simp only [gI_nI (show i < 10 by omega) (show 10 < 2 ^ 31 by decide)]
    exact ih (i + 1) n' _ (by omega) (by omega) (fun c c1 c2 => by rw [up2_n c2, up2_n c1]; exact hY c c1 c2) (rs_s g1) (rs_s g2)
theorem Rel_fnd' {t : Nat} {X M : Mem} (h : Rel t X M) : Rel t (up2 X 0 9 (X 0 9 + 1)) (up2 M 0 31 (M 0 31 + 1)) := by
  obtain ⟨nm, na, nk, nf, nr, ng, nq, h1, h2, h3, h4, h5, h6, h7, h8, h9, h10, h11⟩ := h
  exact ⟨nm, na, nk, nf, nr, ng, nq, h1, h2, h3, h4, h5, h6, h7, h8, h9, h10, congrArg (· + 1) h11⟩
/-- the supposing ends -/
theorem wait_exit {t nm na nk nf nr ng nq : Nat} {X M X' M' : Mem} (hO : RelO t nm nk nf nr ng nq X M) (h2 : rSta 5 nm na X M) (h3 : rUni na M) (h4 : rTim (100 * t) nm M) (hW : WF na nm X M X' M') (z1 z4 z5 : Int32) : ∃ Z : Mem, fX9_wait_254 z1 (nI na) (M 0 11) z4 z5 fu (up2 (up2 M' 0 6 (nI na)) 0 11 (M 0 11)) 0 = (if z4 = 100 then some (-100008, up2 Z 0 31 (Z 0 31 + 1)) else some (z4, Z)) ∧ Rel (t + 1) X' Z := by
  obtain ⟨w1, w2, w3, w4, w5, w6, w7, k1, k2, k3, k4⟩ := id hW
  have hf := fu_gt
  have hn := h2.1
  have hm := hO.1.1
  have hm0 := hO.1.2.2.1
  obtain ⟨Y, y1, y2, y3, y4⟩ := w254_loop (M := M) (B := up2 (up2 M' 0 6 (nI na)) 0 11 (M 0 11)) hn k1 k2 z1 (M 0 11) z4 z5 na 0 fu (up2 (up2 M' 0 6 (nI na)) 0 11 (M 0 11)) (by omega) (by omega) (fun _ _ _ => rfl) (fun c c1 c2 => w4 c (by omega) c1) (fun c c1 c2 => w5 c (by omega) c1)
  have b0 : Y 0 = upd (upd (M' 0) 6 (nI na)) 11 (M 0 11) := y2 0 (by omega) (by omega)
  have b4 : Y 4 = M' 4 := y2 4 (by omega) (by omega)
  have b5 : Y 5 = M' 5 := y2 5 (by omega) (by omega)
  have b26 : Y 26 = M' 26 := y2 26 (by omega) (by omega)
  have b27 : Y 27 = M' 27 := y2 27 (by omega) (by omega)
  have b00 : Y 0 0 = nI nm := by
    rw [b0, upd_n (by omega), upd_n (by omega), w3 0 (by omega) (by omega) (by omega)]; exact hm0
  obtain ⟨Z, u1, u2, u3, u4⟩ := w297_loop (M := M) (B := Y) hm b00 (fun c hc => by rw [b26]; exact k3 c hc) (fun c hc => by rw [b27]; exact k4 c hc) z1 (nI na) (M 0 11) z4 z5 nm 0 fu Y (by omega) (by omega) (fun _ _ _ => rfl) (fun c c1 c2 => by rw [b4]; exact w6 c (by omega) c1) (fun c c1 c2 => by rw [b5]; exact w7 c (by omega) c1)
  rw [nI_0] at y1 u1
  have z0 : Z 0 = upd (upd (M' 0) 6 (nI na)) 11 (M 0 11) := (u2 0 (by omega) (by omega)).trans b0
  have z6 : Z 6 = Y 6 := u2 6 (by omega) (by omega)
  have z7 : Z 7 = Y 7 := u2 7 (by omega) (by omega)
  have zc : ∀ c, c ≠ 0 → c ≠ 4 → c ≠ 5 → c ≠ 6 → c ≠ 7 → c < 23 → Z c = M c := fun c c0 c4 c5 c6 c7 c8 => by
    rw [u2 c c4 c5, y2 c c6 c7, up2_n c0, up2_n c0]
    exact w2 c c0 c4 c5 c6 c7 c8
  refine ⟨Z, y1.trans u1, Rel_I (RelO_st hO (fun a ha => w1 a (by omega)) zc (fun j j1 j2 j3 => by rw [z0, upd_n j2, upd_n j1]; exact w3 j j1 j2 j3)) (na := na) ?_ ?_ ?_⟩
  · obtain ⟨p1, p2, p3, p4, p5, p6, p7, p8, p9, p10, p11⟩ := h2
    refine ⟨p1, ?_, ?_, fun j hj => ?_, fun j hj => ?_, fun j hj => ?_, fun j hj => ?_, ?_, fun d hd => ?_, fun j hj => ?_, fun j hj => ?_⟩
    · rw [w1 5 (by omega)]; exact p2
    · rw [z0]; rfl
    · rw [w1 (5 + 1) (by omega), z6, y3 j hj]; exact p4 j hj
    · rw [w1 (5 + 2) (by omega), z7, y4 j hj]; exact p5 j hj
    · rw [w1 (5 + 3) (by omega), u3 j hj]; exact p6 j hj
    · rw [w1 (5 + 4) (by omega), u4 j hj]; exact p7 j hj
    · rw [w1 5 (by omega), z0, upd_s]; exact p8
    · rw [w1 (5 + 5) (by omega), zc 2 (by omega) (by omega) (by omega) (by omega) (by omega) (by omega), tsum_cong (D' := M 2) (T' := M 4) (fun _ _ => rfl) (fun j hj => u3 j (by omega))]; exact p9 d hd
    · rw [z6, y3 j (by omega)]; exact p10 j hj
    · rw [z7, y4 j (by omega)]; exact p11 j hj
  · intro i j hi hj e1 e2
    rw [z6, y3 i (by omega), y3 j (by omega)] at e1
    rw [z7, y4 i (by omega), y4 j (by omega)] at e2
    exact h3 i j hi hj e1 e2
  · refine ⟨fun j hj => ?_, fun j j1 j2 => by rw [u3 j j2]; exact h4.2 j j1 j2⟩
    obtain ⟨u, hu, eu⟩ := h4.1 j hj
    exact ⟨u, by omega, by rw [u3 j hj]; exact eu⟩
theorem w149_def (z1 z2 z3 : Int32) (n : Nat) (M : Mem) (x4 x5 : Int32) : fX9_wait_149 z1 z2 z3 (n + 1) M x4 x5 = gI x5 20 (if M 6 x5.toNatClampNeg = z1 then (fX9_wait_254 z1 z2 z3 x4 x5 fu (up2 (up2 M 0 6 z2) 0 11 z3) 0) else (if 100 ≤ x4 then (fX9_wait_254 z1 z2 z3 x4 x5 fu (up2 (up2 M 0 6 z2) 0 11 z3) 0) else (gI x5 20 (ob1 (fX9_goes M x5) (fun m37 => gI (M 6 x5.toNatClampNeg) 10 (gI (M 6 x5.toNatClampNeg) 10 (gI (M 6 x5.toNatClampNeg) 10 (gI (M 6 x5.toNatClampNeg) 10 (ob1 (fX9_limitOf (up2 (up2 m37 5 (M 6 x5.toNatClampNeg).toNatClampNeg ((m37 5 (M 6 x5.toNatClampNeg).toNatClampNeg) + 1)) 0 11 (m37 2 (M 6 x5.toNatClampNeg).toNatClampNeg)) (M 6 x5.toNatClampNeg) 0) (fun r43 => gI (M 6 x5.toNatClampNeg) 10 (ob1 (fX9_comes (up2 (up2 (up2 m37 5 (M 6 x5.toNatClampNeg).toNatClampNeg ((m37 5 (M 6 x5.toNatClampNeg).toNatClampNeg) + 1)) 0 11 (m37 2 (M 6 x5.toNatClampNeg).toNatClampNeg)) 4 (M 6 x5.toNatClampNeg).toNatClampNeg ((m37 4 (M 6 x5.toNatClampNeg).toNatClampNeg) + r43)) (M 6 x5.toNatClampNeg) 0) (fun m46 => ob2 (fX9_firstOf m46 0) (fun r49 m48 => fX9_wait_149 z1 z2 z3 n m48 (x4 + 1) r49))))))))))))) := rfl
theorem w62_def (z1 : Int32) (n : Nat) (X : Mem) (x2 : Int32) : fX8_wait_62 z1 (n + 1) X x2 = if 100 ≤ x2 then some (-100008, up2 X 0 9 (X 0 9 + 1)) else ob1 (fX5_firstOf 11 X 0) (fun r22 => if atF (X 12) 20 r22 = z1 then some (x2, X) else ob1 (fX7_take 11 X r22) (fun m27 => ob1 (fX8_ticksFor m27 (atF (X 12) 20 r22) 0) (fun r29 => ob1 (fX7_addTime 11 m27 (atF (X 12) 20 r22) r29) (fun m31 => ob1 (fX7_append 11 m31 (atF (X 12) 20 r22) 0) (fun m33 => fX8_wait_62 z1 n m33 (x2 + 1)))))) := by
  rw [fX8_wait_62]
  simp only [fX8_fin, ob2_some', fX7_memberAt, ob1_some]
theorem wait_loop {t nm na nk nf nr ng nq : Nat} {X M : Mem} (hO : RelO t nm nk nf nr ng nq X M) (h2 : rSta 5 nm na X M) (h3 : rUni na M) (h4 : rTim (100 * t) nm M) (z1 : Int32) : ∀ j i n (X' M' : Mem) (r : Int32), i + j = 100 → j < n → WF na nm X M X' M' → rSta 11 nm na X' M' → fX5_firstOf 11 X' 0 = some r → Fst M' nm nk 0 na r → (∃ c, c < na ∧ pqF M' 0 c) → ∃ (v : Int32) (X2 M2 : Mem), fX8_wait_62 z1 n X' (nI i) = some (v, X2) ∧ fX9_wait_149 z1 (nI na) (M 0 11) n M' (nI i) r = some (v, M2) ∧ Rel (t + 1) X2 M2 := by
  have hm10 := hO.1.1
  have hna := h2.1
  intro j
  induction j with
  | zero =>
    intro i n X' M' r hi hn hW hS hF hr hE
    obtain ⟨n', rfl⟩ : ∃ n', n = n' + 1 := ⟨n - 1, by omega⟩
    have e : i = 100 := by omega
    subst e
    obtain ⟨b, b1, rfl, b3⟩ : ∃ b, b < na ∧ r = nI b ∧ pqF M' 0 b := by
      rcases hr with ⟨-, hno⟩ | ⟨b, b1, b2, b3, -⟩
      · obtain ⟨c, c1, c2⟩ := hE
        exact absurd c2 (hno c c1)
      · exact ⟨b, b1, b2, b3⟩
    obtain ⟨Z, k1, k2⟩ := wait_exit hO h2 h3 h4 hW z1 100 (nI b)
    rw [if_pos rfl] at k1
    have e100 : nI 100 = 100 := rfl
    rw [w62_def, w149_def, e100, if_pos (show (100 : Int32) ≤ 100 by decide), gI_nI (show b < 20 by omega) (by decide), k1, if_pos (show (100 : Int32) ≤ 100 by decide)]
    by_cases c : M' 6 (nI b).toNatClampNeg = z1
    · rw [if_pos c]
      exact ⟨_, _, _, rfl, rfl, Rel_fnd' k2⟩
    · rw [if_neg c]
      exact ⟨_, _, _, rfl, rfl, Rel_fnd' k2⟩
  | succ j ih =>
    intro i n X' M' r hi hn hW hS hF hr hE
    obtain ⟨n', rfl⟩ : ∃ n', n = n' + 1 := ⟨n - 1, by omega⟩
    obtain ⟨b, b1, rfl, b3, b4⟩ : ∃ b, b < na ∧ r = nI b ∧ pqF M' 0 b := by
      rcases hr with ⟨-, hno⟩ | ⟨b, b1, b2, b3, -⟩
      · obtain ⟨c, c1, c2⟩ := hE
        exact absurd c2 (hno c c1)
      · exact ⟨b, b1, b2, b3⟩
    obtain ⟨Z, k1, k2⟩ := wait_exit hO h2 h3 h4 hW z1 (nI i) (nI b)
    rw [if_neg (show ¬ nI i = 100 from nI_ne (b := 100) (by omega) (by decide) (by omega))] at k1
    obtain ⟨m, hm, em⟩ := hS.2.2.2.2.2.2.2.2.2.1 b b1
    have e0 : mI M' b = m := by unfold mI; rw [em]; exact nI_clamp (by omega)
    have hpr : ¬ M' 3 m = 0 := by
      have := of_decide_eq_true (p := ¬ M' 3 (mI M' b) = 0) b3
      rw [e0] at this
      exact this
    have es : M' 7 b = nI 0 := b4.elim (fun w => absurd w (by decide)) (fun w => w)
    have a12 : atF (X' 12) 20 (nI b) = nI m := by
      rw [atF_nI (show b < 20 by omega) (by decide)]
      exact (hS.2.2.2.1 b (by omega)).trans em
    rw [w62_def, w149_def, hF, ob1_some, a12, if_neg (show ¬ (100 : Int32) ≤ nI i from nI_ge (b := 100) (by omega) (by decide)), if_neg (show ¬ (100 : Int32) ≤ nI i from nI_ge (b := 100) (by omega) (by decide)), nI_clamp (show b < 2 ^ 31 by omega), em, nI_clamp (show m < 2 ^ 31 by omega), k1]
    simp only [gI_nI (show b < 20 by omega) (show 20 < 2 ^ 31 by decide), gI_nI (show m < 10 by omega) (show 10 < 2 ^ 31 by decide)]
    by_cases c : nI m = z1
    · rw [if_pos c, if_pos c]
      exact ⟨_, _, _, rfl, rfl, k2⟩
    · rw [if_neg c, if_neg c]
      have hO' := WF_O hO hW
      obtain ⟨w1, w2, w3, w4, w5, w6, w7, k1, k2, k3, k4⟩ := id hW
      obtain ⟨X1, M4, x1, y1, x2, y2, y3, -, y5, y6, y7⟩ := st_take (Or.inr rfl) hO'.1 hS b1 hm em (show 0 < 3 by omega) es
      have m5 : M4 5 = M' 5 := y2 5 (by omega) (by omega) (by omega)
      have m2 : M4 2 = M' 2 := y2 2 (by omega) (by omega) (by omega)
      have m4 : M4 4 = M' 4 := y2 4 (by omega) (by omega) (by omega)
      have s5 : rSta 11 nm (na - 1) X1 (up2 (up2 M4 5 m (M4 5 m + 1)) 0 11 (M4 2 m)) := by
        refine y7 _ m2 m4 rfl rfl ?_ ?_ ?_
        · show upd (M4 5) m (M4 5 m + 1) = _
          rw [m5]; rfl
        · show M4 0 6 = _
          rw [y3, upd_s]
        · show M4 2 m = _
          rw [m2]
      have hW5 : WF na nm X M X1 (up2 (up2 M4 5 m (M4 5 m + 1)) 0 11 (M4 2 m)) := by
        refine ⟨fun c hc => ?_, fun c c0 c4 c5 c6 c7 c8 => ?_, fun j j1 j2 j3 => ?_, fun c c1 c2 => ?_, fun c c1 c2 => ?_, fun c c1 c2 => ?_, fun c c1 c2 => ?_, fun c hc => ?_, fun c hc => ?_, fun c hc => ?_, fun c hc => ?_⟩
        · rw [x2 c (by omega) (by omega) (by omega) (by omega)]; exact w1 c hc
        · rw [up2_n c0, up2_n c5, y2 c c0 c6 c7]; exact w2 c c0 c4 c5 c6 c7 c8
        · rw [up2_s, upd_n j2, up2_n (by omega), y3, upd_n j1]; exact w3 j j1 j2 j3
        · show M4 6 c = _
          rw [y5 c c1 c2]; exact w4 c c1 c2
        · show M4 7 c = _
          rw [y6 c c1 c2]; exact w5 c c1 c2
        · show M4 4 c = _
          rw [m4]; exact w6 c c1 c2
        · show upd (M4 5) m (M4 5 m + 1) c = _
          rw [upd_n (by omega), m5]; exact w7 c c1 c2
        · show M4 24 c = _
          rw [y2 24 (by omega) (by omega) (by omega)]; exact k1 c hc
        · show M4 25 c = _
          rw [y2 25 (by omega) (by omega) (by omega)]; exact k2 c hc
        · show M4 26 c = _
          rw [y2 26 (by omega) (by omega) (by omega)]; exact k3 c hc
        · show M4 27 c = _
          rw [y2 27 (by omega) (by omega) (by omega)]; exact k4 c hc
      have hO5 := WF_O hO hW5
      have eLx := limX hO5.1 hO5.2.2.1 (show m < 10 by omega) (show 0 < 3 by omega)
      have eLm := limM (M := up2 (up2 M4 5 m (M4 5 m + 1)) 0 11 (M4 2 m)) (show m < 10 by omega) (show 0 < 3 by omega)
      rw [nI_0] at eLx eLm
      rw [x1, ob1_some, eLx, ob1_some, y1, ob1_some, eLm, ob1_some]
      generalize lmF (up2 (up2 M4 5 m (M4 5 m + 1)) 0 11 (M4 2 m)) m 0 = L
      obtain ⟨X2, v1, v2, v3⟩ := st_time (Or.inr rfl) hO5.1 s5 hm L
      have s6 : rSta 11 nm (na - 1) X2 (up2 (up2 (up2 M4 5 m (M4 5 m + 1)) 0 11 (M4 2 m)) 4 m (M4 4 m + L)) := v3 _ rfl rfl rfl rfl rfl rfl rfl
      obtain ⟨X3, M7, t1, t2, t3, -, t5, t6, t7, t8, t9, t10⟩ := st_app (Or.inr rfl) s6 (by omega) hm (show 0 < 3 by omega)
      rw [nI_0] at t1 t2
      rw [v1, ob1_some, t1, ob1_some, t2, ob1_some]
      rw [show na - 1 + 1 = na by omega] at t3 t7 t8
      have hW7 : WF na nm X M X3 M7 := by
        obtain ⟨w1, w2, w3, w4, w5, w6, w7, k1, k2, k3, k4⟩ := hW5
        refine ⟨fun c hc => ?_, fun c c0 c4 c5 c6 c7 c8 => ?_, fun j j1 j2 j3 => ?_, fun c c1 c2 => ?_, fun c c1 c2 => ?_, fun c c1 c2 => ?_, fun c c1 c2 => ?_, fun c hc => ?_, fun c hc => ?_, fun c hc => ?_, fun c hc => ?_⟩
        · rw [t5 c (by omega) (by omega) (by omega), v2 c (by omega) (by omega)]; exact w1 c hc
        · rw [t6 c c0 c6 c7, up2_n c4]; exact w2 c c0 c4 c5 c6 c7 c8
        · rw [t8, upd_n j1]; exact w3 j j1 j2 j3
        · rw [t9, upd_n (by omega)]; exact w4 c c1 c2
        · rw [t10, upd_n (by omega)]; exact w5 c c1 c2
        · rw [t6 4 (by omega) (by omega) (by omega), up2_s, upd_n (by omega)]; exact w6 c c1 c2
        · rw [t6 5 (by omega) (by omega) (by omega)]; exact w7 c c1 c2
        · rw [t6 24 (by omega) (by omega) (by omega)]; exact k1 c hc
        · rw [t6 25 (by omega) (by omega) (by omega)]; exact k2 c hc
        · rw [t6 26 (by omega) (by omega) (by omega)]; exact k3 c hc
        · rw [t6 27 (by omega) (by omega) (by omega)]; exact k4 c hc
      have hO7 := WF_O hO hW7
      obtain ⟨r', f, u, f1, f2, f3⟩ := first_both hO7.1 t3 hO7.2.1 (z := 0) (by decide)
      rw [f2, ob2_some', nI_1]
      refine ih (i + 1) n' X3 (tl M7 f u) r' (by omega) (by omega) ?_ t3 f1 f3 ⟨na - 1, by omega, ?_, Or.inr ?_⟩
      · obtain ⟨w1, w2, w3, w4, w5, w6, w7, k1, k2, k3, k4⟩ := hW7
        refine ⟨w1, fun c c0 c4 c5 c6 c7 c8 => ?_, fun j j1 j2 j3 => ?_, w4, w5, w6, w7, k1, k2, k3, k4⟩
        · unfold tl; rw [up2_n c0, upc_n (by omega)]; exact w2 c c0 c4 c5 c6 c7 c8
        · show upd (M7 0) 33 u j = _
          rw [upd_n j3]; exact w3 j j1 j2 j3
      · refine decide_eq_true ?_
        show ¬ M7 3 (M7 6 (na - 1)).toNatClampNeg = 0
        rw [t9, upd_s, nI_clamp (show m < 2 ^ 31 by omega), t6 3 (by omega) (by omega) (by omega)]
        show ¬ M4 3 m = 0
        rw [y2 3 (by omega) (by omega) (by omega)]
        exact hpr
      · show M7 7 (na - 1) = 0
        rw [t10, upd_s]; rfl
theorem sim_wait {t : Nat} {X M : Mem} (h : Rel t X M) (_ht : t < 512) (a1 : Int32) : ∃ (r : Int32) (X2 M2 : Mem), fX8_wait X a1 = some (r, X2) ∧ fX9_wait M a1 = some (r, M2) ∧ Rel (t + 1) X2 M2 := by
  obtain ⟨nm, na, nk, nf, nr, ng, nq, hO, h2, h3, h4⟩ := Rel_O h
  have h1 := hO.1
  have hn := h2.1
  have hm1 := h1.1
  have hf := fu_gt
  unfold fX8_wait fX9_wait
  rw [has_eq h1]
  rcases mem_cases h1 a1 with e | ⟨e, m, hm, rfl⟩
  · simp only [e, ob1_some, ob2_some', fX8_fin, fX9_fin, ↓reduceIte]
    exact ⟨_, _, _, rfl, rfl, Rel_fnd h⟩
  have gm : ∀ (t : Option (Int32 × Mem)), gI (nI m) 10 t = t := fun t => gI_nI (show m < 10 by omega) (by decide)
  rcases find_both h2 h3 (nI m) 0 with ⟨f1, f2, f3⟩ | ⟨c, c1, c2, c3, c4, c5⟩
  · rw [e, ob1_some, ob1_some, if_neg n10, if_neg n10, f1, f2, ob1_some, ob1_some, if_pos rfl, if_neg neg1_nle, gm, fX8_fin, ob2_some', fX9_fin, ob2_some']
    by_cases q : M 3 (nI m).toNatClampNeg = 0
    · rw [if_pos q]
      exact ⟨_, _, _, rfl, rfl, Rel_fnd h⟩
    · rw [if_neg q]
      exact ⟨_, _, _, rfl, rfl, Rel_fnd h⟩
  · rw [e, ob1_some, ob1_some, if_neg n10, if_neg n10, c2, c3, ob1_some, ob1_some, if_neg (nI_neg1 (by omega)), if_pos (nI_pos' (by omega)), here_eq h1 (show m < 10 by omega), gm, ob1_some, nI_clamp (show m < 2 ^ 31 by omega)]
    by_cases q : M 3 m = 0
    · rw [if_pos q, if_pos q, fX8_fin, fX9_fin, ob2_some', ob2_some']
      exact ⟨_, _, _, rfl, rfl, Rel_fnd h⟩
    · rw [if_neg q, if_neg q]
      obtain ⟨X1, x1, x2, x3⟩ := become_both h2
      obtain ⟨Y, y1, y2, y3, y4⟩ := w53_loop (M := M) hn (nI m) (M 0 11) na 0 fu M (by omega) (by omega) (fun _ _ _ => rfl) (fun c hc => absurd hc (Nat.not_lt_zero c)) (fun c hc => absurd hc (Nat.not_lt_zero c))
      obtain ⟨Z, u1, u2, u3, u4⟩ := w96_loop (M := Y) hm1 ((congrFun (y2 0 (by omega) (by omega)) 0).trans h1.2.2.1) (nI m) (nI na) (M 0 11) nm 0 fu Y (by omega) (by omega) (fun _ _ _ => rfl) (fun c hc => absurd hc (Nat.not_lt_zero c)) (fun c hc => absurd hc (Nat.not_lt_zero c))
      rw [nI_0] at y1 u1
      have zf : ∀ c, c ≠ 24 → c ≠ 25 → c ≠ 26 → c ≠ 27 → Z c = M c := fun c q1 q2 q3 q4 => (u2 c q3 q4).trans (y2 c q1 q2)
      have z6 := zf 6 (by omega) (by omega) (by omega) (by omega)
      have z7 := zf 7 (by omega) (by omega) (by omega) (by omega)
      have z4 := zf 4 (by omega) (by omega) (by omega) (by omega)
      have z5 := zf 5 (by omega) (by omega) (by omega) (by omega)
      have z0 := zf 0 (by omega) (by omega) (by omega) (by omega)
      have z3 := zf 3 (by omega) (by omega) (by omega) (by omega)
      have hW : WF na nm X M X1 Z := by
        refine ⟨x2, fun c c0 _ _ _ _ c8 => zf c (by omega) (by omega) (by omega) (by omega), fun j _ _ _ => by rw [z0], fun c _ _ => by rw [z6], fun c _ _ => by rw [z7], fun c _ _ => by rw [z4], fun c _ _ => by rw [z5], fun c hc => ?_, fun c hc => ?_, fun c hc => ?_, fun c hc => ?_⟩
        · rw [u2 24 (by omega) (by omega)]; exact y3 c hc
        · rw [u2 25 (by omega) (by omega)]; exact y4 c hc
        · rw [u3 c hc, y2 4 (by omega) (by omega)]
        · rw [u4 c hc, y2 5 (by omega) (by omega)]
      have hOz := WF_O hO hW
      have hSz : rSta 11 nm na X1 Z := rSta_cg x3 (by rw [z0]) (by rw [z0]) (fun j _ => by rw [z6]) (fun j _ => by rw [z7]) z4 z5 (zf 2 (by omega) (by omega) (by omega) (by omega))
      obtain ⟨r', f, v, f1, f2, f3⟩ := first_both hOz.1 hSz hOz.2.1 (z := 0) (by decide)
      rw [x1, ob1_some, h2.2.2.1, y1, u1, f2, ob2_some']
      have hE : ∃ c, c < na ∧ pqF (tl Z f v) 0 c := by
        refine ⟨c, c1, decide_eq_true ?_, Or.inr ?_⟩
        · show ¬ Z 3 (Z 6 c).toNatClampNeg = 0
          rw [z6, z3, c4, nI_clamp (show m < 2 ^ 31 by omega)]; exact q
        · show Z 7 c = 0
          rw [z7]; exact c5
      have hW2 : WF na nm X M X1 (tl Z f v) := by
        obtain ⟨w1, w2, w3, w4, w5, w6, w7, k1, k2, k3, k4⟩ := hW
        refine ⟨w1, fun c c0 c4 c5 c6 c7 c8 => ?_, fun j j1 j2 j3 => ?_, w4, w5, w6, w7, k1, k2, k3, k4⟩
        · unfold tl; rw [up2_n c0, upc_n (by omega)]; exact w2 c c0 c4 c5 c6 c7 c8
        · show upd (Z 0) 33 v j = _
          rw [upd_n j3]; exact w3 j j1 j2 j3
      have := wait_loop hO h2 h3 h4 (nI m) 100 0 fu X1 (tl Z f v) r' (by omega) (by omega) hW2 hSz f1 f3 hE
      rw [nI_0] at this
      exact this
