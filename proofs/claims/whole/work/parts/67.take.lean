/-! an asking is taken; time is added -/
theorem ob1_id {α : Type} (o : Option α) : ob1 o (fun m => some m) = o := by
  cases o <;> rfl
def spF (s : Nat) : Int32 := if s = 0 then 1 else 0
theorem rSta_cg {k nm na : Nat} {X M M' : Mem} (h : rSta k nm na X M) (e6 : M' 0 6 = M 0 6) (e11 : M' 0 11 = M 0 11) (f6 : ∀ j, j < 20 → M' 6 j = M 6 j) (f7 : ∀ j, j < 20 → M' 7 j = M 7 j) (f4 : M' 4 = M 4) (f5 : M' 5 = M 5) (f2 : M' 2 = M 2) : rSta k nm na X M' := by
  obtain ⟨p1, p2, p3, p4, p5, p6, p7, p8, p9, p10, p11⟩ := h
  refine ⟨p1, p2, by rw [e6]; exact p3, fun j hj => by rw [f6 j hj]; exact p4 j hj, fun j hj => by rw [f7 j hj]; exact p5 j hj, by rw [f4]; exact p6, by rw [f5]; exact p7, by rw [e11]; exact p8, by rw [f2, f4]; exact p9, fun j hj => by rw [f6 j (by omega)]; exact p10 j hj, fun j hj => by rw [f7 j (by omega)]; exact p11 j hj⟩
theorem takeX_def {k : Nat} (hk : isSt k) (X : Mem) (a1 : Int32) : fX7_take k X a1 = if atF (X (k + 2)) 20 a1 = 0 then fX7_drop k (up2 (upc X (k + 4) (setF (X (k + 4)) 10 (atF (X (k + 1)) 20 a1) (atF (X (k + 4)) 10 (atF (X (k + 1)) 20 a1) + 1))) k 7 (atF (X 3) 10 (atF (X (k + 1)) 20 a1))) a1 else fX7_drop k (up2 X k 7 (atF (X 3) 10 (atF (X (k + 1)) 20 a1))) a1 := by
  unfold fX7_take fX7_memberAt fX7_sortAt fX7_speechesOf fX4_delegationOf
  simp only [ob1_some, ob1_id]
  rcases hk with rfl | rfl <;> rfl
theorem st_take {k nm na a m s : Nat} {X M : Mem} (hk : isSt k) (h1 : rRos nm X M) (h2 : rSta k nm na X M) (ha : a < na) (hm : m < nm) (em : M 6 a = nI m) (hs : s < 3) (es : M 7 a = nI s) : ∃ X' M4 : Mem, fX7_take k X (nI a) = some X' ∧ fX9_goes M (nI a) = some M4 ∧ (∀ c, c ≠ k → c ≠ k + 1 → c ≠ k + 2 → c ≠ k + 4 → X' c = X c) ∧ (∀ c, c ≠ 0 → c ≠ 6 → c ≠ 7 → M4 c = M c) ∧ M4 0 = upd (M 0) 6 (nI (na - 1)) ∧ (rUni na M → rUni (na - 1) M4) ∧ (∀ c, na ≤ c → c < 20 → M4 6 c = M 6 c) ∧ (∀ c, na ≤ c → c < 20 → M4 7 c = M 7 c) ∧ ∀ M5 : Mem, M5 2 = M 2 → M5 4 = M 4 → M5 6 = M4 6 → M5 7 = M4 7 → M5 5 = upd (M 5) m (M 5 m + spF s) → M5 0 6 = nI (na - 1) → M5 0 11 = M 2 m → rSta k nm (na - 1) X' M5 := by
  have hn := h1.1
  have hn2 := h2.1
  obtain ⟨-, M4, -, y1, -, y2, -, y3, -, y4, y5, y6⟩ := st_drop hk h2 ha
  have ed := h1.2.2.2.2.1 m (by omega)
  obtain ⟨p1, p2, p3, p4, p5, p6, p7, p8, p9, p10, p11⟩ := h2
  have key : ∀ X2 : Mem, rSta k nm na X2 (up2 (upc M 5 (upd (M 5) m (M 5 m + spF s))) 0 11 (M 2 m)) → (∀ c, c ≠ k → c ≠ k + 4 → X2 c = X c) → ∃ X' : Mem, fX7_drop k X2 (nI a) = some X' ∧ (∀ c, c ≠ k → c ≠ k + 1 → c ≠ k + 2 → c ≠ k + 4 → X' c = X c) ∧ ∀ M5 : Mem, M5 2 = M 2 → M5 4 = M 4 → M5 6 = M4 6 → M5 7 = M4 7 → M5 5 = upd (M 5) m (M 5 m + spF s) → M5 0 6 = nI (na - 1) → M5 0 11 = M 2 m → rSta k nm (na - 1) X' M5 := by
    intro X2 hX2 hfr
    obtain ⟨X', N, x1, n1, r1, -, x2, n2, -, n4, n5, n6⟩ := st_drop hk hX2 ha
    refine ⟨X', x1, fun c c1 c2 c3 c4 => by rw [x2 c c1 c2 c3]; exact hfr c c1 c4, fun M5 m2 m4 m6 m7 m5 m06 m011 => ?_⟩
    refine rSta_cg r1 ?_ ?_ (fun j hj => ?_) (fun j hj => ?_) ?_ ?_ ?_
    · rw [m06, n4, upd_s]
    · rw [m011, n4, upd_n (by omega)]; rfl
    · rw [m6, y5 j hj, n5 j hj]; rfl
    · rw [m7, y6 j hj, n6 j hj]; rfl
    · rw [m4, n2 4 (by omega) (by omega) (by omega)]; rfl
    · rw [m5, n2 5 (by omega) (by omega) (by omega)]; rfl
    · rw [m2, n2 2 (by omega) (by omega) (by omega)]; rfl
  have fr6 : ∀ c, na ≤ c → c < 20 → M4 6 c = M 6 c := fun c c1 c2 => by
    rw [y5 c c2]; unfold dlF; rw [if_neg (by omega)]
  have fr7 : ∀ c, na ≤ c → c < 20 → M4 7 c = M 7 c := fun c c1 c2 => by
    rw [y6 c c2]; unfold dlF; rw [if_neg (by omega)]
  rw [takeX_def hk, atF_nI (show a < 20 by omega) (by decide), atF_nI (show a < 20 by omega) (by decide), p4 a (by omega), p5 a (by omega), em, es, atF_nI (show m < 10 by omega) (by decide), atF_nI (show m < 10 by omega) (by decide), setF_nI (show m < 10 by omega) (by decide), ed, p7 m (by omega)]
  by_cases c : s = 0
  · subst c
    rw [if_pos (show nI 0 = 0 from rfl)]
    have e1 : spF 0 = 1 := rfl
    obtain ⟨X', k1, k2, k3⟩ := key (up2 (upc X (k + 4) (upd (X (k + 4)) m (M 5 m + 1))) k 7 (M 2 m)) ⟨p1, by rw [up2_s, upd_n (by omega), upc_n (by omega)]; exact p2, p3, fun j hj => by rw [up2_n (by omega), upc_n (by omega)]; exact p4 j hj, fun j hj => by rw [up2_n (by omega), upc_n (by omega)]; exact p5 j hj, fun j hj => by rw [up2_n (by omega), upc_n (by omega)]; exact p6 j hj, fun j hj => by
        rw [up2_n (by omega), upc_s]
        show upd (X (k + 4)) m (M 5 m + 1) j = upd (M 5) m (M 5 m + spF 0) j
        rw [e1]; unfold upd; rw [p7 j hj], by rw [up2_s, upd_s]; rfl, fun j hj => by rw [up2_n (by omega), upc_n (by omega)]; exact p9 j hj, p10, p11⟩ (fun c c1 c2 => by rw [up2_n c1, upc_n c2])
    exact ⟨X', M4, k1, y1, k2, y3, y4, y2, fr6, fr7, k3⟩
  · rw [if_neg (nI_ne0 (by omega) (by omega))]
    have e1 : spF s = 0 := if_neg c
    obtain ⟨X', k1, k2, k3⟩ := key (up2 X k 7 (M 2 m)) ⟨p1, by rw [up2_s, upd_n (by omega)]; exact p2, p3, fun j hj => by rw [up2_n (by omega)]; exact p4 j hj, fun j hj => by rw [up2_n (by omega)]; exact p5 j hj, fun j hj => by rw [up2_n (by omega)]; exact p6 j hj, fun j hj => by
        rw [up2_n (by omega)]
        show X (k + 4) j = upd (M 5) m (M 5 m + spF s) j
        rw [e1, Int32.add_zero, p7 j hj]
        by_cases q : j = m
        · rw [q, upd_s]
        · rw [upd_n q], by rw [up2_s, upd_s]; rfl, fun j hj => by rw [up2_n (by omega)]; exact p9 j hj, p10, p11⟩ (fun c c1 c2 => by rw [up2_n c1])
    exact ⟨X', M4, k1, y1, k2, y3, y4, y2, fr6, fr7, k3⟩
theorem tsum_upd {D T : Nat → Int32} {d v : Int32} {m : Nat} : ∀ n, m < n → tsum D (upd T m (T m + v)) d n = tsum D T d n + (if D m = d then v else 0) := by
  intro n
  induction n with
  | zero => intro h; omega
  | succ n ih =>
    intro h
    rw [tsum, tsum]
    by_cases c : m = n
    · subst c
      rw [tsum_cong (D' := D) (T' := T) (fun _ _ => rfl) (fun j hj => upd_n (by omega)), upd_s]
      by_cases q : D m = d
      · rw [if_pos q, if_pos q, if_pos q, Int32.add_assoc]
      · rw [if_neg q, if_neg q, if_neg q, Int32.add_zero, Int32.add_zero]
    · rw [ih (by omega), upd_n (fun q => c q.symm), Int32.add_assoc, Int32.add_assoc, Int32.add_comm (if D m = d then v else 0)]
theorem addX_def {k : Nat} (hk : isSt k) (X : Mem) (a1 a2 : Int32) : fX7_addTime k X a1 a2 = some (upc (upc X (k + 3) (setF (X (k + 3)) 10 a1 (atF (X (k + 3)) 10 a1 + a2))) (k + 5) (setF (X (k + 5)) 5 (atF (X 3) 10 a1) (atF (X (k + 5)) 5 (atF (X 3) 10 a1) + a2))) := by
  unfold fX7_addTime fX4_delegationOf fX7_timeOf fX7_delegationTime
  rcases hk with rfl | rfl <;> rfl
theorem st_time {k nm na m : Nat} {X M : Mem} (hk : isSt k) (h1 : rRos nm X M) (h2 : rSta k nm na X M) (hm : m < nm) (v : Int32) : ∃ X' : Mem, fX7_addTime k X (nI m) v = some X' ∧ (∀ c, c ≠ k + 3 → c ≠ k + 5 → X' c = X c) ∧ ∀ M5 : Mem, M5 2 = M 2 → M5 5 = M 5 → M5 6 = M 6 → M5 7 = M 7 → M5 4 = upd (M 4) m (M 4 m + v) → M5 0 6 = M 0 6 → M5 0 11 = M 0 11 → rSta k nm na X' M5 := by
  have hn := h1.1
  obtain ⟨d, hd, ed⟩ := h1.2.2.2.2.2.2.2.2 m (by omega)
  have ed' := h1.2.2.2.2.1 m (by omega)
  obtain ⟨p1, p2, p3, p4, p5, p6, p7, p8, p9, p10, p11⟩ := h2
  rw [addX_def hk, atF_nI (show m < 10 by omega) (by decide), atF_nI (show m < 10 by omega) (by decide), setF_nI (show m < 10 by omega) (by decide), ed', ed, atF_nI hd (by decide), setF_nI hd (by decide), p6 m (by omega)]
  refine ⟨_, rfl, fun c c1 c2 => by rw [upc_n c2, upc_n c1], fun M5 m2 m5 m6 m7 m4 m06 m011 => ⟨p1, ?_, by rw [m06]; exact p3, fun j hj => ?_, fun j hj => ?_, fun j hj => ?_, fun j hj => ?_, ?_, fun e he => ?_, fun j hj => by rw [m6]; exact p10 j hj, fun j hj => by rw [m7]; exact p11 j hj⟩⟩
  · rw [upc_n (by omega), upc_n (by omega)]; exact p2
  · rw [upc_n (by omega), upc_n (by omega), m6]; exact p4 j hj
  · rw [upc_n (by omega), upc_n (by omega), m7]; exact p5 j hj
  · rw [upc_n (by omega), upc_s, m4]
    unfold upd; rw [p6 j hj]
  · rw [upc_n (by omega), upc_n (by omega), m5]; exact p7 j hj
  · rw [upc_n (by omega), upc_n (by omega), m011]; exact p8
  · rw [upc_s, m2, m4, tsum_upd nm hm, ed]
    by_cases q : e = d
    · rw [q, upd_s, if_pos rfl, p9 d hd]
    · rw [upd_n q, if_neg (nI_ne (by omega) (by omega) (fun w => q w.symm)), Int32.add_zero, p9 e he]
/-! the floor is taken -/
theorem lmF_b {nm nf m s : Nat} {X M : Mem} (h6 : rFlo nm nf X M) (hs : s < 3) : ∃ l, 1 ≤ l ∧ l ≤ 100 ∧ lmF M m s = nI l := by
  obtain ⟨v, v1, v2, v3⟩ := h6.2.2.2.2.2.2.2.2.2.2 s hs
  unfold lmF
  by_cases c : M 1 m = 3
  · rw [if_pos c, v3]
    exact ⟨2 * v, by omega, by omega, (Int32.ofNat_mul 2 v).symm⟩
  · rw [if_neg c, v3]
    exact ⟨v, by omega, by omega, rfl⟩
def tkM (m4 : Mem) (nf m : Nat) (A S L sp : Int32) : Mem := up2 (up2 (up2 (up2 (up2 (up2 (up2 m4 9 nf A) 10 nf S) 11 nf L) 12 nf 0) 0 12 (m4 0 12 + 1)) 5 m (m4 5 m + sp)) 0 11 (m4 2 m)
theorem takeM_def (M m4 : Mem) (a1 : Int32) (h : fX9_goes M a1 = some m4) : fX9_take M a1 = gI a1 20 (gI a1 20 (gI (m4 0 12) 5 (gI (m4 0 12) 5 (ob1 (fX9_limitOf (up2 (up2 m4 9 (m4 0 12).toNatClampNeg (M 6 a1.toNatClampNeg)) 10 (m4 0 12).toNatClampNeg (M 7 a1.toNatClampNeg)) (M 6 a1.toNatClampNeg) (M 7 a1.toNatClampNeg)) (fun r8 => gI (m4 0 12) 5 (gI (m4 0 12) 5 (gI (M 6 a1.toNatClampNeg) 10 (if M 7 a1.toNatClampNeg = 0 then (gI (M 6 a1.toNatClampNeg) 10 (gI (M 6 a1.toNatClampNeg) 10 (some (M 6 a1.toNatClampNeg, tkM m4 (m4 0 12).toNatClampNeg (M 6 a1.toNatClampNeg).toNatClampNeg (M 6 a1.toNatClampNeg) (M 7 a1.toNatClampNeg) r8 1)))) else (gI (M 6 a1.toNatClampNeg) 10 (gI (M 6 a1.toNatClampNeg) 10 (some (M 6 a1.toNatClampNeg, tkM m4 (m4 0 12).toNatClampNeg (M 6 a1.toNatClampNeg).toNatClampNeg (M 6 a1.toNatClampNeg) (M 7 a1.toNatClampNeg) r8 0)))))))))))) := by
  unfold fX9_take
  rw [h]
  rfl
def tkX (X : Mem) (nf : Nat) (A S L v : Int32) : Mem := up2 (upc (upc (upc (upc X 22 (upd (X 22) nf A)) 23 (upd (X 23) nf S)) 24 (upd (X 24) nf L)) 25 (upd (X 25) nf 0)) 21 5 v
theorem pushX_def (X : Mem) (a1 a2 a3 : Int32) : fX1_push X a1 a2 a3 = if 4 < X 21 5 then some X else some (up2 (upc (upc (upc (upc X 22 (setF (X 22) 5 (X 21 5) a1)) 23 (setF (X 23) 5 (X 21 5) a2)) 24 (setF (X 24) 5 (X 21 5) a3)) 25 (setF (X 25) 5 (X 21 5) 0)) 21 5 (X 21 5 + 1)) := rfl
theorem take_both {t nm na nk nf nr ng nq a : Nat} {X M : Mem} (hO : RelO t nm nk nf nr ng nq X M) (h2 : rSta 5 nm na X M) (h3 : rUni na M) (h4 : rTim (100 * t) nm M) (ha : a < na) (hf : nf < 5) : ∃ (r : Int32) (X2 M2 : Mem), fX8_takeFloor X (nI a) = some (r, X2) ∧ fX9_take M (nI a) = some (r, M2) ∧ Rel (t + 1) X2 M2 := by
  have h1 := hO.1
  have h6 := hO.2.2.1
  have hn := h1.1
  have hn2 := h2.1
  obtain ⟨m, hm, em⟩ := h2.2.2.2.2.2.2.2.2.2.1 a ha
  obtain ⟨s, hs, es⟩ := h2.2.2.2.2.2.2.2.2.2.2 a ha
  obtain ⟨X', m4, x1, y1, x2, y2, y3, y4, -, -, hS⟩ := st_take (Or.inl rfl) h1 h2 ha hm em hs es
  obtain ⟨L, L1, L2, eL⟩ := lmF_b (m := m) h6 hs
  have xr : ∀ c, (c < 5 ∨ (16 < c ∧ c ≠ 19 ∧ c ≠ 20)) → X' c = X c := fun c hc => x2 c (by omega) (by omega) (by omega) (by omega)
  have r1' : rRos nm X' M := by
    unfold rRos; rw [xr 1 (by omega), xr 2 (by omega), xr 3 (by omega), xr 4 (by omega)]; exact h1
  have r6' : rFlo nm nf X' M := by
    unfold rFlo; rw [xr 21 (by omega), xr 22 (by omega), xr 23 (by omega), xr 24 (by omega), xr 25 (by omega), xr 26 (by omega)]; exact h6
  have m012 : m4 0 12 = nI nf := by rw [y3, upd_n (by omega)]; exact h6.2.2.1
  have x21 : X' 21 5 = nI nf := by rw [xr 21 (by omega)]; exact h6.2.1
  have eX : fX8_takeFloor X (nI a) = some (nI m, tkX X' nf (nI m) (nI s) (nI L) (nI (nf + 1))) := by
    unfold fX8_takeFloor fX7_memberAt fX7_sortAt
    rw [ob1_some, ob1_some, atF_nI (show a < 20 by omega) (by decide), atF_nI (show a < 20 by omega) (by decide), h2.2.2.2.1 a (by omega), h2.2.2.2.2.1 a (by omega), em, es, x1, ob1_some, limX r1' r6' (by omega) hs, ob1_some, eL, pushX_def, x21, if_neg (show ¬ (4 : Int32) < nI nf from nI_nlt (a := 4) (by omega) (by decide)), ob1_some, setF_nI hf (by decide), setF_nI hf (by decide), setF_nI hf (by decide), setF_nI hf (by decide), nI_1]
    rfl
  have eM : fX9_take M (nI a) = some (nI m, tkM m4 nf m (nI m) (nI s) (nI L) (spF s)) := by
    have lm : ∀ (A S : Int32), lmF (up2 (up2 m4 9 nf A) 10 nf S) m s = nI L := by
      intro A S
      have : lmF (up2 (up2 m4 9 nf A) 10 nf S) m s = lmF m4 m s := rfl
      rw [this]
      unfold lmF
      rw [y2 1 (by omega) (by omega) (by omega), y2 13 (by omega) (by omega) (by omega)]
      exact eL
    rw [takeM_def M m4 (nI a) y1, m012, nI_clamp (show nf < 2 ^ 31 by omega), nI_clamp (show a < 2 ^ 31 by omega), em, es, nI_clamp (show m < 2 ^ 31 by omega), limM (by omega) hs, ob1_some, lm]
    simp only [gI_nI (show a < 20 by omega) (show 20 < 2 ^ 31 by decide), gI_nI (show m < 10 by omega) (show 10 < 2 ^ 31 by decide), gI_nI hf (show 5 < 2 ^ 31 by decide)]
    by_cases c : s = 0
    · subst c
      rw [if_pos (show nI 0 = 0 from rfl)]; rfl
    · rw [if_neg (nI_ne0 (by omega) (by omega)), show spF s = 0 from if_neg c]
  refine ⟨_, _, _, eX, eM, ?_⟩
  have m5 : m4 5 = M 5 := y2 5 (by omega) (by omega) (by omega)
  have m2 : m4 2 = M 2 := y2 2 (by omega) (by omega) (by omega)
  obtain ⟨r1, r5, r6, r7, r8, r9, r10, r11⟩ := RelO_st (X' := X') (M' := up2 (up2 m4 5 m (m4 5 m + spF s)) 0 11 (m4 2 m)) hO xr (fun c c1 _ c3 c4 c5 _ => by rw [up2_n c1, up2_n c3]; exact y2 c c1 c4 c5) (fun j j1 j2 _ => by rw [up2_s, upd_n j2, up2_n (by omega), y3, upd_n j1])
  refine Rel_I (nk := nk) (nf := nf + 1) (nr := nr) (ng := ng) (nq := nq) ⟨r1, r5, ?_, r7, r8, r9, r10, r11⟩ (hS _ m2 (y2 4 (by omega) (by omega) (by omega)) rfl rfl ?_ ?_ ?_) (y4 h3) (rTim_up h4 (y2 4 (by omega) (by omega) (by omega)))
  · obtain ⟨q1, q2, q3, q4, q5, q6, q7, q8, q9, q10, q11⟩ := r6
    refine ⟨by omega, rfl, ?_, fun j hj => ?_, fun j hj => ?_, fun j hj => ?_, fun j hj => ?_, fun j hj => ?_, fun j hj => ?_, q10, q11⟩
    · show m4 0 12 + 1 = nI (nf + 1)
      rw [m012, nI_1]
    · show upd (X' 22) nf (nI m) j = upd (m4 9) nf (nI m) j
      unfold upd; rw [q4 j hj]; rfl
    · show upd (X' 23) nf (nI s) j = upd (m4 10) nf (nI s) j
      unfold upd; rw [q5 j hj]; rfl
    · show upd (X' 24) nf (nI L) j = upd (m4 11) nf (nI L) j
      unfold upd; rw [q6 j hj]; rfl
    · show upd (X' 25) nf 0 j = upd (m4 12) nf 0 j
      unfold upd; rw [q7 j hj]; rfl
    · show ∃ a, a < nm ∧ upd (m4 9) nf (nI m) j = nI a
      by_cases c : j = nf
      · rw [c, upd_s]; exact ⟨m, hm, rfl⟩
      · rw [upd_n c]; exact q8 j (by omega)
    · show ∃ l, 1 ≤ l ∧ l ≤ 100 ∧ upd (m4 11) nf (nI L) j = nI l
      by_cases c : j = nf
      · rw [c, upd_s]; exact ⟨L, L1, L2, rfl⟩
      · rw [upd_n c]; exact q9 j (by omega)
  · show upd (m4 5) m (m4 5 m + spF s) = _
    rw [m5]
  · show m4 0 6 = _
    rw [y3, upd_s]
  · show m4 2 m = _
    rw [m2]
theorem RelO_tl {t nm nk nf nr ng nq : Nat} {X M : Mem} {f : Nat → Int32} {v : Int32} (h : RelO t nm nk nf nr ng nq X M) : RelO t nm nk nf nr ng nq X (tl M f v) := by
  obtain ⟨h1, h5, h6, h7, h8, h9, h10, h11⟩ := h
  exact ⟨h1, h5, h6, h7, h8, h9, h10, h11⟩
theorem beginM_def (M : Mem) (f : Nat → Int32) (v : Int32) (h : fX9_tellList M = some (tl M f v)) : fX9_begin M = if M 0 12 ≤ 0 then (if v = 0 then some (-100006, up2 (tl M f v) 0 31 ((tl M f v) 0 31 + 1)) else gI 0 20 (ob2 (fX9_take (tl M f v) (f 0)) (fun r8 m7 => some (r8, m7)))) else some (-100007, up2 M 0 31 (M 0 31 + 1)) := by
  unfold fX9_begin
  rw [h]
  rfl
theorem sim_begin {t : Nat} {X M : Mem} (h : Rel t X M) (_ht : t < 512) : ∃ (r : Int32) (X2 M2 : Mem), fX8_begin X = some (r, X2) ∧ fX9_begin M = some (r, M2) ∧ Rel (t + 1) X2 M2 := by
  obtain ⟨nm, na, nk, nf, nr, ng, nq, hO, h2, h3, h4⟩ := Rel_O h
  obtain ⟨f, len, e1, e2, e3⟩ := first_all hO.1 h2 hO.2.1
  have h6 := hO.2.2.1
  have hn := h6.1
  unfold fX8_begin fX1_isHeld
  rw [beginM_def M f _ e1, h6.2.1, h6.2.2.1]
  rcases Nat.eq_zero_or_pos nf with c | c
  · subst c
    rw [if_pos (show nI 0 ≤ 0 by decide), if_pos (show nI 0 ≤ 0 by decide), ob1_some, if_pos rfl]
    rcases e3 with ⟨l0, k1⟩ | ⟨l0, a, a1, a2, a3⟩
    · subst l0
      rw [if_pos (show nI 0 = 0 from rfl), k1, ob1_some, if_pos rfl, fX8_fin, ob2_some']
      exact ⟨_, _, _, rfl, rfl, Rel_fnd (Rel_tl h)⟩
    · obtain ⟨r, X2, M2, t1, t2, t3⟩ := take_both (a := a) (RelO_tl (f := f) (v := nI len) hO) h2 h3 h4 a1 (by omega)
      rw [if_neg (nI_ne0 l0 (by omega)), a3, ob1_some, if_neg (nI_neg1 (by have := h2.1; omega)), t1, ob2_some', a2, t2, ob2_some', show (0 : Int32) = nI 0 from rfl, gI_nI (show 0 < 20 by omega) (by decide)]
      exact ⟨_, _, _, rfl, rfl, t3⟩
  · rw [if_neg (nI_nle c (by omega)), if_neg (nI_nle c (by omega)), ob1_some, if_neg n10, fX8_fin, ob2_some']
    exact ⟨_, _, _, rfl, rfl, Rel_fnd h⟩
theorem sim_cut {t : Nat} {X M : Mem} (h : Rel t X M) (_ht : t < 512) : ∃ (r : Int32) (X2 M2 : Mem), fX8_cut X = some (r, X2) ∧ fX9_cut M = some (r, M2) ∧ Rel (t + 1) X2 M2 := by
  obtain ⟨nm, na, nk, nf, nr, ng, nq, hO, h2, h3, h4⟩ := Rel_O h
  obtain ⟨r, f, v, e1, e2, e3⟩ := first_both hO.1 h2 hO.2.1 (z := 2) (by decide)
  have h6 := hO.2.2.1
  have hn := h6.1
  have m12 : (tl M f v) 0 12 = nI nf := h6.2.2.1
  unfold fX8_cut fX9_cut fX1_isHeld fX1_behind
  rw [e1, e2, ob1_some, ob2_some', m12, h6.2.1]
  rcases Nat.eq_zero_or_pos nf with c | c
  · subst c
    rw [if_pos (show nI 0 ≤ 0 by decide), ob1_some, if_pos rfl, if_pos (show nI 0 = 0 from rfl), fX8_fin, fX9_fin, ob2_some', ob2_some']
    exact ⟨_, _, _, rfl, rfl, Rel_fnd (Rel_tl h)⟩
  · rw [if_neg (nI_nle c (by omega)), ob1_some, if_neg n10, if_neg (nI_ne0 c (by omega))]
    obtain ⟨d, rfl⟩ : ∃ d, nf = d + 1 := ⟨nf - 1, by omega⟩
    rcases e3 with ⟨er, -⟩ | ⟨b, b1, er, b3, -⟩
    · subst er
      rw [if_pos rfl, if_neg neg1_nle, fX8_fin, fX9_fin, ob2_some', ob2_some']
      exact ⟨_, _, _, rfl, rfl, Rel_fnd (Rel_tl h)⟩
    · subst er
      have hb : b < 2 ^ 31 := by have := h2.1; omega
      rw [if_neg (nI_neg1 hb), if_pos (nI_pos' hb), nI_pred, ob1_some]
      have ev : (if 0 < nI d then nI d else 0) = nI d := by
        by_cases q : 0 < nI d
        · rw [if_pos q]
        · rw [if_neg q]
          rcases Nat.eq_zero_or_pos d with w | w
          · rw [w]; rfl
          · exact absurd (nI_lt (a := 0) w (by omega)) q
      rw [ev]
      by_cases q : d < 4
      · obtain ⟨r, X2, M2, t1, t2, t3⟩ := take_both (a := b) (RelO_tl (f := f) (v := v) hO) h2 h3 h4 b1 (by omega)
        rw [if_pos (show nI d < 4 from nI_lt (b := 4) q (by decide)), if_pos (show nI (d + 1) ≤ 4 from nI_le (b := 4) (by omega) (by decide)), t1, t2, ob2_some', ob2_some']
        exact ⟨_, _, _, rfl, rfl, t3⟩
      · rw [if_neg (show ¬ nI d < 4 from nI_nlt (b := 4) (by omega) (by omega)), if_neg (show ¬ nI (d + 1) ≤ 4 from nI_ge (a := 4) (by omega) (by omega)), fX8_fin, fX9_fin, ob2_some', ob2_some']
        exact ⟨_, _, _, rfl, rfl, Rel_fnd (Rel_tl h)⟩
