/-! ticks -/
def tkT (M : Mem) (d m : Nat) : Mem := up2 (up2 (up2 M 4 m (M 4 m + 1)) 12 d (M 12 d + 1)) 11 d (M 11 d - 1)
theorem tickM_def (z1 : Int32) (n : Nat) (M : Mem) (x2 x3 : Int32) : fX9_tick_21 z1 (n + 1) M x2 x3 = if z1 ≤ x3 then some (x2, M) else (if M 0 12 ≤ 0 then some (x2, M) else (gI (M 0 12 - 1) 5 (gI (M 9 (M 0 12 - 1).toNatClampNeg) 10 (gI (M 9 (M 0 12 - 1).toNatClampNeg) 10 (gI (M 0 12 - 1) 5 (gI (M 0 12 - 1) 5 (gI (M 0 12 - 1) 5 (gI (M 0 12 - 1) 5 (gI (M 0 12 - 1) 5 (if tkT M (M 0 12 - 1).toNatClampNeg (M 9 (M 0 12 - 1).toNatClampNeg).toNatClampNeg 11 (M 0 12 - 1).toNatClampNeg = 0 then ob1 (fX9_end (tkT M (M 0 12 - 1).toNatClampNeg (M 9 (M 0 12 - 1).toNatClampNeg).toNatClampNeg)) (fun m17 => fX9_tick_21 z1 n m17 (x2 + 1) (x3 + 1)) else fX9_tick_21 z1 n (tkT M (M 0 12 - 1).toNatClampNeg (M 9 (M 0 12 - 1).toNatClampNeg).toNatClampNeg) (x2 + 1) (x3 + 1))))))))))) := rfl
theorem spendX_def (X : Mem) : fX1_spendTick X = some (upc (upc X 24 (setF (X 24) 5 (X 21 5 - 1) (atF (X 24) 5 (X 21 5 - 1) - 1))) 25 (setF (X 25) 5 (X 21 5 - 1) (atF (X 25) 5 (X 21 5 - 1) + 1))) := rfl
def skX (X : Mem) (d : Nat) : Mem := upc (upc X 24 (upd (X 24) d (X 24 d - 1))) 25 (upd (X 25) d (X 25 d + 1))
theorem tick_loop {nm na nk nq K T : Nat} (hK : K ≤ 100) (hT : T + 100 ≤ 60000) : ∀ j i n nf nr ng (X M : Mem) (x : Int32), i + j = K → j < n → RelN (T + i) nm na nk nq X M → rFlo nm nf X M → rMin (T + i) nr ng X M → ∃ (r : Int32) (X' M' : Mem) (nf' nr' ng' : Nat), fX8_tick_21 (nI K) n X x (nI i) = some (r, X') ∧ fX9_tick_21 (nI K) n M x (nI i) = some (r, M') ∧ RelN (T + K) nm na nk nq X' M' ∧ rFlo nm nf' X' M' ∧ rMin (T + K) nr' ng' X' M' := by
  intro j
  induction j with
  | zero =>
    intro i n nf nr ng X M x hi hn hN h6 h8
    obtain ⟨n', rfl⟩ : ∃ n', n = n' + 1 := ⟨n - 1, by omega⟩
    have e : i = K := by omega
    subst e
    rw [fX8_tick_21, tickM_def, if_pos (nI_le (Nat.le_refl i) (by omega)), if_pos (nI_le (Nat.le_refl i) (by omega))]
    exact ⟨_, _, _, _, _, _, rfl, rfl, hN, h6, h8⟩
  | succ j ih =>
    intro i n nf nr ng X M x hi hn hN h6 h8
    obtain ⟨n', rfl⟩ : ∃ n', n = n' + 1 := ⟨n - 1, by omega⟩
    have hf := h6.1
    have ei : fX1_isHeld X = if nI nf ≤ 0 then some 0 else some 1 := by unfold fX1_isHeld; rw [h6.2.1]
    rw [fX8_tick_21, tickM_def, if_neg (nI_ge (by omega) (by omega)), if_neg (nI_ge (by omega) (by omega)), h6.2.2.1]
    rcases Nat.eq_zero_or_pos nf with c | c
    · subst c
      rw [ei, if_pos (show nI 0 ≤ 0 by decide), if_pos (show nI 0 ≤ 0 by decide), ob1_some, if_pos rfl]
      exact ⟨_, _, _, _, _, _, rfl, rfl, RelN_up hN (by omega), h6, rMin_up h8 (by omega)⟩
    · obtain ⟨d, rfl⟩ : ∃ d, nf = d + 1 := ⟨nf - 1, by omega⟩
      obtain ⟨q1, q2, q3, q4, q5, q6, q7, q8, q9, q10, q11⟩ := id h6
      obtain ⟨h1, h2, h3, h4, h5, h7, h9, h10, h11⟩ := hN
      have hnm := h1.1
      obtain ⟨m, hm, em⟩ := q8 d (by omega)
      obtain ⟨l, l1, l2, el⟩ := q9 d (by omega)
      have hd : d < 5 := by omega
      obtain ⟨X1, x1, x2, x3⟩ := st_time (Or.inl rfl) h1 h2 hm 1
      have eh : fX1_holder X = some (nI m) := by
        unfold fX1_holder
        rw [ei, if_neg (nI_nle c (by omega)), ob1_some, if_neg n10, q2, nI_pred, atF_nI hd (by decide), q4 d hd, em]
      have es : fX1_spendTick X1 = some (skX X1 d) := by
        rw [spendX_def, x2 21 (by omega) (by omega), q2, nI_pred, atF_nI hd (by decide), atF_nI hd (by decide), setF_nI hd (by decide), setF_nI hd (by decide)]
        rfl
      have el2 : nI l - 1 = nI (l - 1) := by
        have := nI_pred (l - 1)
        rw [show l - 1 + 1 = l by omega] at this
        exact this
      have x24 : X1 24 = X 24 := x2 24 (by omega) (by omega)
      have x25 : X1 25 = X 25 := x2 25 (by omega) (by omega)
      have el3 : fX1_ticksLeft (skX X1 d) = some (nI (l - 1)) := by
        unfold fX1_ticksLeft
        have w1 : skX X1 d 21 = X1 21 := rfl
        have w2 : skX X1 d 24 = upd (X1 24) d (X1 24 d - 1) := rfl
        rw [w1, w2, x2 21 (by omega) (by omega), q2, nI_pred, atF_nI hd (by decide), upd_s, x24, q6 d hd, el, el2]
      have w11 : tkT M d m 11 d = nI (l - 1) := by
        show upd (M 11) d (M 11 d - 1) d = _
        rw [upd_s, el, el2]
      have xr : ∀ c, c ≠ 8 → c ≠ 10 → c ≠ 24 → c ≠ 25 → skX X1 d c = X c := fun c c1 c2 c3 c4 => by
        unfold skX
        rw [upc_n c4, upc_n c3]
        exact x2 c c1 c2
      have s2 : rSta 5 nm na (skX X1 d) (tkT M d m) := x3 (tkT M d m) rfl rfl rfl rfl rfl rfl rfl
      have s4 : rTim (T + (i + 1)) nm (tkT M d m) := by
        refine ⟨fun j hj => ?_, fun j j1 j2 => ?_⟩
        · obtain ⟨u, hu, eu⟩ := h4.1 j hj
          show ∃ u, u ≤ T + (i + 1) ∧ upd (M 4) m (M 4 m + 1) j = nI u
          by_cases w : j = m
          · subst w
            rw [upd_s, eu, nI_1]
            exact ⟨u + 1, by omega, rfl⟩
          · rw [upd_n w, eu]
            exact ⟨u, by omega, rfl⟩
        · show upd (M 4) m (M 4 m + 1) j = 0
          rw [upd_n (by omega)]
          exact h4.2 j j1 j2
      have sN : RelN (T + (i + 1)) nm na nk nq (skX X1 d) (tkT M d m) := by
        refine ⟨?_, s2, h3, s4, ?_, ?_, ?_, ?_, ?_⟩
        · unfold rRos; rw [xr 1 (by omega) (by omega) (by omega) (by omega), xr 2 (by omega) (by omega) (by omega) (by omega), xr 3 (by omega) (by omega) (by omega) (by omega), xr 4 (by omega) (by omega) (by omega) (by omega)]; exact h1
        · unfold rKey; rw [xr 17 (by omega) (by omega) (by omega) (by omega), xr 18 (by omega) (by omega) (by omega) (by omega)]; exact h5
        · unfold rVot; rw [xr 27 (by omega) (by omega) (by omega) (by omega), xr 28 (by omega) (by omega) (by omega) (by omega)]; exact h7
        · unfold rRig; rw [xr 29 (by omega) (by omega) (by omega) (by omega), xr 33 (by omega) (by omega) (by omega) (by omega), xr 34 (by omega) (by omega) (by omega) (by omega)]; exact h9
        · unfold rShe; rw [xr 36 (by omega) (by omega) (by omega) (by omega), xr 37 (by omega) (by omega) (by omega) (by omega), xr 38 (by omega) (by omega) (by omega) (by omega), xr 39 (by omega) (by omega) (by omega) (by omega), xr 40 (by omega) (by omega) (by omega) (by omega), xr 41 (by omega) (by omega) (by omega) (by omega), xr 42 (by omega) (by omega) (by omega) (by omega), xr 43 (by omega) (by omega) (by omega) (by omega)]; exact h10
        · unfold rFnd; rw [xr 0 (by omega) (by omega) (by omega) (by omega)]; exact h11
      have s8 : rMin (T + i) nr ng (skX X1 d) (tkT M d m) := by
        unfold rMin; rw [xr 29 (by omega) (by omega) (by omega) (by omega), xr 30 (by omega) (by omega) (by omega) (by omega), xr 31 (by omega) (by omega) (by omega) (by omega), xr 32 (by omega) (by omega) (by omega) (by omega)]
        exact h8
      have f24 : ∀ j, j < 5 → skX X1 d 24 j = tkT M d m 11 j := fun j hj => by
        show upd (X1 24) d (X1 24 d - 1) j = upd (M 11) d (M 11 d - 1) j
        rw [x24, q6 d hd]; unfold upd; rw [q6 j hj]
      have f25 : ∀ j, j < 5 → skX X1 d 25 j = tkT M d m 12 j := fun j hj => by
        show upd (X1 25) d (X1 25 d + 1) j = upd (M 12) d (M 12 d + 1) j
        rw [x25, q7 d hd]; unfold upd; rw [q7 j hj]
      have e21 := xr 21 (by omega) (by omega) (by omega) (by omega)
      have e22 := xr 22 (by omega) (by omega) (by omega) (by omega)
      have e23 := xr 23 (by omega) (by omega) (by omega) (by omega)
      have e26 := xr 26 (by omega) (by omega) (by omega) (by omega)
      have sG : rFlG nm d (d + 1) (skX X1 d) (tkT M d m) := by
        refine ⟨by omega, by rw [e21]; exact q2, q3, fun j hj => by rw [e22]; exact q4 j hj, fun j hj => by rw [e23]; exact q5 j hj, f24, f25, fun j hj => q8 j (by omega), fun j hj => ?_, fun s hs => by rw [e26]; exact q10 s hs, q11⟩
        show ∃ l, 1 ≤ l ∧ l ≤ 100 ∧ upd (M 11) d (M 11 d - 1) j = nI l
        rw [upd_n (by omega)]
        exact q9 j (by omega)
      rw [ei, if_neg (nI_nle c (by omega)), if_neg (nI_nle c (by omega)), ob1_some, if_neg n10, eh, ob1_some, x1, ob1_some, es, ob1_some, el3, ob1_some, nI_pred, nI_clamp (show d < 2 ^ 31 by omega), em, nI_clamp (show m < 2 ^ 31 by omega), w11, nI_1]
      simp only [gI_nI hd (show 5 < 2 ^ 31 by decide), gI_nI (show m < 10 by omega) (show 10 < 2 ^ 31 by decide)]
      rcases Nat.eq_zero_or_pos (l - 1) with w | w
      · rw [w, if_pos (show nI 0 = 0 from rfl), if_neg (show ¬ 0 < nI 0 by decide)]
        obtain ⟨X', M', nr', ng', e1, e2, e3, e4, e5⟩ := end_both sN sG hd s8 (by omega)
        rw [e1, e2, ob1_some, ob1_some]
        exact ih (i + 1) n' d nr' ng' X' M' (x + 1) (by omega) (by omega) e3 e4 e5
      · rw [if_neg (nI_ne0 w (by omega)), if_pos (show 0 < nI (l - 1) from nI_lt (a := 0) w (by omega))]
        refine ih (i + 1) n' (d + 1) nr ng _ _ (x + 1) (by omega) (by omega) sN ?_ (rMin_up s8 (by omega))
        obtain ⟨g1, g2, g3, g4, g5, g6, g7, g8, g9, g10, g11⟩ := sG
        refine ⟨by omega, g2, g3, g4, g5, g6, g7, fun j hj => q8 j hj, fun j hj => ?_, g10, g11⟩
        by_cases v : j = d
        · rw [v, w11]; exact ⟨l - 1, by omega, by omega, rfl⟩
        · exact g9 j (by omega)
theorem sim_tick {t : Nat} {X M : Mem} (h : Rel t X M) (ht : t < 512) (a1 : Int32) : ∃ (r : Int32) (X2 M2 : Mem), fX8_tick X a1 = some (r, X2) ∧ fX9_tick M a1 = some (r, M2) ∧ Rel (t + 1) X2 M2 := by
  obtain ⟨nm, na, nk, nf, nr, ng, nq, hN, h6, h8⟩ := Rel_N h
  have hf := fu_gt
  unfold fX8_tick fX9_tick
  rw [isIn_eq]
  rcases isIn_cases a1 1 100 with ⟨e, -⟩ | ⟨e, g1, g2⟩
  · simp only [e, ob1_some, ob2_some', fX8_fin, fX9_fin, ↓reduceIte]
    exact ⟨_, _, _, rfl, rfl, Rel_fnd h⟩
  · obtain ⟨K, k1, k2, rfl⟩ := one_nat (n := 100) (by decide) g1 g2
    obtain ⟨r, X', M', nf', nr', ng', e1, e2, e3, e4, e5⟩ := tick_loop (K := K) (T := 100 * t) k2 (by omega) K 0 fu nf nr ng X M 0 (by omega) (by omega) hN h6 h8
    rw [nI_0] at e1 e2
    simp only [e, ob1_some, n10, ↓reduceIte, e1, e2]
    exact ⟨_, _, _, rfl, rfl, N_Rel e3 e4 e5 (by omega)⟩
