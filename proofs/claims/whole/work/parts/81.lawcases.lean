set_option maxHeartbeats 4000000 in
set_option maxRecDepth 100000 in
theorem lawc_0 {p : Program} {l : Launch} {e : Env} {s : State} {m : MethodId} {below : List Frame} {meth : Method} {c : Code} {g : gG} {adX adM : Nat → Nat} {tk b L : Nat} {xs : Nat → Int32} (C : lawC g adX adM tk b L xs p s m meth c) {t : Nat} (ht : t < 512) {mX mM : Mem} (hR : Rel t mX mM) {i : Int32} (h1 : vp_in (i + 1) L) (h2 : vp_in (i + 2) L) (h3 : vp_in (i + 3) L) (h4 : vp_in (i + 4) L) (h5 : vp_in (i + 5) L)
    (hk : ∀ (mX mM : Mem) (H : Heap) (locs : List Loc) (ls : Array Slot), Rel (t + 1) mX mM → va_P g.1 vwCl (wX g adX mX) H → va_P g.1 vwCl (wM g adM mM) H → va_S (fun q : Nat => s.heap.size ≤ q) s.heap H locs → lv_has ls 4 [(0, .ref b), (1, .ref (adX 0)), (2, .ref (adM 0)), (3, .int i)] → W p l e room_1 s m #[Value.ref b] below meth c H locs 600000 7302250 (lw_Z below #[Value.ref b] s) (F0 m 1220 ls []))
    (H : Heap) (locs : List Loc) (ls : Array Slot) (hPX : va_P g.1 vwCl (wX g adX mX) H) (hPM : va_P g.1 vwCl (wM g adM mM) H) (hS : va_S (fun q : Nat => s.heap.size ≤ q) s.heap H locs) (hl : lv_has ls 4 [(0, .ref b), (1, .ref (adX 0)), (2, .ref (adM 0)), (3, .int i)]) : W p l e room_1 s m #[Value.ref b] below meth c H locs 600000 7302250 (lw_Z below #[Value.ref b] s) (F0 m 184 ls []) := by
  obtain ⟨⟨hx, hb, hml, hown, hts, hr, hlk, -⟩, hX, hbl, -⟩ := id C
  have hbA : ¬ (fun q : Nat => s.heap.size ≤ q) b := Nat.not_le.mpr hbl
  refine lv_aload_n hx hb dL_law_184 rfl (lv_at hl 1 rfl) ?_
  refine lv_aload_n hx hb dL_law_185 rfl (lv_at hl 0 rfl) ?_
  refine lv_iload_n hx hb dL_law_186 rfl (lv_at hl 3 rfl) ?_
  refine lv_iconst (v := 1) hx hb dL_law_187 (by decide) ?_
  refine lv_iadd hx hb dL_law_188 ?_
  refine va_sld hx hb hX hbl hbA hS h1 dL_law_189 ?_
  refine lv_aload_n hx hb dL_law_190 rfl (lv_at hl 0 rfl) ?_
  refine lv_iload_n hx hb dL_law_191 rfl (lv_at hl 3 rfl) ?_
  refine lv_iconst (v := 2) hx hb dL_law_192 (by decide) ?_
  refine lv_iadd hx hb dL_law_193 ?_
  refine va_sld hx hb hX hbl hbA hS h2 dL_law_194 ?_
  obtain ⟨r, mX2, mM2, hFX, hFM, hR2⟩ := sim_member hR ht (xs (i + 1).toNatClampNeg) (xs (i + 2).toNatClampNeg)
  refine law_X C hPX hPM hS pkX8_member (As := [.int (xs (i + 1).toNatClampNeg), .int (xs (i + 2).toNatClampNeg)]) (rest := []) (kX8_member l g adX tk mX (xs (i + 1).toNatClampNeg) (xs (i + 2).toNatClampNeg) r mX2 hFX) mL_L_13 ⟨rfl, rfl, Nat.le_of_ble_eq_true rfl, Nat.le_of_ble_eq_true rfl⟩ rfl hl.1 rfl (Nat.le_of_ble_eq_true rfl) dL_law_195 (fun H locs hPX hPM hS => ?_)
  refine lv_aload_n hx hb dL_law_198 rfl (lv_at hl 2 rfl) ?_
  refine lv_aload_n hx hb dL_law_199 rfl (lv_at hl 0 rfl) ?_
  refine lv_iload_n hx hb dL_law_200 rfl (lv_at hl 3 rfl) ?_
  refine lv_iconst (v := 1) hx hb dL_law_201 (by decide) ?_
  refine lv_iadd hx hb dL_law_202 ?_
  refine va_sld hx hb hX hbl hbA hS h1 dL_law_203 ?_
  refine lv_aload_n hx hb dL_law_204 rfl (lv_at hl 0 rfl) ?_
  refine lv_iload_n hx hb dL_law_205 rfl (lv_at hl 3 rfl) ?_
  refine lv_iconst (v := 2) hx hb dL_law_206 (by decide) ?_
  refine lv_iadd hx hb dL_law_207 ?_
  refine va_sld hx hb hX hbl hbA hS h2 dL_law_208 ?_
  refine law_M C hPX hPM hS pkX9_member (As := [.int (xs (i + 1).toNatClampNeg), .int (xs (i + 2).toNatClampNeg)]) (rest := [.int r]) (kX9_member l g adM mM (xs (i + 1).toNatClampNeg) (xs (i + 2).toNatClampNeg) r mM2 hFM) mL_L_17 ⟨rfl, rfl, Nat.le_of_ble_eq_true rfl, Nat.le_of_ble_eq_true rfl⟩ rfl hl.1 rfl (Nat.le_of_ble_eq_true rfl) dL_law_209 (fun H locs hPX hPM hS => ?_)
  refine lv_icmp_eq (tgt := 1220) hx hb dL_law_212 (by decide) (fun _ => ?_) (fun cc => absurd rfl cc)
  exact hk _ _ _ _ ls hR2 hPX hPM hS hl
set_option maxHeartbeats 4000000 in
set_option maxRecDepth 100000 in
theorem lawc_1 {p : Program} {l : Launch} {e : Env} {s : State} {m : MethodId} {below : List Frame} {meth : Method} {c : Code} {g : gG} {adX adM : Nat → Nat} {tk b L : Nat} {xs : Nat → Int32} (C : lawC g adX adM tk b L xs p s m meth c) {t : Nat} (ht : t < 512) {mX mM : Mem} (hR : Rel t mX mM) {i : Int32} (h1 : vp_in (i + 1) L) (h2 : vp_in (i + 2) L) (h3 : vp_in (i + 3) L) (h4 : vp_in (i + 4) L) (h5 : vp_in (i + 5) L)
    (hk : ∀ (mX mM : Mem) (H : Heap) (locs : List Loc) (ls : Array Slot), Rel (t + 1) mX mM → va_P g.1 vwCl (wX g adX mX) H → va_P g.1 vwCl (wM g adM mM) H → va_S (fun q : Nat => s.heap.size ≤ q) s.heap H locs → lv_has ls 4 [(0, .ref b), (1, .ref (adX 0)), (2, .ref (adM 0)), (3, .int i)] → W p l e room_1 s m #[Value.ref b] below meth c H locs 600000 7302250 (lw_Z below #[Value.ref b] s) (F0 m 1220 ls []))
    (H : Heap) (locs : List Loc) (ls : Array Slot) (hPX : va_P g.1 vwCl (wX g adX mX) H) (hPM : va_P g.1 vwCl (wM g adM mM) H) (hS : va_S (fun q : Nat => s.heap.size ≤ q) s.heap H locs) (hl : lv_has ls 4 [(0, .ref b), (1, .ref (adX 0)), (2, .ref (adM 0)), (3, .int i)]) : W p l e room_1 s m #[Value.ref b] below meth c H locs 600000 7302250 (lw_Z below #[Value.ref b] s) (F0 m 217 ls []) := by
  obtain ⟨⟨hx, hb, hml, hown, hts, hr, hlk, -⟩, hX, hbl, -⟩ := id C
  have hbA : ¬ (fun q : Nat => s.heap.size ≤ q) b := Nat.not_le.mpr hbl
  refine lv_aload_n hx hb dL_law_217 rfl (lv_at hl 1 rfl) ?_
  refine lv_aload_n hx hb dL_law_218 rfl (lv_at hl 0 rfl) ?_
  refine lv_iload_n hx hb dL_law_219 rfl (lv_at hl 3 rfl) ?_
  refine lv_iconst (v := 1) hx hb dL_law_220 (by decide) ?_
  refine lv_iadd hx hb dL_law_221 ?_
  refine va_sld hx hb hX hbl hbA hS h1 dL_law_222 ?_
  refine lv_aload_n hx hb dL_law_223 rfl (lv_at hl 0 rfl) ?_
  refine lv_iload_n hx hb dL_law_224 rfl (lv_at hl 3 rfl) ?_
  refine lv_iconst (v := 2) hx hb dL_law_225 (by decide) ?_
  refine lv_iadd hx hb dL_law_226 ?_
  refine va_sld hx hb hX hbl hbA hS h2 dL_law_227 ?_
  obtain ⟨r, mX2, mM2, hFX, hFM, hR2⟩ := sim_as hR ht (xs (i + 1).toNatClampNeg) (xs (i + 2).toNatClampNeg)
  refine law_X C hPX hPM hS pkX8_as (As := [.int (xs (i + 1).toNatClampNeg), .int (xs (i + 2).toNatClampNeg)]) (rest := []) (kX8_as l g adX tk mX (xs (i + 1).toNatClampNeg) (xs (i + 2).toNatClampNeg) r mX2 hFX) mL_L_18 ⟨rfl, rfl, Nat.le_of_ble_eq_true rfl, Nat.le_of_ble_eq_true rfl⟩ rfl hl.1 rfl (Nat.le_of_ble_eq_true rfl) dL_law_228 (fun H locs hPX hPM hS => ?_)
  refine lv_aload_n hx hb dL_law_231 rfl (lv_at hl 2 rfl) ?_
  refine lv_aload_n hx hb dL_law_232 rfl (lv_at hl 0 rfl) ?_
  refine lv_iload_n hx hb dL_law_233 rfl (lv_at hl 3 rfl) ?_
  refine lv_iconst (v := 1) hx hb dL_law_234 (by decide) ?_
  refine lv_iadd hx hb dL_law_235 ?_
  refine va_sld hx hb hX hbl hbA hS h1 dL_law_236 ?_
  refine lv_aload_n hx hb dL_law_237 rfl (lv_at hl 0 rfl) ?_
  refine lv_iload_n hx hb dL_law_238 rfl (lv_at hl 3 rfl) ?_
  refine lv_iconst (v := 2) hx hb dL_law_239 (by decide) ?_
  refine lv_iadd hx hb dL_law_240 ?_
  refine va_sld hx hb hX hbl hbA hS h2 dL_law_241 ?_
  refine law_M C hPX hPM hS pkX9_as (As := [.int (xs (i + 1).toNatClampNeg), .int (xs (i + 2).toNatClampNeg)]) (rest := [.int r]) (kX9_as l g adM mM (xs (i + 1).toNatClampNeg) (xs (i + 2).toNatClampNeg) r mM2 hFM) mL_L_21 ⟨rfl, rfl, Nat.le_of_ble_eq_true rfl, Nat.le_of_ble_eq_true rfl⟩ rfl hl.1 rfl (Nat.le_of_ble_eq_true rfl) dL_law_242 (fun H locs hPX hPM hS => ?_)
  refine lv_icmp_eq (tgt := 1220) hx hb dL_law_245 (by decide) (fun _ => ?_) (fun cc => absurd rfl cc)
  exact hk _ _ _ _ ls hR2 hPX hPM hS hl
set_option maxHeartbeats 4000000 in
set_option maxRecDepth 100000 in
theorem lawc_2 {p : Program} {l : Launch} {e : Env} {s : State} {m : MethodId} {below : List Frame} {meth : Method} {c : Code} {g : gG} {adX adM : Nat → Nat} {tk b L : Nat} {xs : Nat → Int32} (C : lawC g adX adM tk b L xs p s m meth c) {t : Nat} (ht : t < 512) {mX mM : Mem} (hR : Rel t mX mM) {i : Int32} (h1 : vp_in (i + 1) L) (h2 : vp_in (i + 2) L) (h3 : vp_in (i + 3) L) (h4 : vp_in (i + 4) L) (h5 : vp_in (i + 5) L)
    (hk : ∀ (mX mM : Mem) (H : Heap) (locs : List Loc) (ls : Array Slot), Rel (t + 1) mX mM → va_P g.1 vwCl (wX g adX mX) H → va_P g.1 vwCl (wM g adM mM) H → va_S (fun q : Nat => s.heap.size ≤ q) s.heap H locs → lv_has ls 4 [(0, .ref b), (1, .ref (adX 0)), (2, .ref (adM 0)), (3, .int i)] → W p l e room_1 s m #[Value.ref b] below meth c H locs 600000 7302250 (lw_Z below #[Value.ref b] s) (F0 m 1220 ls []))
    (H : Heap) (locs : List Loc) (ls : Array Slot) (hPX : va_P g.1 vwCl (wX g adX mX) H) (hPM : va_P g.1 vwCl (wM g adM mM) H) (hS : va_S (fun q : Nat => s.heap.size ≤ q) s.heap H locs) (hl : lv_has ls 4 [(0, .ref b), (1, .ref (adX 0)), (2, .ref (adM 0)), (3, .int i)]) : W p l e room_1 s m #[Value.ref b] below meth c H locs 600000 7302250 (lw_Z below #[Value.ref b] s) (F0 m 250 ls []) := by
  obtain ⟨⟨hx, hb, hml, hown, hts, hr, hlk, -⟩, hX, hbl, -⟩ := id C
  have hbA : ¬ (fun q : Nat => s.heap.size ≤ q) b := Nat.not_le.mpr hbl
  refine lv_aload_n hx hb dL_law_250 rfl (lv_at hl 1 rfl) ?_
  refine lv_aload_n hx hb dL_law_251 rfl (lv_at hl 0 rfl) ?_
  refine lv_iload_n hx hb dL_law_252 rfl (lv_at hl 3 rfl) ?_
  refine lv_iconst (v := 1) hx hb dL_law_253 (by decide) ?_
  refine lv_iadd hx hb dL_law_254 ?_
  refine va_sld hx hb hX hbl hbA hS h1 dL_law_255 ?_
  refine lv_aload_n hx hb dL_law_256 rfl (lv_at hl 0 rfl) ?_
  refine lv_iload_n hx hb dL_law_257 rfl (lv_at hl 3 rfl) ?_
  refine lv_iconst (v := 2) hx hb dL_law_258 (by decide) ?_
  refine lv_iadd hx hb dL_law_259 ?_
  refine va_sld hx hb hX hbl hbA hS h2 dL_law_260 ?_
  refine lv_if_eq (tgt := 268) hx hb dL_law_261 (by decide) (fun cz => ?_) (fun cz => ?_)
  · refine lv_iconst (v := 0) hx hb dL_law_268 (by decide) ?_
    obtain ⟨r, mX2, mM2, hFX, hFM, hR2⟩ := sim_present hR ht (xs (i + 1).toNatClampNeg) 0
    refine law_X C hPX hPM hS pkX8_present (As := [.int (xs (i + 1).toNatClampNeg), .int 0]) (rest := []) (kX8_present l g adX tk mX (xs (i + 1).toNatClampNeg) 0 r mX2 hFX) mL_L_22 ⟨rfl, rfl, Nat.le_of_ble_eq_true rfl, Nat.le_of_ble_eq_true rfl⟩ rfl hl.1 rfl (Nat.le_of_ble_eq_true rfl) dL_law_269 (fun H locs hPX hPM hS => ?_)
    refine lv_aload_n hx hb dL_law_272 rfl (lv_at hl 2 rfl) ?_
    refine lv_aload_n hx hb dL_law_273 rfl (lv_at hl 0 rfl) ?_
    refine lv_iload_n hx hb dL_law_274 rfl (lv_at hl 3 rfl) ?_
    refine lv_iconst (v := 1) hx hb dL_law_275 (by decide) ?_
    refine lv_iadd hx hb dL_law_276 ?_
    refine va_sld hx hb hX hbl hbA hS h1 dL_law_277 ?_
    refine lv_aload_n hx hb dL_law_278 rfl (lv_at hl 0 rfl) ?_
    refine lv_iload_n hx hb dL_law_279 rfl (lv_at hl 3 rfl) ?_
    refine lv_iconst (v := 2) hx hb dL_law_280 (by decide) ?_
    refine lv_iadd hx hb dL_law_281 ?_
    refine va_sld hx hb hX hbl hbA hS h2 dL_law_282 ?_
    refine lv_if_eq (tgt := 290) hx hb dL_law_283 (by decide) (fun _ => ?_) (fun cc => absurd cz cc)
    refine lv_iconst (v := 0) hx hb dL_law_290 (by decide) ?_
    refine law_M C hPX hPM hS pkX9_present (As := [.int (xs (i + 1).toNatClampNeg), .int 0]) (rest := [.int r]) (kX9_present l g adM mM (xs (i + 1).toNatClampNeg) 0 r mM2 hFM) mL_L_26 ⟨rfl, rfl, Nat.le_of_ble_eq_true rfl, Nat.le_of_ble_eq_true rfl⟩ rfl hl.1 rfl (Nat.le_of_ble_eq_true rfl) dL_law_291 (fun H locs hPX hPM hS => ?_)
    refine lv_icmp_eq (tgt := 1220) hx hb dL_law_294 (by decide) (fun _ => ?_) (fun cc => absurd rfl cc)
    exact hk _ _ _ _ ls hR2 hPX hPM hS hl
  · refine lv_iconst (v := 1) hx hb dL_law_264 (by decide) ?_
    refine lv_goto (tgt := 269) hx hb dL_law_265 (by decide) ?_
    obtain ⟨r, mX2, mM2, hFX, hFM, hR2⟩ := sim_present hR ht (xs (i + 1).toNatClampNeg) 1
    refine law_X C hPX hPM hS pkX8_present (As := [.int (xs (i + 1).toNatClampNeg), .int 1]) (rest := []) (kX8_present l g adX tk mX (xs (i + 1).toNatClampNeg) 1 r mX2 hFX) mL_L_22 ⟨rfl, rfl, Nat.le_of_ble_eq_true rfl, Nat.le_of_ble_eq_true rfl⟩ rfl hl.1 rfl (Nat.le_of_ble_eq_true rfl) dL_law_269 (fun H locs hPX hPM hS => ?_)
    refine lv_aload_n hx hb dL_law_272 rfl (lv_at hl 2 rfl) ?_
    refine lv_aload_n hx hb dL_law_273 rfl (lv_at hl 0 rfl) ?_
    refine lv_iload_n hx hb dL_law_274 rfl (lv_at hl 3 rfl) ?_
    refine lv_iconst (v := 1) hx hb dL_law_275 (by decide) ?_
    refine lv_iadd hx hb dL_law_276 ?_
    refine va_sld hx hb hX hbl hbA hS h1 dL_law_277 ?_
    refine lv_aload_n hx hb dL_law_278 rfl (lv_at hl 0 rfl) ?_
    refine lv_iload_n hx hb dL_law_279 rfl (lv_at hl 3 rfl) ?_
    refine lv_iconst (v := 2) hx hb dL_law_280 (by decide) ?_
    refine lv_iadd hx hb dL_law_281 ?_
    refine va_sld hx hb hX hbl hbA hS h2 dL_law_282 ?_
    refine lv_if_eq (tgt := 290) hx hb dL_law_283 (by decide) (fun cc => absurd cc cz) (fun _ => ?_)
    refine lv_iconst (v := 1) hx hb dL_law_286 (by decide) ?_
    refine lv_goto (tgt := 291) hx hb dL_law_287 (by decide) ?_
    refine law_M C hPX hPM hS pkX9_present (As := [.int (xs (i + 1).toNatClampNeg), .int 1]) (rest := [.int r]) (kX9_present l g adM mM (xs (i + 1).toNatClampNeg) 1 r mM2 hFM) mL_L_26 ⟨rfl, rfl, Nat.le_of_ble_eq_true rfl, Nat.le_of_ble_eq_true rfl⟩ rfl hl.1 rfl (Nat.le_of_ble_eq_true rfl) dL_law_291 (fun H locs hPX hPM hS => ?_)
    refine lv_icmp_eq (tgt := 1220) hx hb dL_law_294 (by decide) (fun _ => ?_) (fun cc => absurd rfl cc)
    exact hk _ _ _ _ ls hR2 hPX hPM hS hl
set_option maxHeartbeats 4000000 in
set_option maxRecDepth 100000 in
theorem lawc_3 {p : Program} {l : Launch} {e : Env} {s : State} {m : MethodId} {below : List Frame} {meth : Method} {c : Code} {g : gG} {adX adM : Nat → Nat} {tk b L : Nat} {xs : Nat → Int32} (C : lawC g adX adM tk b L xs p s m meth c) {t : Nat} (ht : t < 512) {mX mM : Mem} (hR : Rel t mX mM) {i : Int32} (h1 : vp_in (i + 1) L) (h2 : vp_in (i + 2) L) (h3 : vp_in (i + 3) L) (h4 : vp_in (i + 4) L) (h5 : vp_in (i + 5) L)
    (hk : ∀ (mX mM : Mem) (H : Heap) (locs : List Loc) (ls : Array Slot), Rel (t + 1) mX mM → va_P g.1 vwCl (wX g adX mX) H → va_P g.1 vwCl (wM g adM mM) H → va_S (fun q : Nat => s.heap.size ≤ q) s.heap H locs → lv_has ls 4 [(0, .ref b), (1, .ref (adX 0)), (2, .ref (adM 0)), (3, .int i)] → W p l e room_1 s m #[Value.ref b] below meth c H locs 600000 7302250 (lw_Z below #[Value.ref b] s) (F0 m 1220 ls []))
    (H : Heap) (locs : List Loc) (ls : Array Slot) (hPX : va_P g.1 vwCl (wX g adX mX) H) (hPM : va_P g.1 vwCl (wM g adM mM) H) (hS : va_S (fun q : Nat => s.heap.size ≤ q) s.heap H locs) (hl : lv_has ls 4 [(0, .ref b), (1, .ref (adX 0)), (2, .ref (adM 0)), (3, .int i)]) : W p l e room_1 s m #[Value.ref b] below meth c H locs 600000 7302250 (lw_Z below #[Value.ref b] s) (F0 m 299 ls []) := by
  obtain ⟨⟨hx, hb, hml, hown, hts, hr, hlk, -⟩, hX, hbl, -⟩ := id C
  have hbA : ¬ (fun q : Nat => s.heap.size ≤ q) b := Nat.not_le.mpr hbl
  refine lv_aload_n hx hb dL_law_299 rfl (lv_at hl 1 rfl) ?_
  refine lv_aload_n hx hb dL_law_300 rfl (lv_at hl 0 rfl) ?_
  refine lv_iload_n hx hb dL_law_301 rfl (lv_at hl 3 rfl) ?_
  refine lv_iconst (v := 1) hx hb dL_law_302 (by decide) ?_
  refine lv_iadd hx hb dL_law_303 ?_
  refine va_sld hx hb hX hbl hbA hS h1 dL_law_304 ?_
  refine lv_aload_n hx hb dL_law_305 rfl (lv_at hl 0 rfl) ?_
  refine lv_iload_n hx hb dL_law_306 rfl (lv_at hl 3 rfl) ?_
  refine lv_iconst (v := 2) hx hb dL_law_307 (by decide) ?_
  refine lv_iadd hx hb dL_law_308 ?_
  refine va_sld hx hb hX hbl hbA hS h2 dL_law_309 ?_
  obtain ⟨r, mX2, mM2, hFX, hFM, hR2⟩ := sim_of hR ht (xs (i + 1).toNatClampNeg) (xs (i + 2).toNatClampNeg)
  refine law_X C hPX hPM hS pkX8_of (As := [.int (xs (i + 1).toNatClampNeg), .int (xs (i + 2).toNatClampNeg)]) (rest := []) (kX8_of l g adX tk mX (xs (i + 1).toNatClampNeg) (xs (i + 2).toNatClampNeg) r mX2 hFX) mL_L_27 ⟨rfl, rfl, Nat.le_of_ble_eq_true rfl, Nat.le_of_ble_eq_true rfl⟩ rfl hl.1 rfl (Nat.le_of_ble_eq_true rfl) dL_law_310 (fun H locs hPX hPM hS => ?_)
  refine lv_aload_n hx hb dL_law_313 rfl (lv_at hl 2 rfl) ?_
  refine lv_aload_n hx hb dL_law_314 rfl (lv_at hl 0 rfl) ?_
  refine lv_iload_n hx hb dL_law_315 rfl (lv_at hl 3 rfl) ?_
  refine lv_iconst (v := 1) hx hb dL_law_316 (by decide) ?_
  refine lv_iadd hx hb dL_law_317 ?_
  refine va_sld hx hb hX hbl hbA hS h1 dL_law_318 ?_
  refine lv_aload_n hx hb dL_law_319 rfl (lv_at hl 0 rfl) ?_
  refine lv_iload_n hx hb dL_law_320 rfl (lv_at hl 3 rfl) ?_
  refine lv_iconst (v := 2) hx hb dL_law_321 (by decide) ?_
  refine lv_iadd hx hb dL_law_322 ?_
  refine va_sld hx hb hX hbl hbA hS h2 dL_law_323 ?_
  refine law_M C hPX hPM hS pkX9_of (As := [.int (xs (i + 1).toNatClampNeg), .int (xs (i + 2).toNatClampNeg)]) (rest := [.int r]) (kX9_of l g adM mM (xs (i + 1).toNatClampNeg) (xs (i + 2).toNatClampNeg) r mM2 hFM) mL_L_30 ⟨rfl, rfl, Nat.le_of_ble_eq_true rfl, Nat.le_of_ble_eq_true rfl⟩ rfl hl.1 rfl (Nat.le_of_ble_eq_true rfl) dL_law_324 (fun H locs hPX hPM hS => ?_)
  refine lv_icmp_eq (tgt := 1220) hx hb dL_law_327 (by decide) (fun _ => ?_) (fun cc => absurd rfl cc)
  exact hk _ _ _ _ ls hR2 hPX hPM hS hl
set_option maxHeartbeats 4000000 in
set_option maxRecDepth 100000 in
theorem lawc_4 {p : Program} {l : Launch} {e : Env} {s : State} {m : MethodId} {below : List Frame} {meth : Method} {c : Code} {g : gG} {adX adM : Nat → Nat} {tk b L : Nat} {xs : Nat → Int32} (C : lawC g adX adM tk b L xs p s m meth c) {t : Nat} (ht : t < 512) {mX mM : Mem} (hR : Rel t mX mM) {i : Int32} (h1 : vp_in (i + 1) L) (h2 : vp_in (i + 2) L) (h3 : vp_in (i + 3) L) (h4 : vp_in (i + 4) L) (h5 : vp_in (i + 5) L)
    (hk : ∀ (mX mM : Mem) (H : Heap) (locs : List Loc) (ls : Array Slot), Rel (t + 1) mX mM → va_P g.1 vwCl (wX g adX mX) H → va_P g.1 vwCl (wM g adM mM) H → va_S (fun q : Nat => s.heap.size ≤ q) s.heap H locs → lv_has ls 4 [(0, .ref b), (1, .ref (adX 0)), (2, .ref (adM 0)), (3, .int i)] → W p l e room_1 s m #[Value.ref b] below meth c H locs 600000 7302250 (lw_Z below #[Value.ref b] s) (F0 m 1220 ls []))
    (H : Heap) (locs : List Loc) (ls : Array Slot) (hPX : va_P g.1 vwCl (wX g adX mX) H) (hPM : va_P g.1 vwCl (wM g adM mM) H) (hS : va_S (fun q : Nat => s.heap.size ≤ q) s.heap H locs) (hl : lv_has ls 4 [(0, .ref b), (1, .ref (adX 0)), (2, .ref (adM 0)), (3, .int i)]) : W p l e room_1 s m #[Value.ref b] below meth c H locs 600000 7302250 (lw_Z below #[Value.ref b] s) (F0 m 332 ls []) := by
  obtain ⟨⟨hx, hb, hml, hown, hts, hr, hlk, -⟩, hX, hbl, -⟩ := id C
  have hbA : ¬ (fun q : Nat => s.heap.size ≤ q) b := Nat.not_le.mpr hbl
  refine lv_aload_n hx hb dL_law_332 rfl (lv_at hl 1 rfl) ?_
  refine lv_aload_n hx hb dL_law_333 rfl (lv_at hl 0 rfl) ?_
  refine lv_iload_n hx hb dL_law_334 rfl (lv_at hl 3 rfl) ?_
  refine lv_iconst (v := 1) hx hb dL_law_335 (by decide) ?_
  refine lv_iadd hx hb dL_law_336 ?_
  refine va_sld hx hb hX hbl hbA hS h1 dL_law_337 ?_
  obtain ⟨r, mX2, mM2, hFX, hFM, hR2⟩ := sim_time hR ht (xs (i + 1).toNatClampNeg)
  refine law_X C hPX hPM hS pkX8_time (As := [.int (xs (i + 1).toNatClampNeg)]) (rest := []) (kX8_time l g adX tk mX (xs (i + 1).toNatClampNeg) r mX2 hFX) mL_L_31 ⟨rfl, rfl, Nat.le_of_ble_eq_true rfl, Nat.le_of_ble_eq_true rfl⟩ rfl hl.1 rfl (Nat.le_of_ble_eq_true rfl) dL_law_338 (fun H locs hPX hPM hS => ?_)
  refine lv_aload_n hx hb dL_law_341 rfl (lv_at hl 2 rfl) ?_
  refine lv_aload_n hx hb dL_law_342 rfl (lv_at hl 0 rfl) ?_
  refine lv_iload_n hx hb dL_law_343 rfl (lv_at hl 3 rfl) ?_
  refine lv_iconst (v := 1) hx hb dL_law_344 (by decide) ?_
  refine lv_iadd hx hb dL_law_345 ?_
  refine va_sld hx hb hX hbl hbA hS h1 dL_law_346 ?_
  refine law_M C hPX hPM hS pkX9_time (As := [.int (xs (i + 1).toNatClampNeg)]) (rest := [.int r]) (kX9_time l g adM mM (xs (i + 1).toNatClampNeg) r mM2 hFM) mL_L_35 ⟨rfl, rfl, Nat.le_of_ble_eq_true rfl, Nat.le_of_ble_eq_true rfl⟩ rfl hl.1 rfl (Nat.le_of_ble_eq_true rfl) dL_law_347 (fun H locs hPX hPM hS => ?_)
  refine lv_icmp_eq (tgt := 1220) hx hb dL_law_350 (by decide) (fun _ => ?_) (fun cc => absurd rfl cc)
  exact hk _ _ _ _ ls hR2 hPX hPM hS hl
set_option maxHeartbeats 4000000 in
set_option maxRecDepth 100000 in
theorem lawc_5 {p : Program} {l : Launch} {e : Env} {s : State} {m : MethodId} {below : List Frame} {meth : Method} {c : Code} {g : gG} {adX adM : Nat → Nat} {tk b L : Nat} {xs : Nat → Int32} (C : lawC g adX adM tk b L xs p s m meth c) {t : Nat} (ht : t < 512) {mX mM : Mem} (hR : Rel t mX mM) {i : Int32} (h1 : vp_in (i + 1) L) (h2 : vp_in (i + 2) L) (h3 : vp_in (i + 3) L) (h4 : vp_in (i + 4) L) (h5 : vp_in (i + 5) L)
    (hk : ∀ (mX mM : Mem) (H : Heap) (locs : List Loc) (ls : Array Slot), Rel (t + 1) mX mM → va_P g.1 vwCl (wX g adX mX) H → va_P g.1 vwCl (wM g adM mM) H → va_S (fun q : Nat => s.heap.size ≤ q) s.heap H locs → lv_has ls 4 [(0, .ref b), (1, .ref (adX 0)), (2, .ref (adM 0)), (3, .int i)] → W p l e room_1 s m #[Value.ref b] below meth c H locs 600000 7302250 (lw_Z below #[Value.ref b] s) (F0 m 1220 ls []))
    (H : Heap) (locs : List Loc) (ls : Array Slot) (hPX : va_P g.1 vwCl (wX g adX mX) H) (hPM : va_P g.1 vwCl (wM g adM mM) H) (hS : va_S (fun q : Nat => s.heap.size ≤ q) s.heap H locs) (hl : lv_has ls 4 [(0, .ref b), (1, .ref (adX 0)), (2, .ref (adM 0)), (3, .int i)]) : W p l e room_1 s m #[Value.ref b] below meth c H locs 600000 7302250 (lw_Z below #[Value.ref b] s) (F0 m 355 ls []) := by
  obtain ⟨⟨hx, hb, hml, hown, hts, hr, hlk, -⟩, hX, hbl, -⟩ := id C
  have hbA : ¬ (fun q : Nat => s.heap.size ≤ q) b := Nat.not_le.mpr hbl
  refine lv_aload_n hx hb dL_law_355 rfl (lv_at hl 1 rfl) ?_
  refine lv_aload_n hx hb dL_law_356 rfl (lv_at hl 0 rfl) ?_
  refine lv_iload_n hx hb dL_law_357 rfl (lv_at hl 3 rfl) ?_
  refine lv_iconst (v := 1) hx hb dL_law_358 (by decide) ?_
  refine lv_iadd hx hb dL_law_359 ?_
  refine va_sld hx hb hX hbl hbA hS h1 dL_law_360 ?_
  refine lv_aload_n hx hb dL_law_361 rfl (lv_at hl 0 rfl) ?_
  refine lv_iload_n hx hb dL_law_362 rfl (lv_at hl 3 rfl) ?_
  refine lv_iconst (v := 2) hx hb dL_law_363 (by decide) ?_
  refine lv_iadd hx hb dL_law_364 ?_
  refine va_sld hx hb hX hbl hbA hS h2 dL_law_365 ?_
  obtain ⟨r, mX2, mM2, hFX, hFM, hR2⟩ := sim_ask hR ht (xs (i + 1).toNatClampNeg) (xs (i + 2).toNatClampNeg)
  refine law_X C hPX hPM hS pkX8_ask (As := [.int (xs (i + 1).toNatClampNeg), .int (xs (i + 2).toNatClampNeg)]) (rest := []) (kX8_ask l g adX tk mX (xs (i + 1).toNatClampNeg) (xs (i + 2).toNatClampNeg) r mX2 hFX) mL_L_36 ⟨rfl, rfl, Nat.le_of_ble_eq_true rfl, Nat.le_of_ble_eq_true rfl⟩ rfl hl.1 rfl (Nat.le_of_ble_eq_true rfl) dL_law_366 (fun H locs hPX hPM hS => ?_)
  refine lv_aload_n hx hb dL_law_369 rfl (lv_at hl 2 rfl) ?_
  refine lv_aload_n hx hb dL_law_370 rfl (lv_at hl 0 rfl) ?_
  refine lv_iload_n hx hb dL_law_371 rfl (lv_at hl 3 rfl) ?_
  refine lv_iconst (v := 1) hx hb dL_law_372 (by decide) ?_
  refine lv_iadd hx hb dL_law_373 ?_
  refine va_sld hx hb hX hbl hbA hS h1 dL_law_374 ?_
  refine lv_aload_n hx hb dL_law_375 rfl (lv_at hl 0 rfl) ?_
  refine lv_iload_n hx hb dL_law_376 rfl (lv_at hl 3 rfl) ?_
  refine lv_iconst (v := 2) hx hb dL_law_377 (by decide) ?_
  refine lv_iadd hx hb dL_law_378 ?_
  refine va_sld hx hb hX hbl hbA hS h2 dL_law_379 ?_
  refine law_M C hPX hPM hS pkX9_ask (As := [.int (xs (i + 1).toNatClampNeg), .int (xs (i + 2).toNatClampNeg)]) (rest := [.int r]) (kX9_ask l g adM mM (xs (i + 1).toNatClampNeg) (xs (i + 2).toNatClampNeg) r mM2 hFM) mL_L_39 ⟨rfl, rfl, Nat.le_of_ble_eq_true rfl, Nat.le_of_ble_eq_true rfl⟩ rfl hl.1 rfl (Nat.le_of_ble_eq_true rfl) dL_law_380 (fun H locs hPX hPM hS => ?_)
  refine lv_icmp_eq (tgt := 1220) hx hb dL_law_383 (by decide) (fun _ => ?_) (fun cc => absurd rfl cc)
  exact hk _ _ _ _ ls hR2 hPX hPM hS hl
set_option maxHeartbeats 4000000 in
set_option maxRecDepth 100000 in
theorem lawc_6 {p : Program} {l : Launch} {e : Env} {s : State} {m : MethodId} {below : List Frame} {meth : Method} {c : Code} {g : gG} {adX adM : Nat → Nat} {tk b L : Nat} {xs : Nat → Int32} (C : lawC g adX adM tk b L xs p s m meth c) {t : Nat} (ht : t < 512) {mX mM : Mem} (hR : Rel t mX mM) {i : Int32} (h1 : vp_in (i + 1) L) (h2 : vp_in (i + 2) L) (h3 : vp_in (i + 3) L) (h4 : vp_in (i + 4) L) (h5 : vp_in (i + 5) L)
    (hk : ∀ (mX mM : Mem) (H : Heap) (locs : List Loc) (ls : Array Slot), Rel (t + 1) mX mM → va_P g.1 vwCl (wX g adX mX) H → va_P g.1 vwCl (wM g adM mM) H → va_S (fun q : Nat => s.heap.size ≤ q) s.heap H locs → lv_has ls 4 [(0, .ref b), (1, .ref (adX 0)), (2, .ref (adM 0)), (3, .int i)] → W p l e room_1 s m #[Value.ref b] below meth c H locs 600000 7302250 (lw_Z below #[Value.ref b] s) (F0 m 1220 ls []))
    (H : Heap) (locs : List Loc) (ls : Array Slot) (hPX : va_P g.1 vwCl (wX g adX mX) H) (hPM : va_P g.1 vwCl (wM g adM mM) H) (hS : va_S (fun q : Nat => s.heap.size ≤ q) s.heap H locs) (hl : lv_has ls 4 [(0, .ref b), (1, .ref (adX 0)), (2, .ref (adM 0)), (3, .int i)]) : W p l e room_1 s m #[Value.ref b] below meth c H locs 600000 7302250 (lw_Z below #[Value.ref b] s) (F0 m 388 ls []) := by
  obtain ⟨⟨hx, hb, hml, hown, hts, hr, hlk, -⟩, hX, hbl, -⟩ := id C
  have hbA : ¬ (fun q : Nat => s.heap.size ≤ q) b := Nat.not_le.mpr hbl
  refine lv_aload_n hx hb dL_law_388 rfl (lv_at hl 1 rfl) ?_
  refine lv_aload_n hx hb dL_law_389 rfl (lv_at hl 0 rfl) ?_
  refine lv_iload_n hx hb dL_law_390 rfl (lv_at hl 3 rfl) ?_
  refine lv_iconst (v := 1) hx hb dL_law_391 (by decide) ?_
  refine lv_iadd hx hb dL_law_392 ?_
  refine va_sld hx hb hX hbl hbA hS h1 dL_law_393 ?_
  refine lv_aload_n hx hb dL_law_394 rfl (lv_at hl 0 rfl) ?_
  refine lv_iload_n hx hb dL_law_395 rfl (lv_at hl 3 rfl) ?_
  refine lv_iconst (v := 2) hx hb dL_law_396 (by decide) ?_
  refine lv_iadd hx hb dL_law_397 ?_
  refine va_sld hx hb hX hbl hbA hS h2 dL_law_398 ?_
  obtain ⟨r, mX2, mM2, hFX, hFM, hR2⟩ := sim_withdraw hR ht (xs (i + 1).toNatClampNeg) (xs (i + 2).toNatClampNeg)
  refine law_X C hPX hPM hS pkX8_withdraw (As := [.int (xs (i + 1).toNatClampNeg), .int (xs (i + 2).toNatClampNeg)]) (rest := []) (kX8_withdraw l g adX tk mX (xs (i + 1).toNatClampNeg) (xs (i + 2).toNatClampNeg) r mX2 hFX) mL_L_40 ⟨rfl, rfl, Nat.le_of_ble_eq_true rfl, Nat.le_of_ble_eq_true rfl⟩ rfl hl.1 rfl (Nat.le_of_ble_eq_true rfl) dL_law_399 (fun H locs hPX hPM hS => ?_)
  refine lv_aload_n hx hb dL_law_402 rfl (lv_at hl 2 rfl) ?_
  refine lv_aload_n hx hb dL_law_403 rfl (lv_at hl 0 rfl) ?_
  refine lv_iload_n hx hb dL_law_404 rfl (lv_at hl 3 rfl) ?_
  refine lv_iconst (v := 1) hx hb dL_law_405 (by decide) ?_
  refine lv_iadd hx hb dL_law_406 ?_
  refine va_sld hx hb hX hbl hbA hS h1 dL_law_407 ?_
  refine lv_aload_n hx hb dL_law_408 rfl (lv_at hl 0 rfl) ?_
  refine lv_iload_n hx hb dL_law_409 rfl (lv_at hl 3 rfl) ?_
  refine lv_iconst (v := 2) hx hb dL_law_410 (by decide) ?_
  refine lv_iadd hx hb dL_law_411 ?_
  refine va_sld hx hb hX hbl hbA hS h2 dL_law_412 ?_
  refine law_M C hPX hPM hS pkX9_withdraw (As := [.int (xs (i + 1).toNatClampNeg), .int (xs (i + 2).toNatClampNeg)]) (rest := [.int r]) (kX9_withdraw l g adM mM (xs (i + 1).toNatClampNeg) (xs (i + 2).toNatClampNeg) r mM2 hFM) mL_L_43 ⟨rfl, rfl, Nat.le_of_ble_eq_true rfl, Nat.le_of_ble_eq_true rfl⟩ rfl hl.1 rfl (Nat.le_of_ble_eq_true rfl) dL_law_413 (fun H locs hPX hPM hS => ?_)
  refine lv_icmp_eq (tgt := 1220) hx hb dL_law_416 (by decide) (fun _ => ?_) (fun cc => absurd rfl cc)
  exact hk _ _ _ _ ls hR2 hPX hPM hS hl
set_option maxHeartbeats 4000000 in
set_option maxRecDepth 100000 in
theorem lawc_7 {p : Program} {l : Launch} {e : Env} {s : State} {m : MethodId} {below : List Frame} {meth : Method} {c : Code} {g : gG} {adX adM : Nat → Nat} {tk b L : Nat} {xs : Nat → Int32} (C : lawC g adX adM tk b L xs p s m meth c) {t : Nat} (ht : t < 512) {mX mM : Mem} (hR : Rel t mX mM) {i : Int32} (h1 : vp_in (i + 1) L) (h2 : vp_in (i + 2) L) (h3 : vp_in (i + 3) L) (h4 : vp_in (i + 4) L) (h5 : vp_in (i + 5) L)
    (hk : ∀ (mX mM : Mem) (H : Heap) (locs : List Loc) (ls : Array Slot), Rel (t + 1) mX mM → va_P g.1 vwCl (wX g adX mX) H → va_P g.1 vwCl (wM g adM mM) H → va_S (fun q : Nat => s.heap.size ≤ q) s.heap H locs → lv_has ls 4 [(0, .ref b), (1, .ref (adX 0)), (2, .ref (adM 0)), (3, .int i)] → W p l e room_1 s m #[Value.ref b] below meth c H locs 600000 7302250 (lw_Z below #[Value.ref b] s) (F0 m 1220 ls []))
    (H : Heap) (locs : List Loc) (ls : Array Slot) (hPX : va_P g.1 vwCl (wX g adX mX) H) (hPM : va_P g.1 vwCl (wM g adM mM) H) (hS : va_S (fun q : Nat => s.heap.size ≤ q) s.heap H locs) (hl : lv_has ls 4 [(0, .ref b), (1, .ref (adX 0)), (2, .ref (adM 0)), (3, .int i)]) : W p l e room_1 s m #[Value.ref b] below meth c H locs 600000 7302250 (lw_Z below #[Value.ref b] s) (F0 m 421 ls []) := by
  obtain ⟨⟨hx, hb, hml, hown, hts, hr, hlk, -⟩, hX, hbl, -⟩ := id C
  have hbA : ¬ (fun q : Nat => s.heap.size ≤ q) b := Nat.not_le.mpr hbl
  refine lv_aload_n hx hb dL_law_421 rfl (lv_at hl 1 rfl) ?_
  refine lv_aload_n hx hb dL_law_422 rfl (lv_at hl 0 rfl) ?_
  refine lv_iload_n hx hb dL_law_423 rfl (lv_at hl 3 rfl) ?_
  refine lv_iconst (v := 1) hx hb dL_law_424 (by decide) ?_
  refine lv_iadd hx hb dL_law_425 ?_
  refine va_sld hx hb hX hbl hbA hS h1 dL_law_426 ?_
  obtain ⟨r, mX2, mM2, hFX, hFM, hR2⟩ := sim_key hR ht (xs (i + 1).toNatClampNeg)
  refine law_X C hPX hPM hS pkX8_key (As := [.int (xs (i + 1).toNatClampNeg)]) (rest := []) (kX8_key l g adX tk mX (xs (i + 1).toNatClampNeg) r mX2 hFX) mL_L_44 ⟨rfl, rfl, Nat.le_of_ble_eq_true rfl, Nat.le_of_ble_eq_true rfl⟩ rfl hl.1 rfl (Nat.le_of_ble_eq_true rfl) dL_law_427 (fun H locs hPX hPM hS => ?_)
  refine lv_aload_n hx hb dL_law_430 rfl (lv_at hl 2 rfl) ?_
  refine lv_aload_n hx hb dL_law_431 rfl (lv_at hl 0 rfl) ?_
  refine lv_iload_n hx hb dL_law_432 rfl (lv_at hl 3 rfl) ?_
  refine lv_iconst (v := 1) hx hb dL_law_433 (by decide) ?_
  refine lv_iadd hx hb dL_law_434 ?_
  refine va_sld hx hb hX hbl hbA hS h1 dL_law_435 ?_
  refine law_M C hPX hPM hS pkX9_key (As := [.int (xs (i + 1).toNatClampNeg)]) (rest := [.int r]) (kX9_key l g adM mM (xs (i + 1).toNatClampNeg) r mM2 hFM) mL_L_47 ⟨rfl, rfl, Nat.le_of_ble_eq_true rfl, Nat.le_of_ble_eq_true rfl⟩ rfl hl.1 rfl (Nat.le_of_ble_eq_true rfl) dL_law_436 (fun H locs hPX hPM hS => ?_)
  refine lv_icmp_eq (tgt := 1220) hx hb dL_law_439 (by decide) (fun _ => ?_) (fun cc => absurd rfl cc)
  exact hk _ _ _ _ ls hR2 hPX hPM hS hl
set_option maxHeartbeats 4000000 in
set_option maxRecDepth 100000 in
theorem lawc_8 {p : Program} {l : Launch} {e : Env} {s : State} {m : MethodId} {below : List Frame} {meth : Method} {c : Code} {g : gG} {adX adM : Nat → Nat} {tk b L : Nat} {xs : Nat → Int32} (C : lawC g adX adM tk b L xs p s m meth c) {t : Nat} (ht : t < 512) {mX mM : Mem} (hR : Rel t mX mM) {i : Int32} (h1 : vp_in (i + 1) L) (h2 : vp_in (i + 2) L) (h3 : vp_in (i + 3) L) (h4 : vp_in (i + 4) L) (h5 : vp_in (i + 5) L)
    (hk : ∀ (mX mM : Mem) (H : Heap) (locs : List Loc) (ls : Array Slot), Rel (t + 1) mX mM → va_P g.1 vwCl (wX g adX mX) H → va_P g.1 vwCl (wM g adM mM) H → va_S (fun q : Nat => s.heap.size ≤ q) s.heap H locs → lv_has ls 4 [(0, .ref b), (1, .ref (adX 0)), (2, .ref (adM 0)), (3, .int i)] → W p l e room_1 s m #[Value.ref b] below meth c H locs 600000 7302250 (lw_Z below #[Value.ref b] s) (F0 m 1220 ls []))
    (H : Heap) (locs : List Loc) (ls : Array Slot) (hPX : va_P g.1 vwCl (wX g adX mX) H) (hPM : va_P g.1 vwCl (wM g adM mM) H) (hS : va_S (fun q : Nat => s.heap.size ≤ q) s.heap H locs) (hl : lv_has ls 4 [(0, .ref b), (1, .ref (adX 0)), (2, .ref (adM 0)), (3, .int i)]) : W p l e room_1 s m #[Value.ref b] below meth c H locs 600000 7302250 (lw_Z below #[Value.ref b] s) (F0 m 444 ls []) := by
  obtain ⟨⟨hx, hb, hml, hown, hts, hr, hlk, -⟩, hX, hbl, -⟩ := id C
  have hbA : ¬ (fun q : Nat => s.heap.size ≤ q) b := Nat.not_le.mpr hbl
  refine lv_aload_n hx hb dL_law_444 rfl (lv_at hl 1 rfl) ?_
  obtain ⟨r, mX2, mM2, hFX, hFM, hR2⟩ := sim_noKeys hR ht
  refine law_X C hPX hPM hS pkX8_noKeys (As := []) (rest := []) (kX8_noKeys l g adX tk mX r mX2 hFX) mL_L_48 ⟨rfl, rfl, Nat.le_of_ble_eq_true rfl, Nat.le_of_ble_eq_true rfl⟩ rfl hl.1 rfl (Nat.le_of_ble_eq_true rfl) dL_law_445 (fun H locs hPX hPM hS => ?_)
  refine lv_aload_n hx hb dL_law_448 rfl (lv_at hl 2 rfl) ?_
  refine law_M C hPX hPM hS pkX9_noKeys (As := []) (rest := [.int r]) (kX9_noKeys l g adM mM r mM2 hFM) mL_L_52 ⟨rfl, rfl, Nat.le_of_ble_eq_true rfl, Nat.le_of_ble_eq_true rfl⟩ rfl hl.1 rfl (Nat.le_of_ble_eq_true rfl) dL_law_449 (fun H locs hPX hPM hS => ?_)
  refine lv_icmp_eq (tgt := 1220) hx hb dL_law_452 (by decide) (fun _ => ?_) (fun cc => absurd rfl cc)
  exact hk _ _ _ _ ls hR2 hPX hPM hS hl
set_option maxHeartbeats 4000000 in
set_option maxRecDepth 100000 in
theorem lawc_9 {p : Program} {l : Launch} {e : Env} {s : State} {m : MethodId} {below : List Frame} {meth : Method} {c : Code} {g : gG} {adX adM : Nat → Nat} {tk b L : Nat} {xs : Nat → Int32} (C : lawC g adX adM tk b L xs p s m meth c) {t : Nat} (ht : t < 512) {mX mM : Mem} (hR : Rel t mX mM) {i : Int32} (h1 : vp_in (i + 1) L) (h2 : vp_in (i + 2) L) (h3 : vp_in (i + 3) L) (h4 : vp_in (i + 4) L) (h5 : vp_in (i + 5) L)
    (hk : ∀ (mX mM : Mem) (H : Heap) (locs : List Loc) (ls : Array Slot), Rel (t + 1) mX mM → va_P g.1 vwCl (wX g adX mX) H → va_P g.1 vwCl (wM g adM mM) H → va_S (fun q : Nat => s.heap.size ≤ q) s.heap H locs → lv_has ls 4 [(0, .ref b), (1, .ref (adX 0)), (2, .ref (adM 0)), (3, .int i)] → W p l e room_1 s m #[Value.ref b] below meth c H locs 600000 7302250 (lw_Z below #[Value.ref b] s) (F0 m 1220 ls []))
    (H : Heap) (locs : List Loc) (ls : Array Slot) (hPX : va_P g.1 vwCl (wX g adX mX) H) (hPM : va_P g.1 vwCl (wM g adM mM) H) (hS : va_S (fun q : Nat => s.heap.size ≤ q) s.heap H locs) (hl : lv_has ls 4 [(0, .ref b), (1, .ref (adX 0)), (2, .ref (adM 0)), (3, .int i)]) : W p l e room_1 s m #[Value.ref b] below meth c H locs 600000 7302250 (lw_Z below #[Value.ref b] s) (F0 m 457 ls []) := by
  obtain ⟨⟨hx, hb, hml, hown, hts, hr, hlk, -⟩, hX, hbl, -⟩ := id C
  have hbA : ¬ (fun q : Nat => s.heap.size ≤ q) b := Nat.not_le.mpr hbl
  refine lv_aload_n hx hb dL_law_457 rfl (lv_at hl 1 rfl) ?_
  refine lv_aload_n hx hb dL_law_458 rfl (lv_at hl 0 rfl) ?_
  refine lv_iload_n hx hb dL_law_459 rfl (lv_at hl 3 rfl) ?_
  refine lv_iconst (v := 1) hx hb dL_law_460 (by decide) ?_
  refine lv_iadd hx hb dL_law_461 ?_
  refine va_sld hx hb hX hbl hbA hS h1 dL_law_462 ?_
  refine lv_aload_n hx hb dL_law_463 rfl (lv_at hl 0 rfl) ?_
  refine lv_iload_n hx hb dL_law_464 rfl (lv_at hl 3 rfl) ?_
  refine lv_iconst (v := 2) hx hb dL_law_465 (by decide) ?_
  refine lv_iadd hx hb dL_law_466 ?_
  refine va_sld hx hb hX hbl hbA hS h2 dL_law_467 ?_
  refine lv_if_eq (tgt := 475) hx hb dL_law_468 (by decide) (fun cz => ?_) (fun cz => ?_)
  · refine lv_iconst (v := 0) hx hb dL_law_475 (by decide) ?_
    obtain ⟨r, mX2, mM2, hFX, hFM, hR2⟩ := sim_listed hR ht (xs (i + 1).toNatClampNeg) 0
    refine law_X C hPX hPM hS pkX8_listed (As := [.int (xs (i + 1).toNatClampNeg), .int 0]) (rest := []) (kX8_listed l g adX tk mX (xs (i + 1).toNatClampNeg) 0 r mX2 hFX) mL_L_53 ⟨rfl, rfl, Nat.le_of_ble_eq_true rfl, Nat.le_of_ble_eq_true rfl⟩ rfl hl.1 rfl (Nat.le_of_ble_eq_true rfl) dL_law_476 (fun H locs hPX hPM hS => ?_)
    refine lv_aload_n hx hb dL_law_479 rfl (lv_at hl 2 rfl) ?_
    refine lv_aload_n hx hb dL_law_480 rfl (lv_at hl 0 rfl) ?_
    refine lv_iload_n hx hb dL_law_481 rfl (lv_at hl 3 rfl) ?_
    refine lv_iconst (v := 1) hx hb dL_law_482 (by decide) ?_
    refine lv_iadd hx hb dL_law_483 ?_
    refine va_sld hx hb hX hbl hbA hS h1 dL_law_484 ?_
    refine lv_aload_n hx hb dL_law_485 rfl (lv_at hl 0 rfl) ?_
    refine lv_iload_n hx hb dL_law_486 rfl (lv_at hl 3 rfl) ?_
    refine lv_iconst (v := 2) hx hb dL_law_487 (by decide) ?_
    refine lv_iadd hx hb dL_law_488 ?_
    refine va_sld hx hb hX hbl hbA hS h2 dL_law_489 ?_
    refine lv_if_eq (tgt := 497) hx hb dL_law_490 (by decide) (fun _ => ?_) (fun cc => absurd cz cc)
    refine lv_iconst (v := 0) hx hb dL_law_497 (by decide) ?_
    refine law_M C hPX hPM hS pkX9_listed (As := [.int (xs (i + 1).toNatClampNeg), .int 0]) (rest := [.int r]) (kX9_listed l g adM mM (xs (i + 1).toNatClampNeg) 0 r mM2 hFM) mL_L_56 ⟨rfl, rfl, Nat.le_of_ble_eq_true rfl, Nat.le_of_ble_eq_true rfl⟩ rfl hl.1 rfl (Nat.le_of_ble_eq_true rfl) dL_law_498 (fun H locs hPX hPM hS => ?_)
    refine lv_icmp_eq (tgt := 1220) hx hb dL_law_501 (by decide) (fun _ => ?_) (fun cc => absurd rfl cc)
    exact hk _ _ _ _ ls hR2 hPX hPM hS hl
  · refine lv_iconst (v := 1) hx hb dL_law_471 (by decide) ?_
    refine lv_goto (tgt := 476) hx hb dL_law_472 (by decide) ?_
    obtain ⟨r, mX2, mM2, hFX, hFM, hR2⟩ := sim_listed hR ht (xs (i + 1).toNatClampNeg) 1
    refine law_X C hPX hPM hS pkX8_listed (As := [.int (xs (i + 1).toNatClampNeg), .int 1]) (rest := []) (kX8_listed l g adX tk mX (xs (i + 1).toNatClampNeg) 1 r mX2 hFX) mL_L_53 ⟨rfl, rfl, Nat.le_of_ble_eq_true rfl, Nat.le_of_ble_eq_true rfl⟩ rfl hl.1 rfl (Nat.le_of_ble_eq_true rfl) dL_law_476 (fun H locs hPX hPM hS => ?_)
    refine lv_aload_n hx hb dL_law_479 rfl (lv_at hl 2 rfl) ?_
    refine lv_aload_n hx hb dL_law_480 rfl (lv_at hl 0 rfl) ?_
    refine lv_iload_n hx hb dL_law_481 rfl (lv_at hl 3 rfl) ?_
    refine lv_iconst (v := 1) hx hb dL_law_482 (by decide) ?_
    refine lv_iadd hx hb dL_law_483 ?_
    refine va_sld hx hb hX hbl hbA hS h1 dL_law_484 ?_
    refine lv_aload_n hx hb dL_law_485 rfl (lv_at hl 0 rfl) ?_
    refine lv_iload_n hx hb dL_law_486 rfl (lv_at hl 3 rfl) ?_
    refine lv_iconst (v := 2) hx hb dL_law_487 (by decide) ?_
    refine lv_iadd hx hb dL_law_488 ?_
    refine va_sld hx hb hX hbl hbA hS h2 dL_law_489 ?_
    refine lv_if_eq (tgt := 497) hx hb dL_law_490 (by decide) (fun cc => absurd cc cz) (fun _ => ?_)
    refine lv_iconst (v := 1) hx hb dL_law_493 (by decide) ?_
    refine lv_goto (tgt := 498) hx hb dL_law_494 (by decide) ?_
    refine law_M C hPX hPM hS pkX9_listed (As := [.int (xs (i + 1).toNatClampNeg), .int 1]) (rest := [.int r]) (kX9_listed l g adM mM (xs (i + 1).toNatClampNeg) 1 r mM2 hFM) mL_L_56 ⟨rfl, rfl, Nat.le_of_ble_eq_true rfl, Nat.le_of_ble_eq_true rfl⟩ rfl hl.1 rfl (Nat.le_of_ble_eq_true rfl) dL_law_498 (fun H locs hPX hPM hS => ?_)
    refine lv_icmp_eq (tgt := 1220) hx hb dL_law_501 (by decide) (fun _ => ?_) (fun cc => absurd rfl cc)
    exact hk _ _ _ _ ls hR2 hPX hPM hS hl
set_option maxHeartbeats 4000000 in
set_option maxRecDepth 100000 in
theorem lawc_10 {p : Program} {l : Launch} {e : Env} {s : State} {m : MethodId} {below : List Frame} {meth : Method} {c : Code} {g : gG} {adX adM : Nat → Nat} {tk b L : Nat} {xs : Nat → Int32} (C : lawC g adX adM tk b L xs p s m meth c) {t : Nat} (ht : t < 512) {mX mM : Mem} (hR : Rel t mX mM) {i : Int32} (h1 : vp_in (i + 1) L) (h2 : vp_in (i + 2) L) (h3 : vp_in (i + 3) L) (h4 : vp_in (i + 4) L) (h5 : vp_in (i + 5) L)
    (hk : ∀ (mX mM : Mem) (H : Heap) (locs : List Loc) (ls : Array Slot), Rel (t + 1) mX mM → va_P g.1 vwCl (wX g adX mX) H → va_P g.1 vwCl (wM g adM mM) H → va_S (fun q : Nat => s.heap.size ≤ q) s.heap H locs → lv_has ls 4 [(0, .ref b), (1, .ref (adX 0)), (2, .ref (adM 0)), (3, .int i)] → W p l e room_1 s m #[Value.ref b] below meth c H locs 600000 7302250 (lw_Z below #[Value.ref b] s) (F0 m 1220 ls []))
    (H : Heap) (locs : List Loc) (ls : Array Slot) (hPX : va_P g.1 vwCl (wX g adX mX) H) (hPM : va_P g.1 vwCl (wM g adM mM) H) (hS : va_S (fun q : Nat => s.heap.size ≤ q) s.heap H locs) (hl : lv_has ls 4 [(0, .ref b), (1, .ref (adX 0)), (2, .ref (adM 0)), (3, .int i)]) : W p l e room_1 s m #[Value.ref b] below meth c H locs 600000 7302250 (lw_Z below #[Value.ref b] s) (F0 m 506 ls []) := by
  obtain ⟨⟨hx, hb, hml, hown, hts, hr, hlk, -⟩, hX, hbl, -⟩ := id C
  have hbA : ¬ (fun q : Nat => s.heap.size ≤ q) b := Nat.not_le.mpr hbl
  refine lv_aload_n hx hb dL_law_506 rfl (lv_at hl 1 rfl) ?_
  refine lv_aload_n hx hb dL_law_507 rfl (lv_at hl 0 rfl) ?_
  refine lv_iload_n hx hb dL_law_508 rfl (lv_at hl 3 rfl) ?_
  refine lv_iconst (v := 1) hx hb dL_law_509 (by decide) ?_
  refine lv_iadd hx hb dL_law_510 ?_
  refine va_sld hx hb hX hbl hbA hS h1 dL_law_511 ?_
  refine lv_aload_n hx hb dL_law_512 rfl (lv_at hl 0 rfl) ?_
  refine lv_iload_n hx hb dL_law_513 rfl (lv_at hl 3 rfl) ?_
  refine lv_iconst (v := 2) hx hb dL_law_514 (by decide) ?_
  refine lv_iadd hx hb dL_law_515 ?_
  refine va_sld hx hb hX hbl hbA hS h2 dL_law_516 ?_
  obtain ⟨r, mX2, mM2, hFX, hFM, hR2⟩ := sim_place hR ht (xs (i + 1).toNatClampNeg) (xs (i + 2).toNatClampNeg)
  refine law_X C hPX hPM hS pkX8_place (As := [.int (xs (i + 1).toNatClampNeg), .int (xs (i + 2).toNatClampNeg)]) (rest := []) (kX8_place l g adX tk mX (xs (i + 1).toNatClampNeg) (xs (i + 2).toNatClampNeg) r mX2 hFX) mL_L_57 ⟨rfl, rfl, Nat.le_of_ble_eq_true rfl, Nat.le_of_ble_eq_true rfl⟩ rfl hl.1 rfl (Nat.le_of_ble_eq_true rfl) dL_law_517 (fun H locs hPX hPM hS => ?_)
  refine lv_aload_n hx hb dL_law_520 rfl (lv_at hl 2 rfl) ?_
  refine lv_aload_n hx hb dL_law_521 rfl (lv_at hl 0 rfl) ?_
  refine lv_iload_n hx hb dL_law_522 rfl (lv_at hl 3 rfl) ?_
  refine lv_iconst (v := 1) hx hb dL_law_523 (by decide) ?_
  refine lv_iadd hx hb dL_law_524 ?_
  refine va_sld hx hb hX hbl hbA hS h1 dL_law_525 ?_
  refine lv_aload_n hx hb dL_law_526 rfl (lv_at hl 0 rfl) ?_
  refine lv_iload_n hx hb dL_law_527 rfl (lv_at hl 3 rfl) ?_
  refine lv_iconst (v := 2) hx hb dL_law_528 (by decide) ?_
  refine lv_iadd hx hb dL_law_529 ?_
  refine va_sld hx hb hX hbl hbA hS h2 dL_law_530 ?_
  refine law_M C hPX hPM hS pkX9_place (As := [.int (xs (i + 1).toNatClampNeg), .int (xs (i + 2).toNatClampNeg)]) (rest := [.int r]) (kX9_place l g adM mM (xs (i + 1).toNatClampNeg) (xs (i + 2).toNatClampNeg) r mM2 hFM) mL_L_60 ⟨rfl, rfl, Nat.le_of_ble_eq_true rfl, Nat.le_of_ble_eq_true rfl⟩ rfl hl.1 rfl (Nat.le_of_ble_eq_true rfl) dL_law_531 (fun H locs hPX hPM hS => ?_)
  refine lv_icmp_eq (tgt := 1220) hx hb dL_law_534 (by decide) (fun _ => ?_) (fun cc => absurd rfl cc)
  exact hk _ _ _ _ ls hR2 hPX hPM hS hl
set_option maxHeartbeats 4000000 in
set_option maxRecDepth 100000 in
theorem lawc_11 {p : Program} {l : Launch} {e : Env} {s : State} {m : MethodId} {below : List Frame} {meth : Method} {c : Code} {g : gG} {adX adM : Nat → Nat} {tk b L : Nat} {xs : Nat → Int32} (C : lawC g adX adM tk b L xs p s m meth c) {t : Nat} (ht : t < 512) {mX mM : Mem} (hR : Rel t mX mM) {i : Int32} (h1 : vp_in (i + 1) L) (h2 : vp_in (i + 2) L) (h3 : vp_in (i + 3) L) (h4 : vp_in (i + 4) L) (h5 : vp_in (i + 5) L)
    (hk : ∀ (mX mM : Mem) (H : Heap) (locs : List Loc) (ls : Array Slot), Rel (t + 1) mX mM → va_P g.1 vwCl (wX g adX mX) H → va_P g.1 vwCl (wM g adM mM) H → va_S (fun q : Nat => s.heap.size ≤ q) s.heap H locs → lv_has ls 4 [(0, .ref b), (1, .ref (adX 0)), (2, .ref (adM 0)), (3, .int i)] → W p l e room_1 s m #[Value.ref b] below meth c H locs 600000 7302250 (lw_Z below #[Value.ref b] s) (F0 m 1220 ls []))
    (H : Heap) (locs : List Loc) (ls : Array Slot) (hPX : va_P g.1 vwCl (wX g adX mX) H) (hPM : va_P g.1 vwCl (wM g adM mM) H) (hS : va_S (fun q : Nat => s.heap.size ≤ q) s.heap H locs) (hl : lv_has ls 4 [(0, .ref b), (1, .ref (adX 0)), (2, .ref (adM 0)), (3, .int i)]) : W p l e room_1 s m #[Value.ref b] below meth c H locs 600000 7302250 (lw_Z below #[Value.ref b] s) (F0 m 539 ls []) := by
  obtain ⟨⟨hx, hb, hml, hown, hts, hr, hlk, -⟩, hX, hbl, -⟩ := id C
  have hbA : ¬ (fun q : Nat => s.heap.size ≤ q) b := Nat.not_le.mpr hbl
  refine lv_aload_n hx hb dL_law_539 rfl (lv_at hl 1 rfl) ?_
  refine lv_aload_n hx hb dL_law_540 rfl (lv_at hl 0 rfl) ?_
  refine lv_iload_n hx hb dL_law_541 rfl (lv_at hl 3 rfl) ?_
  refine lv_iconst (v := 1) hx hb dL_law_542 (by decide) ?_
  refine lv_iadd hx hb dL_law_543 ?_
  refine va_sld hx hb hX hbl hbA hS h1 dL_law_544 ?_
  obtain ⟨r, mX2, mM2, hFX, hFM, hR2⟩ := sim_wait hR ht (xs (i + 1).toNatClampNeg)
  refine law_X C hPX hPM hS pkX8_wait (As := [.int (xs (i + 1).toNatClampNeg)]) (rest := []) (kX8_wait l g adX tk mX (xs (i + 1).toNatClampNeg) r mX2 hFX) mL_L_61 ⟨rfl, rfl, Nat.le_of_ble_eq_true rfl, Nat.le_of_ble_eq_true rfl⟩ rfl hl.1 rfl (Nat.le_of_ble_eq_true rfl) dL_law_545 (fun H locs hPX hPM hS => ?_)
  refine lv_aload_n hx hb dL_law_548 rfl (lv_at hl 2 rfl) ?_
  refine lv_aload_n hx hb dL_law_549 rfl (lv_at hl 0 rfl) ?_
  refine lv_iload_n hx hb dL_law_550 rfl (lv_at hl 3 rfl) ?_
  refine lv_iconst (v := 1) hx hb dL_law_551 (by decide) ?_
  refine lv_iadd hx hb dL_law_552 ?_
  refine va_sld hx hb hX hbl hbA hS h1 dL_law_553 ?_
  refine law_M C hPX hPM hS pkX9_wait (As := [.int (xs (i + 1).toNatClampNeg)]) (rest := [.int r]) (kX9_wait l g adM mM (xs (i + 1).toNatClampNeg) r mM2 hFM) mL_L_64 ⟨rfl, rfl, Nat.le_of_ble_eq_true rfl, Nat.le_of_ble_eq_true rfl⟩ rfl hl.1 rfl (Nat.le_of_ble_eq_true rfl) dL_law_554 (fun H locs hPX hPM hS => ?_)
  refine lv_icmp_eq (tgt := 1220) hx hb dL_law_557 (by decide) (fun _ => ?_) (fun cc => absurd rfl cc)
  exact hk _ _ _ _ ls hR2 hPX hPM hS hl
set_option maxHeartbeats 4000000 in
set_option maxRecDepth 100000 in
theorem lawc_12 {p : Program} {l : Launch} {e : Env} {s : State} {m : MethodId} {below : List Frame} {meth : Method} {c : Code} {g : gG} {adX adM : Nat → Nat} {tk b L : Nat} {xs : Nat → Int32} (C : lawC g adX adM tk b L xs p s m meth c) {t : Nat} (ht : t < 512) {mX mM : Mem} (hR : Rel t mX mM) {i : Int32} (h1 : vp_in (i + 1) L) (h2 : vp_in (i + 2) L) (h3 : vp_in (i + 3) L) (h4 : vp_in (i + 4) L) (h5 : vp_in (i + 5) L)
    (hk : ∀ (mX mM : Mem) (H : Heap) (locs : List Loc) (ls : Array Slot), Rel (t + 1) mX mM → va_P g.1 vwCl (wX g adX mX) H → va_P g.1 vwCl (wM g adM mM) H → va_S (fun q : Nat => s.heap.size ≤ q) s.heap H locs → lv_has ls 4 [(0, .ref b), (1, .ref (adX 0)), (2, .ref (adM 0)), (3, .int i)] → W p l e room_1 s m #[Value.ref b] below meth c H locs 600000 7302250 (lw_Z below #[Value.ref b] s) (F0 m 1220 ls []))
    (H : Heap) (locs : List Loc) (ls : Array Slot) (hPX : va_P g.1 vwCl (wX g adX mX) H) (hPM : va_P g.1 vwCl (wM g adM mM) H) (hS : va_S (fun q : Nat => s.heap.size ≤ q) s.heap H locs) (hl : lv_has ls 4 [(0, .ref b), (1, .ref (adX 0)), (2, .ref (adM 0)), (3, .int i)]) : W p l e room_1 s m #[Value.ref b] below meth c H locs 600000 7302250 (lw_Z below #[Value.ref b] s) (F0 m 562 ls []) := by
  obtain ⟨⟨hx, hb, hml, hown, hts, hr, hlk, -⟩, hX, hbl, -⟩ := id C
  have hbA : ¬ (fun q : Nat => s.heap.size ≤ q) b := Nat.not_le.mpr hbl
  refine lv_aload_n hx hb dL_law_562 rfl (lv_at hl 1 rfl) ?_
  refine lv_aload_n hx hb dL_law_563 rfl (lv_at hl 0 rfl) ?_
  refine lv_iload_n hx hb dL_law_564 rfl (lv_at hl 3 rfl) ?_
  refine lv_iconst (v := 1) hx hb dL_law_565 (by decide) ?_
  refine lv_iadd hx hb dL_law_566 ?_
  refine va_sld hx hb hX hbl hbA hS h1 dL_law_567 ?_
  refine lv_aload_n hx hb dL_law_568 rfl (lv_at hl 0 rfl) ?_
  refine lv_iload_n hx hb dL_law_569 rfl (lv_at hl 3 rfl) ?_
  refine lv_iconst (v := 2) hx hb dL_law_570 (by decide) ?_
  refine lv_iadd hx hb dL_law_571 ?_
  refine va_sld hx hb hX hbl hbA hS h2 dL_law_572 ?_
  refine lv_if_eq (tgt := 580) hx hb dL_law_573 (by decide) (fun cz => ?_) (fun cz => ?_)
  · refine lv_iconst (v := 0) hx hb dL_law_580 (by decide) ?_
    obtain ⟨r, mX2, mM2, hFX, hFM, hR2⟩ := sim_fits hR ht (xs (i + 1).toNatClampNeg) 0
    refine law_X C hPX hPM hS pkX8_fits (As := [.int (xs (i + 1).toNatClampNeg), .int 0]) (rest := []) (kX8_fits l g adX tk mX (xs (i + 1).toNatClampNeg) 0 r mX2 hFX) mL_L_65 ⟨rfl, rfl, Nat.le_of_ble_eq_true rfl, Nat.le_of_ble_eq_true rfl⟩ rfl hl.1 rfl (Nat.le_of_ble_eq_true rfl) dL_law_581 (fun H locs hPX hPM hS => ?_)
    refine lv_aload_n hx hb dL_law_584 rfl (lv_at hl 2 rfl) ?_
    refine lv_aload_n hx hb dL_law_585 rfl (lv_at hl 0 rfl) ?_
    refine lv_iload_n hx hb dL_law_586 rfl (lv_at hl 3 rfl) ?_
    refine lv_iconst (v := 1) hx hb dL_law_587 (by decide) ?_
    refine lv_iadd hx hb dL_law_588 ?_
    refine va_sld hx hb hX hbl hbA hS h1 dL_law_589 ?_
    refine lv_aload_n hx hb dL_law_590 rfl (lv_at hl 0 rfl) ?_
    refine lv_iload_n hx hb dL_law_591 rfl (lv_at hl 3 rfl) ?_
    refine lv_iconst (v := 2) hx hb dL_law_592 (by decide) ?_
    refine lv_iadd hx hb dL_law_593 ?_
    refine va_sld hx hb hX hbl hbA hS h2 dL_law_594 ?_
    refine lv_if_eq (tgt := 602) hx hb dL_law_595 (by decide) (fun _ => ?_) (fun cc => absurd cz cc)
    refine lv_iconst (v := 0) hx hb dL_law_602 (by decide) ?_
    refine law_M C hPX hPM hS pkX9_fits (As := [.int (xs (i + 1).toNatClampNeg), .int 0]) (rest := [.int r]) (kX9_fits l g adM mM (xs (i + 1).toNatClampNeg) 0 r mM2 hFM) mL_L_68 ⟨rfl, rfl, Nat.le_of_ble_eq_true rfl, Nat.le_of_ble_eq_true rfl⟩ rfl hl.1 rfl (Nat.le_of_ble_eq_true rfl) dL_law_603 (fun H locs hPX hPM hS => ?_)
    refine lv_icmp_eq (tgt := 1220) hx hb dL_law_606 (by decide) (fun _ => ?_) (fun cc => absurd rfl cc)
    exact hk _ _ _ _ ls hR2 hPX hPM hS hl
  · refine lv_iconst (v := 1) hx hb dL_law_576 (by decide) ?_
    refine lv_goto (tgt := 581) hx hb dL_law_577 (by decide) ?_
    obtain ⟨r, mX2, mM2, hFX, hFM, hR2⟩ := sim_fits hR ht (xs (i + 1).toNatClampNeg) 1
    refine law_X C hPX hPM hS pkX8_fits (As := [.int (xs (i + 1).toNatClampNeg), .int 1]) (rest := []) (kX8_fits l g adX tk mX (xs (i + 1).toNatClampNeg) 1 r mX2 hFX) mL_L_65 ⟨rfl, rfl, Nat.le_of_ble_eq_true rfl, Nat.le_of_ble_eq_true rfl⟩ rfl hl.1 rfl (Nat.le_of_ble_eq_true rfl) dL_law_581 (fun H locs hPX hPM hS => ?_)
    refine lv_aload_n hx hb dL_law_584 rfl (lv_at hl 2 rfl) ?_
    refine lv_aload_n hx hb dL_law_585 rfl (lv_at hl 0 rfl) ?_
    refine lv_iload_n hx hb dL_law_586 rfl (lv_at hl 3 rfl) ?_
    refine lv_iconst (v := 1) hx hb dL_law_587 (by decide) ?_
    refine lv_iadd hx hb dL_law_588 ?_
    refine va_sld hx hb hX hbl hbA hS h1 dL_law_589 ?_
    refine lv_aload_n hx hb dL_law_590 rfl (lv_at hl 0 rfl) ?_
    refine lv_iload_n hx hb dL_law_591 rfl (lv_at hl 3 rfl) ?_
    refine lv_iconst (v := 2) hx hb dL_law_592 (by decide) ?_
    refine lv_iadd hx hb dL_law_593 ?_
    refine va_sld hx hb hX hbl hbA hS h2 dL_law_594 ?_
    refine lv_if_eq (tgt := 602) hx hb dL_law_595 (by decide) (fun cc => absurd cc cz) (fun _ => ?_)
    refine lv_iconst (v := 1) hx hb dL_law_598 (by decide) ?_
    refine lv_goto (tgt := 603) hx hb dL_law_599 (by decide) ?_
    refine law_M C hPX hPM hS pkX9_fits (As := [.int (xs (i + 1).toNatClampNeg), .int 1]) (rest := [.int r]) (kX9_fits l g adM mM (xs (i + 1).toNatClampNeg) 1 r mM2 hFM) mL_L_68 ⟨rfl, rfl, Nat.le_of_ble_eq_true rfl, Nat.le_of_ble_eq_true rfl⟩ rfl hl.1 rfl (Nat.le_of_ble_eq_true rfl) dL_law_603 (fun H locs hPX hPM hS => ?_)
    refine lv_icmp_eq (tgt := 1220) hx hb dL_law_606 (by decide) (fun _ => ?_) (fun cc => absurd rfl cc)
    exact hk _ _ _ _ ls hR2 hPX hPM hS hl
set_option maxHeartbeats 4000000 in
set_option maxRecDepth 100000 in
theorem lawc_13 {p : Program} {l : Launch} {e : Env} {s : State} {m : MethodId} {below : List Frame} {meth : Method} {c : Code} {g : gG} {adX adM : Nat → Nat} {tk b L : Nat} {xs : Nat → Int32} (C : lawC g adX adM tk b L xs p s m meth c) {t : Nat} (ht : t < 512) {mX mM : Mem} (hR : Rel t mX mM) {i : Int32} (h1 : vp_in (i + 1) L) (h2 : vp_in (i + 2) L) (h3 : vp_in (i + 3) L) (h4 : vp_in (i + 4) L) (h5 : vp_in (i + 5) L)
    (hk : ∀ (mX mM : Mem) (H : Heap) (locs : List Loc) (ls : Array Slot), Rel (t + 1) mX mM → va_P g.1 vwCl (wX g adX mX) H → va_P g.1 vwCl (wM g adM mM) H → va_S (fun q : Nat => s.heap.size ≤ q) s.heap H locs → lv_has ls 4 [(0, .ref b), (1, .ref (adX 0)), (2, .ref (adM 0)), (3, .int i)] → W p l e room_1 s m #[Value.ref b] below meth c H locs 600000 7302250 (lw_Z below #[Value.ref b] s) (F0 m 1220 ls []))
    (H : Heap) (locs : List Loc) (ls : Array Slot) (hPX : va_P g.1 vwCl (wX g adX mX) H) (hPM : va_P g.1 vwCl (wM g adM mM) H) (hS : va_S (fun q : Nat => s.heap.size ≤ q) s.heap H locs) (hl : lv_has ls 4 [(0, .ref b), (1, .ref (adX 0)), (2, .ref (adM 0)), (3, .int i)]) : W p l e room_1 s m #[Value.ref b] below meth c H locs 600000 7302250 (lw_Z below #[Value.ref b] s) (F0 m 611 ls []) := by
  obtain ⟨⟨hx, hb, hml, hown, hts, hr, hlk, -⟩, hX, hbl, -⟩ := id C
  have hbA : ¬ (fun q : Nat => s.heap.size ≤ q) b := Nat.not_le.mpr hbl
  refine lv_aload_n hx hb dL_law_611 rfl (lv_at hl 1 rfl) ?_
  obtain ⟨r, mX2, mM2, hFX, hFM, hR2⟩ := sim_begin hR ht
  refine law_X C hPX hPM hS pkX8_begin (As := []) (rest := []) (kX8_begin l g adX tk mX r mX2 hFX) mL_L_69 ⟨rfl, rfl, Nat.le_of_ble_eq_true rfl, Nat.le_of_ble_eq_true rfl⟩ rfl hl.1 rfl (Nat.le_of_ble_eq_true rfl) dL_law_612 (fun H locs hPX hPM hS => ?_)
  refine lv_aload_n hx hb dL_law_615 rfl (lv_at hl 2 rfl) ?_
  refine law_M C hPX hPM hS pkX9_begin (As := []) (rest := [.int r]) (kX9_begin l g adM mM r mM2 hFM) mL_L_72 ⟨rfl, rfl, Nat.le_of_ble_eq_true rfl, Nat.le_of_ble_eq_true rfl⟩ rfl hl.1 rfl (Nat.le_of_ble_eq_true rfl) dL_law_616 (fun H locs hPX hPM hS => ?_)
  refine lv_icmp_eq (tgt := 1220) hx hb dL_law_619 (by decide) (fun _ => ?_) (fun cc => absurd rfl cc)
  exact hk _ _ _ _ ls hR2 hPX hPM hS hl
set_option maxHeartbeats 4000000 in
set_option maxRecDepth 100000 in
theorem lawc_14 {p : Program} {l : Launch} {e : Env} {s : State} {m : MethodId} {below : List Frame} {meth : Method} {c : Code} {g : gG} {adX adM : Nat → Nat} {tk b L : Nat} {xs : Nat → Int32} (C : lawC g adX adM tk b L xs p s m meth c) {t : Nat} (ht : t < 512) {mX mM : Mem} (hR : Rel t mX mM) {i : Int32} (h1 : vp_in (i + 1) L) (h2 : vp_in (i + 2) L) (h3 : vp_in (i + 3) L) (h4 : vp_in (i + 4) L) (h5 : vp_in (i + 5) L)
    (hk : ∀ (mX mM : Mem) (H : Heap) (locs : List Loc) (ls : Array Slot), Rel (t + 1) mX mM → va_P g.1 vwCl (wX g adX mX) H → va_P g.1 vwCl (wM g adM mM) H → va_S (fun q : Nat => s.heap.size ≤ q) s.heap H locs → lv_has ls 4 [(0, .ref b), (1, .ref (adX 0)), (2, .ref (adM 0)), (3, .int i)] → W p l e room_1 s m #[Value.ref b] below meth c H locs 600000 7302250 (lw_Z below #[Value.ref b] s) (F0 m 1220 ls []))
    (H : Heap) (locs : List Loc) (ls : Array Slot) (hPX : va_P g.1 vwCl (wX g adX mX) H) (hPM : va_P g.1 vwCl (wM g adM mM) H) (hS : va_S (fun q : Nat => s.heap.size ≤ q) s.heap H locs) (hl : lv_has ls 4 [(0, .ref b), (1, .ref (adX 0)), (2, .ref (adM 0)), (3, .int i)]) : W p l e room_1 s m #[Value.ref b] below meth c H locs 600000 7302250 (lw_Z below #[Value.ref b] s) (F0 m 624 ls []) := by
  obtain ⟨⟨hx, hb, hml, hown, hts, hr, hlk, -⟩, hX, hbl, -⟩ := id C
  have hbA : ¬ (fun q : Nat => s.heap.size ≤ q) b := Nat.not_le.mpr hbl
  refine lv_aload_n hx hb dL_law_624 rfl (lv_at hl 1 rfl) ?_
  obtain ⟨r, mX2, mM2, hFX, hFM, hR2⟩ := sim_cut hR ht
  refine law_X C hPX hPM hS pkX8_cut (As := []) (rest := []) (kX8_cut l g adX tk mX r mX2 hFX) mL_L_73 ⟨rfl, rfl, Nat.le_of_ble_eq_true rfl, Nat.le_of_ble_eq_true rfl⟩ rfl hl.1 rfl (Nat.le_of_ble_eq_true rfl) dL_law_625 (fun H locs hPX hPM hS => ?_)
  refine lv_aload_n hx hb dL_law_628 rfl (lv_at hl 2 rfl) ?_
  refine law_M C hPX hPM hS pkX9_cut (As := []) (rest := [.int r]) (kX9_cut l g adM mM r mM2 hFM) mL_L_76 ⟨rfl, rfl, Nat.le_of_ble_eq_true rfl, Nat.le_of_ble_eq_true rfl⟩ rfl hl.1 rfl (Nat.le_of_ble_eq_true rfl) dL_law_629 (fun H locs hPX hPM hS => ?_)
  refine lv_icmp_eq (tgt := 1220) hx hb dL_law_632 (by decide) (fun _ => ?_) (fun cc => absurd rfl cc)
  exact hk _ _ _ _ ls hR2 hPX hPM hS hl
set_option maxHeartbeats 4000000 in
set_option maxRecDepth 100000 in
theorem lawc_15 {p : Program} {l : Launch} {e : Env} {s : State} {m : MethodId} {below : List Frame} {meth : Method} {c : Code} {g : gG} {adX adM : Nat → Nat} {tk b L : Nat} {xs : Nat → Int32} (C : lawC g adX adM tk b L xs p s m meth c) {t : Nat} (ht : t < 512) {mX mM : Mem} (hR : Rel t mX mM) {i : Int32} (h1 : vp_in (i + 1) L) (h2 : vp_in (i + 2) L) (h3 : vp_in (i + 3) L) (h4 : vp_in (i + 4) L) (h5 : vp_in (i + 5) L)
    (hk : ∀ (mX mM : Mem) (H : Heap) (locs : List Loc) (ls : Array Slot), Rel (t + 1) mX mM → va_P g.1 vwCl (wX g adX mX) H → va_P g.1 vwCl (wM g adM mM) H → va_S (fun q : Nat => s.heap.size ≤ q) s.heap H locs → lv_has ls 4 [(0, .ref b), (1, .ref (adX 0)), (2, .ref (adM 0)), (3, .int i)] → W p l e room_1 s m #[Value.ref b] below meth c H locs 600000 7302250 (lw_Z below #[Value.ref b] s) (F0 m 1220 ls []))
    (H : Heap) (locs : List Loc) (ls : Array Slot) (hPX : va_P g.1 vwCl (wX g adX mX) H) (hPM : va_P g.1 vwCl (wM g adM mM) H) (hS : va_S (fun q : Nat => s.heap.size ≤ q) s.heap H locs) (hl : lv_has ls 4 [(0, .ref b), (1, .ref (adX 0)), (2, .ref (adM 0)), (3, .int i)]) : W p l e room_1 s m #[Value.ref b] below meth c H locs 600000 7302250 (lw_Z below #[Value.ref b] s) (F0 m 637 ls []) := by
  obtain ⟨⟨hx, hb, hml, hown, hts, hr, hlk, -⟩, hX, hbl, -⟩ := id C
  have hbA : ¬ (fun q : Nat => s.heap.size ≤ q) b := Nat.not_le.mpr hbl
  refine lv_aload_n hx hb dL_law_637 rfl (lv_at hl 1 rfl) ?_
  refine lv_aload_n hx hb dL_law_638 rfl (lv_at hl 0 rfl) ?_
  refine lv_iload_n hx hb dL_law_639 rfl (lv_at hl 3 rfl) ?_
  refine lv_iconst (v := 1) hx hb dL_law_640 (by decide) ?_
  refine lv_iadd hx hb dL_law_641 ?_
  refine va_sld hx hb hX hbl hbA hS h1 dL_law_642 ?_
  obtain ⟨r, mX2, mM2, hFX, hFM, hR2⟩ := sim_tick hR ht (xs (i + 1).toNatClampNeg)
  refine law_X C hPX hPM hS pkX8_tick (As := [.int (xs (i + 1).toNatClampNeg)]) (rest := []) (kX8_tick l g adX tk mX (xs (i + 1).toNatClampNeg) r mX2 hFX) mL_L_77 ⟨rfl, rfl, Nat.le_of_ble_eq_true rfl, Nat.le_of_ble_eq_true rfl⟩ rfl hl.1 rfl (Nat.le_of_ble_eq_true rfl) dL_law_643 (fun H locs hPX hPM hS => ?_)
  refine lv_aload_n hx hb dL_law_646 rfl (lv_at hl 2 rfl) ?_
  refine lv_aload_n hx hb dL_law_647 rfl (lv_at hl 0 rfl) ?_
  refine lv_iload_n hx hb dL_law_648 rfl (lv_at hl 3 rfl) ?_
  refine lv_iconst (v := 1) hx hb dL_law_649 (by decide) ?_
  refine lv_iadd hx hb dL_law_650 ?_
  refine va_sld hx hb hX hbl hbA hS h1 dL_law_651 ?_
  refine law_M C hPX hPM hS pkX9_tick (As := [.int (xs (i + 1).toNatClampNeg)]) (rest := [.int r]) (kX9_tick l g adM mM (xs (i + 1).toNatClampNeg) r mM2 hFM) mL_L_80 ⟨rfl, rfl, Nat.le_of_ble_eq_true rfl, Nat.le_of_ble_eq_true rfl⟩ rfl hl.1 rfl (Nat.le_of_ble_eq_true rfl) dL_law_652 (fun H locs hPX hPM hS => ?_)
  refine lv_icmp_eq (tgt := 1220) hx hb dL_law_655 (by decide) (fun _ => ?_) (fun cc => absurd rfl cc)
  exact hk _ _ _ _ ls hR2 hPX hPM hS hl
set_option maxHeartbeats 4000000 in
set_option maxRecDepth 100000 in
theorem lawc_16 {p : Program} {l : Launch} {e : Env} {s : State} {m : MethodId} {below : List Frame} {meth : Method} {c : Code} {g : gG} {adX adM : Nat → Nat} {tk b L : Nat} {xs : Nat → Int32} (C : lawC g adX adM tk b L xs p s m meth c) {t : Nat} (ht : t < 512) {mX mM : Mem} (hR : Rel t mX mM) {i : Int32} (h1 : vp_in (i + 1) L) (h2 : vp_in (i + 2) L) (h3 : vp_in (i + 3) L) (h4 : vp_in (i + 4) L) (h5 : vp_in (i + 5) L)
    (hk : ∀ (mX mM : Mem) (H : Heap) (locs : List Loc) (ls : Array Slot), Rel (t + 1) mX mM → va_P g.1 vwCl (wX g adX mX) H → va_P g.1 vwCl (wM g adM mM) H → va_S (fun q : Nat => s.heap.size ≤ q) s.heap H locs → lv_has ls 4 [(0, .ref b), (1, .ref (adX 0)), (2, .ref (adM 0)), (3, .int i)] → W p l e room_1 s m #[Value.ref b] below meth c H locs 600000 7302250 (lw_Z below #[Value.ref b] s) (F0 m 1220 ls []))
    (H : Heap) (locs : List Loc) (ls : Array Slot) (hPX : va_P g.1 vwCl (wX g adX mX) H) (hPM : va_P g.1 vwCl (wM g adM mM) H) (hS : va_S (fun q : Nat => s.heap.size ≤ q) s.heap H locs) (hl : lv_has ls 4 [(0, .ref b), (1, .ref (adX 0)), (2, .ref (adM 0)), (3, .int i)]) : W p l e room_1 s m #[Value.ref b] below meth c H locs 600000 7302250 (lw_Z below #[Value.ref b] s) (F0 m 660 ls []) := by
  obtain ⟨⟨hx, hb, hml, hown, hts, hr, hlk, -⟩, hX, hbl, -⟩ := id C
  have hbA : ¬ (fun q : Nat => s.heap.size ≤ q) b := Nat.not_le.mpr hbl
  refine lv_aload_n hx hb dL_law_660 rfl (lv_at hl 1 rfl) ?_
  obtain ⟨r, mX2, mM2, hFX, hFM, hR2⟩ := sim_yield hR ht
  refine law_X C hPX hPM hS pkX8_yield (As := []) (rest := []) (kX8_yield l g adX tk mX r mX2 hFX) mL_L_81 ⟨rfl, rfl, Nat.le_of_ble_eq_true rfl, Nat.le_of_ble_eq_true rfl⟩ rfl hl.1 rfl (Nat.le_of_ble_eq_true rfl) dL_law_661 (fun H locs hPX hPM hS => ?_)
  refine lv_aload_n hx hb dL_law_664 rfl (lv_at hl 2 rfl) ?_
  refine law_M C hPX hPM hS pkX9_yield (As := []) (rest := [.int r]) (kX9_yield l g adM mM r mM2 hFM) mL_L_84 ⟨rfl, rfl, Nat.le_of_ble_eq_true rfl, Nat.le_of_ble_eq_true rfl⟩ rfl hl.1 rfl (Nat.le_of_ble_eq_true rfl) dL_law_665 (fun H locs hPX hPM hS => ?_)
  refine lv_icmp_eq (tgt := 1220) hx hb dL_law_668 (by decide) (fun _ => ?_) (fun cc => absurd rfl cc)
  exact hk _ _ _ _ ls hR2 hPX hPM hS hl
set_option maxHeartbeats 4000000 in
set_option maxRecDepth 100000 in
theorem lawc_17 {p : Program} {l : Launch} {e : Env} {s : State} {m : MethodId} {below : List Frame} {meth : Method} {c : Code} {g : gG} {adX adM : Nat → Nat} {tk b L : Nat} {xs : Nat → Int32} (C : lawC g adX adM tk b L xs p s m meth c) {t : Nat} (ht : t < 512) {mX mM : Mem} (hR : Rel t mX mM) {i : Int32} (h1 : vp_in (i + 1) L) (h2 : vp_in (i + 2) L) (h3 : vp_in (i + 3) L) (h4 : vp_in (i + 4) L) (h5 : vp_in (i + 5) L)
    (hk : ∀ (mX mM : Mem) (H : Heap) (locs : List Loc) (ls : Array Slot), Rel (t + 1) mX mM → va_P g.1 vwCl (wX g adX mX) H → va_P g.1 vwCl (wM g adM mM) H → va_S (fun q : Nat => s.heap.size ≤ q) s.heap H locs → lv_has ls 4 [(0, .ref b), (1, .ref (adX 0)), (2, .ref (adM 0)), (3, .int i)] → W p l e room_1 s m #[Value.ref b] below meth c H locs 600000 7302250 (lw_Z below #[Value.ref b] s) (F0 m 1220 ls []))
    (H : Heap) (locs : List Loc) (ls : Array Slot) (hPX : va_P g.1 vwCl (wX g adX mX) H) (hPM : va_P g.1 vwCl (wM g adM mM) H) (hS : va_S (fun q : Nat => s.heap.size ≤ q) s.heap H locs) (hl : lv_has ls 4 [(0, .ref b), (1, .ref (adX 0)), (2, .ref (adM 0)), (3, .int i)]) : W p l e room_1 s m #[Value.ref b] below meth c H locs 600000 7302250 (lw_Z below #[Value.ref b] s) (F0 m 673 ls []) := by
  obtain ⟨⟨hx, hb, hml, hown, hts, hr, hlk, -⟩, hX, hbl, -⟩ := id C
  have hbA : ¬ (fun q : Nat => s.heap.size ≤ q) b := Nat.not_le.mpr hbl
  refine lv_aload_n hx hb dL_law_673 rfl (lv_at hl 1 rfl) ?_
  refine lv_aload_n hx hb dL_law_674 rfl (lv_at hl 0 rfl) ?_
  refine lv_iload_n hx hb dL_law_675 rfl (lv_at hl 3 rfl) ?_
  refine lv_iconst (v := 1) hx hb dL_law_676 (by decide) ?_
  refine lv_iadd hx hb dL_law_677 ?_
  refine va_sld hx hb hX hbl hbA hS h1 dL_law_678 ?_
  obtain ⟨r, mX2, mM2, hFX, hFM, hR2⟩ := sim_floor hR ht (xs (i + 1).toNatClampNeg)
  refine law_X C hPX hPM hS pkX8_floor (As := [.int (xs (i + 1).toNatClampNeg)]) (rest := []) (kX8_floor l g adX tk mX (xs (i + 1).toNatClampNeg) r mX2 hFX) mL_L_85 ⟨rfl, rfl, Nat.le_of_ble_eq_true rfl, Nat.le_of_ble_eq_true rfl⟩ rfl hl.1 rfl (Nat.le_of_ble_eq_true rfl) dL_law_679 (fun H locs hPX hPM hS => ?_)
  refine lv_aload_n hx hb dL_law_682 rfl (lv_at hl 2 rfl) ?_
  refine lv_aload_n hx hb dL_law_683 rfl (lv_at hl 0 rfl) ?_
  refine lv_iload_n hx hb dL_law_684 rfl (lv_at hl 3 rfl) ?_
  refine lv_iconst (v := 1) hx hb dL_law_685 (by decide) ?_
  refine lv_iadd hx hb dL_law_686 ?_
  refine va_sld hx hb hX hbl hbA hS h1 dL_law_687 ?_
  refine law_M C hPX hPM hS pkX9_floor (As := [.int (xs (i + 1).toNatClampNeg)]) (rest := [.int r]) (kX9_floor l g adM mM (xs (i + 1).toNatClampNeg) r mM2 hFM) mL_L_88 ⟨rfl, rfl, Nat.le_of_ble_eq_true rfl, Nat.le_of_ble_eq_true rfl⟩ rfl hl.1 rfl (Nat.le_of_ble_eq_true rfl) dL_law_688 (fun H locs hPX hPM hS => ?_)
  refine lv_icmp_eq (tgt := 1220) hx hb dL_law_691 (by decide) (fun _ => ?_) (fun cc => absurd rfl cc)
  exact hk _ _ _ _ ls hR2 hPX hPM hS hl
set_option maxHeartbeats 4000000 in
set_option maxRecDepth 100000 in
theorem lawc_18 {p : Program} {l : Launch} {e : Env} {s : State} {m : MethodId} {below : List Frame} {meth : Method} {c : Code} {g : gG} {adX adM : Nat → Nat} {tk b L : Nat} {xs : Nat → Int32} (C : lawC g adX adM tk b L xs p s m meth c) {t : Nat} (ht : t < 512) {mX mM : Mem} (hR : Rel t mX mM) {i : Int32} (h1 : vp_in (i + 1) L) (h2 : vp_in (i + 2) L) (h3 : vp_in (i + 3) L) (h4 : vp_in (i + 4) L) (h5 : vp_in (i + 5) L)
    (hk : ∀ (mX mM : Mem) (H : Heap) (locs : List Loc) (ls : Array Slot), Rel (t + 1) mX mM → va_P g.1 vwCl (wX g adX mX) H → va_P g.1 vwCl (wM g adM mM) H → va_S (fun q : Nat => s.heap.size ≤ q) s.heap H locs → lv_has ls 4 [(0, .ref b), (1, .ref (adX 0)), (2, .ref (adM 0)), (3, .int i)] → W p l e room_1 s m #[Value.ref b] below meth c H locs 600000 7302250 (lw_Z below #[Value.ref b] s) (F0 m 1220 ls []))
    (H : Heap) (locs : List Loc) (ls : Array Slot) (hPX : va_P g.1 vwCl (wX g adX mX) H) (hPM : va_P g.1 vwCl (wM g adM mM) H) (hS : va_S (fun q : Nat => s.heap.size ≤ q) s.heap H locs) (hl : lv_has ls 4 [(0, .ref b), (1, .ref (adX 0)), (2, .ref (adM 0)), (3, .int i)]) : W p l e room_1 s m #[Value.ref b] below meth c H locs 600000 7302250 (lw_Z below #[Value.ref b] s) (F0 m 696 ls []) := by
  obtain ⟨⟨hx, hb, hml, hown, hts, hr, hlk, -⟩, hX, hbl, -⟩ := id C
  have hbA : ¬ (fun q : Nat => s.heap.size ≤ q) b := Nat.not_le.mpr hbl
  refine lv_aload_n hx hb dL_law_696 rfl (lv_at hl 1 rfl) ?_
  refine lv_aload_n hx hb dL_law_697 rfl (lv_at hl 0 rfl) ?_
  refine lv_iload_n hx hb dL_law_698 rfl (lv_at hl 3 rfl) ?_
  refine lv_iconst (v := 1) hx hb dL_law_699 (by decide) ?_
  refine lv_iadd hx hb dL_law_700 ?_
  refine va_sld hx hb hX hbl hbA hS h1 dL_law_701 ?_
  refine lv_aload_n hx hb dL_law_702 rfl (lv_at hl 0 rfl) ?_
  refine lv_iload_n hx hb dL_law_703 rfl (lv_at hl 3 rfl) ?_
  refine lv_iconst (v := 2) hx hb dL_law_704 (by decide) ?_
  refine lv_iadd hx hb dL_law_705 ?_
  refine va_sld hx hb hX hbl hbA hS h2 dL_law_706 ?_
  obtain ⟨r, mX2, mM2, hFX, hFM, hR2⟩ := sim_limit hR ht (xs (i + 1).toNatClampNeg) (xs (i + 2).toNatClampNeg)
  refine law_X C hPX hPM hS pkX8_limit (As := [.int (xs (i + 1).toNatClampNeg), .int (xs (i + 2).toNatClampNeg)]) (rest := []) (kX8_limit l g adX tk mX (xs (i + 1).toNatClampNeg) (xs (i + 2).toNatClampNeg) r mX2 hFX) mL_L_89 ⟨rfl, rfl, Nat.le_of_ble_eq_true rfl, Nat.le_of_ble_eq_true rfl⟩ rfl hl.1 rfl (Nat.le_of_ble_eq_true rfl) dL_law_707 (fun H locs hPX hPM hS => ?_)
  refine lv_aload_n hx hb dL_law_710 rfl (lv_at hl 2 rfl) ?_
  refine lv_aload_n hx hb dL_law_711 rfl (lv_at hl 0 rfl) ?_
  refine lv_iload_n hx hb dL_law_712 rfl (lv_at hl 3 rfl) ?_
  refine lv_iconst (v := 1) hx hb dL_law_713 (by decide) ?_
  refine lv_iadd hx hb dL_law_714 ?_
  refine va_sld hx hb hX hbl hbA hS h1 dL_law_715 ?_
  refine lv_aload_n hx hb dL_law_716 rfl (lv_at hl 0 rfl) ?_
  refine lv_iload_n hx hb dL_law_717 rfl (lv_at hl 3 rfl) ?_
  refine lv_iconst (v := 2) hx hb dL_law_718 (by decide) ?_
  refine lv_iadd hx hb dL_law_719 ?_
  refine va_sld hx hb hX hbl hbA hS h2 dL_law_720 ?_
  refine law_M C hPX hPM hS pkX9_limit (As := [.int (xs (i + 1).toNatClampNeg), .int (xs (i + 2).toNatClampNeg)]) (rest := [.int r]) (kX9_limit l g adM mM (xs (i + 1).toNatClampNeg) (xs (i + 2).toNatClampNeg) r mM2 hFM) mL_L_92 ⟨rfl, rfl, Nat.le_of_ble_eq_true rfl, Nat.le_of_ble_eq_true rfl⟩ rfl hl.1 rfl (Nat.le_of_ble_eq_true rfl) dL_law_721 (fun H locs hPX hPM hS => ?_)
  refine lv_icmp_eq (tgt := 1220) hx hb dL_law_724 (by decide) (fun _ => ?_) (fun cc => absurd rfl cc)
  exact hk _ _ _ _ ls hR2 hPX hPM hS hl
set_option maxHeartbeats 4000000 in
set_option maxRecDepth 100000 in
theorem lawc_19 {p : Program} {l : Launch} {e : Env} {s : State} {m : MethodId} {below : List Frame} {meth : Method} {c : Code} {g : gG} {adX adM : Nat → Nat} {tk b L : Nat} {xs : Nat → Int32} (C : lawC g adX adM tk b L xs p s m meth c) {t : Nat} (ht : t < 512) {mX mM : Mem} (hR : Rel t mX mM) {i : Int32} (h1 : vp_in (i + 1) L) (h2 : vp_in (i + 2) L) (h3 : vp_in (i + 3) L) (h4 : vp_in (i + 4) L) (h5 : vp_in (i + 5) L)
    (hk : ∀ (mX mM : Mem) (H : Heap) (locs : List Loc) (ls : Array Slot), Rel (t + 1) mX mM → va_P g.1 vwCl (wX g adX mX) H → va_P g.1 vwCl (wM g adM mM) H → va_S (fun q : Nat => s.heap.size ≤ q) s.heap H locs → lv_has ls 4 [(0, .ref b), (1, .ref (adX 0)), (2, .ref (adM 0)), (3, .int i)] → W p l e room_1 s m #[Value.ref b] below meth c H locs 600000 7302250 (lw_Z below #[Value.ref b] s) (F0 m 1220 ls []))
    (H : Heap) (locs : List Loc) (ls : Array Slot) (hPX : va_P g.1 vwCl (wX g adX mX) H) (hPM : va_P g.1 vwCl (wM g adM mM) H) (hS : va_S (fun q : Nat => s.heap.size ≤ q) s.heap H locs) (hl : lv_has ls 4 [(0, .ref b), (1, .ref (adX 0)), (2, .ref (adM 0)), (3, .int i)]) : W p l e room_1 s m #[Value.ref b] below meth c H locs 600000 7302250 (lw_Z below #[Value.ref b] s) (F0 m 729 ls []) := by
  obtain ⟨⟨hx, hb, hml, hown, hts, hr, hlk, -⟩, hX, hbl, -⟩ := id C
  have hbA : ¬ (fun q : Nat => s.heap.size ≤ q) b := Nat.not_le.mpr hbl
  refine lv_aload_n hx hb dL_law_729 rfl (lv_at hl 1 rfl) ?_
  obtain ⟨r, mX2, mM2, hFX, hFM, hR2⟩ := sim_vote hR ht
  refine law_X C hPX hPM hS pkX8_vote (As := []) (rest := []) (kX8_vote l g adX tk mX r mX2 hFX) mL_L_93 ⟨rfl, rfl, Nat.le_of_ble_eq_true rfl, Nat.le_of_ble_eq_true rfl⟩ rfl hl.1 rfl (Nat.le_of_ble_eq_true rfl) dL_law_730 (fun H locs hPX hPM hS => ?_)
  refine lv_aload_n hx hb dL_law_733 rfl (lv_at hl 2 rfl) ?_
  refine law_M C hPX hPM hS pkX9_vote (As := []) (rest := [.int r]) (kX9_vote l g adM mM r mM2 hFM) mL_L_96 ⟨rfl, rfl, Nat.le_of_ble_eq_true rfl, Nat.le_of_ble_eq_true rfl⟩ rfl hl.1 rfl (Nat.le_of_ble_eq_true rfl) dL_law_734 (fun H locs hPX hPM hS => ?_)
  refine lv_icmp_eq (tgt := 1220) hx hb dL_law_737 (by decide) (fun _ => ?_) (fun cc => absurd rfl cc)
  exact hk _ _ _ _ ls hR2 hPX hPM hS hl
set_option maxHeartbeats 4000000 in
set_option maxRecDepth 100000 in
theorem lawc_20 {p : Program} {l : Launch} {e : Env} {s : State} {m : MethodId} {below : List Frame} {meth : Method} {c : Code} {g : gG} {adX adM : Nat → Nat} {tk b L : Nat} {xs : Nat → Int32} (C : lawC g adX adM tk b L xs p s m meth c) {t : Nat} (ht : t < 512) {mX mM : Mem} (hR : Rel t mX mM) {i : Int32} (h1 : vp_in (i + 1) L) (h2 : vp_in (i + 2) L) (h3 : vp_in (i + 3) L) (h4 : vp_in (i + 4) L) (h5 : vp_in (i + 5) L)
    (hk : ∀ (mX mM : Mem) (H : Heap) (locs : List Loc) (ls : Array Slot), Rel (t + 1) mX mM → va_P g.1 vwCl (wX g adX mX) H → va_P g.1 vwCl (wM g adM mM) H → va_S (fun q : Nat => s.heap.size ≤ q) s.heap H locs → lv_has ls 4 [(0, .ref b), (1, .ref (adX 0)), (2, .ref (adM 0)), (3, .int i)] → W p l e room_1 s m #[Value.ref b] below meth c H locs 600000 7302250 (lw_Z below #[Value.ref b] s) (F0 m 1220 ls []))
    (H : Heap) (locs : List Loc) (ls : Array Slot) (hPX : va_P g.1 vwCl (wX g adX mX) H) (hPM : va_P g.1 vwCl (wM g adM mM) H) (hS : va_S (fun q : Nat => s.heap.size ≤ q) s.heap H locs) (hl : lv_has ls 4 [(0, .ref b), (1, .ref (adX 0)), (2, .ref (adM 0)), (3, .int i)]) : W p l e room_1 s m #[Value.ref b] below meth c H locs 600000 7302250 (lw_Z below #[Value.ref b] s) (F0 m 742 ls []) := by
  obtain ⟨⟨hx, hb, hml, hown, hts, hr, hlk, -⟩, hX, hbl, -⟩ := id C
  have hbA : ¬ (fun q : Nat => s.heap.size ≤ q) b := Nat.not_le.mpr hbl
  refine lv_aload_n hx hb dL_law_742 rfl (lv_at hl 1 rfl) ?_
  refine lv_aload_n hx hb dL_law_743 rfl (lv_at hl 0 rfl) ?_
  refine lv_iload_n hx hb dL_law_744 rfl (lv_at hl 3 rfl) ?_
  refine lv_iconst (v := 1) hx hb dL_law_745 (by decide) ?_
  refine lv_iadd hx hb dL_law_746 ?_
  refine va_sld hx hb hX hbl hbA hS h1 dL_law_747 ?_
  refine lv_aload_n hx hb dL_law_748 rfl (lv_at hl 0 rfl) ?_
  refine lv_iload_n hx hb dL_law_749 rfl (lv_at hl 3 rfl) ?_
  refine lv_iconst (v := 2) hx hb dL_law_750 (by decide) ?_
  refine lv_iadd hx hb dL_law_751 ?_
  refine va_sld hx hb hX hbl hbA hS h2 dL_law_752 ?_
  obtain ⟨r, mX2, mM2, hFX, hFM, hR2⟩ := sim_say hR ht (xs (i + 1).toNatClampNeg) (xs (i + 2).toNatClampNeg)
  refine law_X C hPX hPM hS pkX8_say (As := [.int (xs (i + 1).toNatClampNeg), .int (xs (i + 2).toNatClampNeg)]) (rest := []) (kX8_say l g adX tk mX (xs (i + 1).toNatClampNeg) (xs (i + 2).toNatClampNeg) r mX2 hFX) mL_L_97 ⟨rfl, rfl, Nat.le_of_ble_eq_true rfl, Nat.le_of_ble_eq_true rfl⟩ rfl hl.1 rfl (Nat.le_of_ble_eq_true rfl) dL_law_753 (fun H locs hPX hPM hS => ?_)
  refine lv_aload_n hx hb dL_law_756 rfl (lv_at hl 2 rfl) ?_
  refine lv_aload_n hx hb dL_law_757 rfl (lv_at hl 0 rfl) ?_
  refine lv_iload_n hx hb dL_law_758 rfl (lv_at hl 3 rfl) ?_
  refine lv_iconst (v := 1) hx hb dL_law_759 (by decide) ?_
  refine lv_iadd hx hb dL_law_760 ?_
  refine va_sld hx hb hX hbl hbA hS h1 dL_law_761 ?_
  refine lv_aload_n hx hb dL_law_762 rfl (lv_at hl 0 rfl) ?_
  refine lv_iload_n hx hb dL_law_763 rfl (lv_at hl 3 rfl) ?_
  refine lv_iconst (v := 2) hx hb dL_law_764 (by decide) ?_
  refine lv_iadd hx hb dL_law_765 ?_
  refine va_sld hx hb hX hbl hbA hS h2 dL_law_766 ?_
  refine law_M C hPX hPM hS pkX9_say (As := [.int (xs (i + 1).toNatClampNeg), .int (xs (i + 2).toNatClampNeg)]) (rest := [.int r]) (kX9_say l g adM mM (xs (i + 1).toNatClampNeg) (xs (i + 2).toNatClampNeg) r mM2 hFM) mL_L_100 ⟨rfl, rfl, Nat.le_of_ble_eq_true rfl, Nat.le_of_ble_eq_true rfl⟩ rfl hl.1 rfl (Nat.le_of_ble_eq_true rfl) dL_law_767 (fun H locs hPX hPM hS => ?_)
  refine lv_icmp_eq (tgt := 1220) hx hb dL_law_770 (by decide) (fun _ => ?_) (fun cc => absurd rfl cc)
  exact hk _ _ _ _ ls hR2 hPX hPM hS hl
set_option maxHeartbeats 4000000 in
set_option maxRecDepth 100000 in
theorem lawc_21 {p : Program} {l : Launch} {e : Env} {s : State} {m : MethodId} {below : List Frame} {meth : Method} {c : Code} {g : gG} {adX adM : Nat → Nat} {tk b L : Nat} {xs : Nat → Int32} (C : lawC g adX adM tk b L xs p s m meth c) {t : Nat} (ht : t < 512) {mX mM : Mem} (hR : Rel t mX mM) {i : Int32} (h1 : vp_in (i + 1) L) (h2 : vp_in (i + 2) L) (h3 : vp_in (i + 3) L) (h4 : vp_in (i + 4) L) (h5 : vp_in (i + 5) L)
    (hk : ∀ (mX mM : Mem) (H : Heap) (locs : List Loc) (ls : Array Slot), Rel (t + 1) mX mM → va_P g.1 vwCl (wX g adX mX) H → va_P g.1 vwCl (wM g adM mM) H → va_S (fun q : Nat => s.heap.size ≤ q) s.heap H locs → lv_has ls 4 [(0, .ref b), (1, .ref (adX 0)), (2, .ref (adM 0)), (3, .int i)] → W p l e room_1 s m #[Value.ref b] below meth c H locs 600000 7302250 (lw_Z below #[Value.ref b] s) (F0 m 1220 ls []))
    (H : Heap) (locs : List Loc) (ls : Array Slot) (hPX : va_P g.1 vwCl (wX g adX mX) H) (hPM : va_P g.1 vwCl (wM g adM mM) H) (hS : va_S (fun q : Nat => s.heap.size ≤ q) s.heap H locs) (hl : lv_has ls 4 [(0, .ref b), (1, .ref (adX 0)), (2, .ref (adM 0)), (3, .int i)]) : W p l e room_1 s m #[Value.ref b] below meth c H locs 600000 7302250 (lw_Z below #[Value.ref b] s) (F0 m 775 ls []) := by
  obtain ⟨⟨hx, hb, hml, hown, hts, hr, hlk, -⟩, hX, hbl, -⟩ := id C
  have hbA : ¬ (fun q : Nat => s.heap.size ≤ q) b := Nat.not_le.mpr hbl
  refine lv_aload_n hx hb dL_law_775 rfl (lv_at hl 1 rfl) ?_
  refine lv_aload_n hx hb dL_law_776 rfl (lv_at hl 0 rfl) ?_
  refine lv_iload_n hx hb dL_law_777 rfl (lv_at hl 3 rfl) ?_
  refine lv_iconst (v := 1) hx hb dL_law_778 (by decide) ?_
  refine lv_iadd hx hb dL_law_779 ?_
  refine va_sld hx hb hX hbl hbA hS h1 dL_law_780 ?_
  obtain ⟨r, mX2, mM2, hFX, hFM, hR2⟩ := sim_votes hR ht (xs (i + 1).toNatClampNeg)
  refine law_X C hPX hPM hS pkX8_votes (As := [.int (xs (i + 1).toNatClampNeg)]) (rest := []) (kX8_votes l g adX tk mX (xs (i + 1).toNatClampNeg) r mX2 hFX) mL_L_101 ⟨rfl, rfl, Nat.le_of_ble_eq_true rfl, Nat.le_of_ble_eq_true rfl⟩ rfl hl.1 rfl (Nat.le_of_ble_eq_true rfl) dL_law_781 (fun H locs hPX hPM hS => ?_)
  refine lv_aload_n hx hb dL_law_784 rfl (lv_at hl 2 rfl) ?_
  refine lv_aload_n hx hb dL_law_785 rfl (lv_at hl 0 rfl) ?_
  refine lv_iload_n hx hb dL_law_786 rfl (lv_at hl 3 rfl) ?_
  refine lv_iconst (v := 1) hx hb dL_law_787 (by decide) ?_
  refine lv_iadd hx hb dL_law_788 ?_
  refine va_sld hx hb hX hbl hbA hS h1 dL_law_789 ?_
  refine law_M C hPX hPM hS pkX9_votes (As := [.int (xs (i + 1).toNatClampNeg)]) (rest := [.int r]) (kX9_votes l g adM mM (xs (i + 1).toNatClampNeg) r mM2 hFM) mL_L_104 ⟨rfl, rfl, Nat.le_of_ble_eq_true rfl, Nat.le_of_ble_eq_true rfl⟩ rfl hl.1 rfl (Nat.le_of_ble_eq_true rfl) dL_law_790 (fun H locs hPX hPM hS => ?_)
  refine lv_icmp_eq (tgt := 1220) hx hb dL_law_793 (by decide) (fun _ => ?_) (fun cc => absurd rfl cc)
  exact hk _ _ _ _ ls hR2 hPX hPM hS hl
set_option maxHeartbeats 4000000 in
set_option maxRecDepth 100000 in
theorem lawc_22 {p : Program} {l : Launch} {e : Env} {s : State} {m : MethodId} {below : List Frame} {meth : Method} {c : Code} {g : gG} {adX adM : Nat → Nat} {tk b L : Nat} {xs : Nat → Int32} (C : lawC g adX adM tk b L xs p s m meth c) {t : Nat} (ht : t < 512) {mX mM : Mem} (hR : Rel t mX mM) {i : Int32} (h1 : vp_in (i + 1) L) (h2 : vp_in (i + 2) L) (h3 : vp_in (i + 3) L) (h4 : vp_in (i + 4) L) (h5 : vp_in (i + 5) L)
    (hk : ∀ (mX mM : Mem) (H : Heap) (locs : List Loc) (ls : Array Slot), Rel (t + 1) mX mM → va_P g.1 vwCl (wX g adX mX) H → va_P g.1 vwCl (wM g adM mM) H → va_S (fun q : Nat => s.heap.size ≤ q) s.heap H locs → lv_has ls 4 [(0, .ref b), (1, .ref (adX 0)), (2, .ref (adM 0)), (3, .int i)] → W p l e room_1 s m #[Value.ref b] below meth c H locs 600000 7302250 (lw_Z below #[Value.ref b] s) (F0 m 1220 ls []))
    (H : Heap) (locs : List Loc) (ls : Array Slot) (hPX : va_P g.1 vwCl (wX g adX mX) H) (hPM : va_P g.1 vwCl (wM g adM mM) H) (hS : va_S (fun q : Nat => s.heap.size ≤ q) s.heap H locs) (hl : lv_has ls 4 [(0, .ref b), (1, .ref (adX 0)), (2, .ref (adM 0)), (3, .int i)]) : W p l e room_1 s m #[Value.ref b] below meth c H locs 600000 7302250 (lw_Z below #[Value.ref b] s) (F0 m 798 ls []) := by
  obtain ⟨⟨hx, hb, hml, hown, hts, hr, hlk, -⟩, hX, hbl, -⟩ := id C
  have hbA : ¬ (fun q : Nat => s.heap.size ≤ q) b := Nat.not_le.mpr hbl
  refine lv_aload_n hx hb dL_law_798 rfl (lv_at hl 1 rfl) ?_
  refine lv_aload_n hx hb dL_law_799 rfl (lv_at hl 0 rfl) ?_
  refine lv_iload_n hx hb dL_law_800 rfl (lv_at hl 3 rfl) ?_
  refine lv_iconst (v := 1) hx hb dL_law_801 (by decide) ?_
  refine lv_iadd hx hb dL_law_802 ?_
  refine va_sld hx hb hX hbl hbA hS h1 dL_law_803 ?_
  obtain ⟨r, mX2, mM2, hFX, hFM, hR2⟩ := sim_close hR ht (xs (i + 1).toNatClampNeg)
  refine law_X C hPX hPM hS pkX8_close (As := [.int (xs (i + 1).toNatClampNeg)]) (rest := []) (kX8_close l g adX tk mX (xs (i + 1).toNatClampNeg) r mX2 hFX) mL_L_105 ⟨rfl, rfl, Nat.le_of_ble_eq_true rfl, Nat.le_of_ble_eq_true rfl⟩ rfl hl.1 rfl (Nat.le_of_ble_eq_true rfl) dL_law_804 (fun H locs hPX hPM hS => ?_)
  refine lv_aload_n hx hb dL_law_807 rfl (lv_at hl 2 rfl) ?_
  refine lv_aload_n hx hb dL_law_808 rfl (lv_at hl 0 rfl) ?_
  refine lv_iload_n hx hb dL_law_809 rfl (lv_at hl 3 rfl) ?_
  refine lv_iconst (v := 1) hx hb dL_law_810 (by decide) ?_
  refine lv_iadd hx hb dL_law_811 ?_
  refine va_sld hx hb hX hbl hbA hS h1 dL_law_812 ?_
  refine law_M C hPX hPM hS pkX9_close (As := [.int (xs (i + 1).toNatClampNeg)]) (rest := [.int r]) (kX9_close l g adM mM (xs (i + 1).toNatClampNeg) r mM2 hFM) mL_L_108 ⟨rfl, rfl, Nat.le_of_ble_eq_true rfl, Nat.le_of_ble_eq_true rfl⟩ rfl hl.1 rfl (Nat.le_of_ble_eq_true rfl) dL_law_813 (fun H locs hPX hPM hS => ?_)
  refine lv_icmp_eq (tgt := 1220) hx hb dL_law_816 (by decide) (fun _ => ?_) (fun cc => absurd rfl cc)
  exact hk _ _ _ _ ls hR2 hPX hPM hS hl
set_option maxHeartbeats 4000000 in
set_option maxRecDepth 100000 in
theorem lawc_23 {p : Program} {l : Launch} {e : Env} {s : State} {m : MethodId} {below : List Frame} {meth : Method} {c : Code} {g : gG} {adX adM : Nat → Nat} {tk b L : Nat} {xs : Nat → Int32} (C : lawC g adX adM tk b L xs p s m meth c) {t : Nat} (ht : t < 512) {mX mM : Mem} (hR : Rel t mX mM) {i : Int32} (h1 : vp_in (i + 1) L) (h2 : vp_in (i + 2) L) (h3 : vp_in (i + 3) L) (h4 : vp_in (i + 4) L) (h5 : vp_in (i + 5) L)
    (hk : ∀ (mX mM : Mem) (H : Heap) (locs : List Loc) (ls : Array Slot), Rel (t + 1) mX mM → va_P g.1 vwCl (wX g adX mX) H → va_P g.1 vwCl (wM g adM mM) H → va_S (fun q : Nat => s.heap.size ≤ q) s.heap H locs → lv_has ls 4 [(0, .ref b), (1, .ref (adX 0)), (2, .ref (adM 0)), (3, .int i)] → W p l e room_1 s m #[Value.ref b] below meth c H locs 600000 7302250 (lw_Z below #[Value.ref b] s) (F0 m 1220 ls []))
    (H : Heap) (locs : List Loc) (ls : Array Slot) (hPX : va_P g.1 vwCl (wX g adX mX) H) (hPM : va_P g.1 vwCl (wM g adM mM) H) (hS : va_S (fun q : Nat => s.heap.size ≤ q) s.heap H locs) (hl : lv_has ls 4 [(0, .ref b), (1, .ref (adX 0)), (2, .ref (adM 0)), (3, .int i)]) : W p l e room_1 s m #[Value.ref b] below meth c H locs 600000 7302250 (lw_Z below #[Value.ref b] s) (F0 m 821 ls []) := by
  obtain ⟨⟨hx, hb, hml, hown, hts, hr, hlk, -⟩, hX, hbl, -⟩ := id C
  have hbA : ¬ (fun q : Nat => s.heap.size ≤ q) b := Nat.not_le.mpr hbl
  refine lv_aload_n hx hb dL_law_821 rfl (lv_at hl 1 rfl) ?_
  refine lv_aload_n hx hb dL_law_822 rfl (lv_at hl 0 rfl) ?_
  refine lv_iload_n hx hb dL_law_823 rfl (lv_at hl 3 rfl) ?_
  refine lv_iconst (v := 1) hx hb dL_law_824 (by decide) ?_
  refine lv_iadd hx hb dL_law_825 ?_
  refine va_sld hx hb hX hbl hbA hS h1 dL_law_826 ?_
  refine lv_aload_n hx hb dL_law_827 rfl (lv_at hl 0 rfl) ?_
  refine lv_iload_n hx hb dL_law_828 rfl (lv_at hl 3 rfl) ?_
  refine lv_iconst (v := 2) hx hb dL_law_829 (by decide) ?_
  refine lv_iadd hx hb dL_law_830 ?_
  refine va_sld hx hb hX hbl hbA hS h2 dL_law_831 ?_
  refine lv_aload_n hx hb dL_law_832 rfl (lv_at hl 0 rfl) ?_
  refine lv_iload_n hx hb dL_law_833 rfl (lv_at hl 3 rfl) ?_
  refine lv_iconst (v := 3) hx hb dL_law_834 (by decide) ?_
  refine lv_iadd hx hb dL_law_835 ?_
  refine va_sld hx hb hX hbl hbA hS h3 dL_law_836 ?_
  refine lv_aload_n hx hb dL_law_837 rfl (lv_at hl 0 rfl) ?_
  refine lv_iload_n hx hb dL_law_838 rfl (lv_at hl 3 rfl) ?_
  refine lv_iconst (v := 4) hx hb dL_law_839 (by decide) ?_
  refine lv_iadd hx hb dL_law_840 ?_
  refine va_sld hx hb hX hbl hbA hS h4 dL_law_841 ?_
  obtain ⟨r, mX2, mM2, hFX, hFM, hR2⟩ := sim_hands hR ht (xs (i + 1).toNatClampNeg) (xs (i + 2).toNatClampNeg) (xs (i + 3).toNatClampNeg) (xs (i + 4).toNatClampNeg)
  refine law_X C hPX hPM hS pkX8_hands (As := [.int (xs (i + 1).toNatClampNeg), .int (xs (i + 2).toNatClampNeg), .int (xs (i + 3).toNatClampNeg), .int (xs (i + 4).toNatClampNeg)]) (rest := []) (kX8_hands l g adX tk mX (xs (i + 1).toNatClampNeg) (xs (i + 2).toNatClampNeg) (xs (i + 3).toNatClampNeg) (xs (i + 4).toNatClampNeg) r mX2 hFX) mL_L_109 ⟨rfl, rfl, Nat.le_of_ble_eq_true rfl, Nat.le_of_ble_eq_true rfl⟩ rfl hl.1 rfl (Nat.le_of_ble_eq_true rfl) dL_law_842 (fun H locs hPX hPM hS => ?_)
  refine lv_aload_n hx hb dL_law_845 rfl (lv_at hl 2 rfl) ?_
  refine lv_aload_n hx hb dL_law_846 rfl (lv_at hl 0 rfl) ?_
  refine lv_iload_n hx hb dL_law_847 rfl (lv_at hl 3 rfl) ?_
  refine lv_iconst (v := 1) hx hb dL_law_848 (by decide) ?_
  refine lv_iadd hx hb dL_law_849 ?_
  refine va_sld hx hb hX hbl hbA hS h1 dL_law_850 ?_
  refine lv_aload_n hx hb dL_law_851 rfl (lv_at hl 0 rfl) ?_
  refine lv_iload_n hx hb dL_law_852 rfl (lv_at hl 3 rfl) ?_
  refine lv_iconst (v := 2) hx hb dL_law_853 (by decide) ?_
  refine lv_iadd hx hb dL_law_854 ?_
  refine va_sld hx hb hX hbl hbA hS h2 dL_law_855 ?_
  refine lv_aload_n hx hb dL_law_856 rfl (lv_at hl 0 rfl) ?_
  refine lv_iload_n hx hb dL_law_857 rfl (lv_at hl 3 rfl) ?_
  refine lv_iconst (v := 3) hx hb dL_law_858 (by decide) ?_
  refine lv_iadd hx hb dL_law_859 ?_
  refine va_sld hx hb hX hbl hbA hS h3 dL_law_860 ?_
  refine lv_aload_n hx hb dL_law_861 rfl (lv_at hl 0 rfl) ?_
  refine lv_iload_n hx hb dL_law_862 rfl (lv_at hl 3 rfl) ?_
  refine lv_iconst (v := 4) hx hb dL_law_863 (by decide) ?_
  refine lv_iadd hx hb dL_law_864 ?_
  refine va_sld hx hb hX hbl hbA hS h4 dL_law_865 ?_
  refine law_M C hPX hPM hS pkX9_hands (As := [.int (xs (i + 1).toNatClampNeg), .int (xs (i + 2).toNatClampNeg), .int (xs (i + 3).toNatClampNeg), .int (xs (i + 4).toNatClampNeg)]) (rest := [.int r]) (kX9_hands l g adM mM (xs (i + 1).toNatClampNeg) (xs (i + 2).toNatClampNeg) (xs (i + 3).toNatClampNeg) (xs (i + 4).toNatClampNeg) r mM2 hFM) mL_L_113 ⟨rfl, rfl, Nat.le_of_ble_eq_true rfl, Nat.le_of_ble_eq_true rfl⟩ rfl hl.1 rfl (Nat.le_of_ble_eq_true rfl) dL_law_866 (fun H locs hPX hPM hS => ?_)
  refine lv_icmp_eq (tgt := 1220) hx hb dL_law_869 (by decide) (fun _ => ?_) (fun cc => absurd rfl cc)
  exact hk _ _ _ _ ls hR2 hPX hPM hS hl
set_option maxHeartbeats 4000000 in
set_option maxRecDepth 100000 in
theorem lawc_24 {p : Program} {l : Launch} {e : Env} {s : State} {m : MethodId} {below : List Frame} {meth : Method} {c : Code} {g : gG} {adX adM : Nat → Nat} {tk b L : Nat} {xs : Nat → Int32} (C : lawC g adX adM tk b L xs p s m meth c) {t : Nat} (ht : t < 512) {mX mM : Mem} (hR : Rel t mX mM) {i : Int32} (h1 : vp_in (i + 1) L) (h2 : vp_in (i + 2) L) (h3 : vp_in (i + 3) L) (h4 : vp_in (i + 4) L) (h5 : vp_in (i + 5) L)
    (hk : ∀ (mX mM : Mem) (H : Heap) (locs : List Loc) (ls : Array Slot), Rel (t + 1) mX mM → va_P g.1 vwCl (wX g adX mX) H → va_P g.1 vwCl (wM g adM mM) H → va_S (fun q : Nat => s.heap.size ≤ q) s.heap H locs → lv_has ls 4 [(0, .ref b), (1, .ref (adX 0)), (2, .ref (adM 0)), (3, .int i)] → W p l e room_1 s m #[Value.ref b] below meth c H locs 600000 7302250 (lw_Z below #[Value.ref b] s) (F0 m 1220 ls []))
    (H : Heap) (locs : List Loc) (ls : Array Slot) (hPX : va_P g.1 vwCl (wX g adX mX) H) (hPM : va_P g.1 vwCl (wM g adM mM) H) (hS : va_S (fun q : Nat => s.heap.size ≤ q) s.heap H locs) (hl : lv_has ls 4 [(0, .ref b), (1, .ref (adX 0)), (2, .ref (adM 0)), (3, .int i)]) : W p l e room_1 s m #[Value.ref b] below meth c H locs 600000 7302250 (lw_Z below #[Value.ref b] s) (F0 m 874 ls []) := by
  obtain ⟨⟨hx, hb, hml, hown, hts, hr, hlk, -⟩, hX, hbl, -⟩ := id C
  have hbA : ¬ (fun q : Nat => s.heap.size ≤ q) b := Nat.not_le.mpr hbl
  refine lv_aload_n hx hb dL_law_874 rfl (lv_at hl 1 rfl) ?_
  obtain ⟨r, hFX, hFM⟩ := sim_apart hR ht
  refine law_XR C hPX hS pkX8_apart (As := []) (rest := []) (kX8_apart l g adX tk mX r hFX) mL_L_114 ⟨rfl, rfl, Nat.le_of_ble_eq_true rfl, Nat.le_of_ble_eq_true rfl⟩ rfl hl.1 rfl (Nat.le_of_ble_eq_true rfl) dL_law_875 ?_
  refine lv_aload_n hx hb dL_law_878 rfl (lv_at hl 2 rfl) ?_
  refine law_MR C hPM hS pkX9_apart (As := []) (rest := [.int r]) (kX9_apart l g adM mM r hFM) mL_L_117 ⟨rfl, rfl, Nat.le_of_ble_eq_true rfl, Nat.le_of_ble_eq_true rfl⟩ rfl hl.1 rfl (Nat.le_of_ble_eq_true rfl) dL_law_879 ?_
  refine lv_icmp_eq (tgt := 1220) hx hb dL_law_882 (by decide) (fun _ => ?_) (fun cc => absurd rfl cc)
  exact hk _ _ _ _ ls (Rel_mono hR) hPX hPM hS hl
set_option maxHeartbeats 4000000 in
set_option maxRecDepth 100000 in
theorem lawc_25 {p : Program} {l : Launch} {e : Env} {s : State} {m : MethodId} {below : List Frame} {meth : Method} {c : Code} {g : gG} {adX adM : Nat → Nat} {tk b L : Nat} {xs : Nat → Int32} (C : lawC g adX adM tk b L xs p s m meth c) {t : Nat} (ht : t < 512) {mX mM : Mem} (hR : Rel t mX mM) {i : Int32} (h1 : vp_in (i + 1) L) (h2 : vp_in (i + 2) L) (h3 : vp_in (i + 3) L) (h4 : vp_in (i + 4) L) (h5 : vp_in (i + 5) L)
    (hk : ∀ (mX mM : Mem) (H : Heap) (locs : List Loc) (ls : Array Slot), Rel (t + 1) mX mM → va_P g.1 vwCl (wX g adX mX) H → va_P g.1 vwCl (wM g adM mM) H → va_S (fun q : Nat => s.heap.size ≤ q) s.heap H locs → lv_has ls 4 [(0, .ref b), (1, .ref (adX 0)), (2, .ref (adM 0)), (3, .int i)] → W p l e room_1 s m #[Value.ref b] below meth c H locs 600000 7302250 (lw_Z below #[Value.ref b] s) (F0 m 1220 ls []))
    (H : Heap) (locs : List Loc) (ls : Array Slot) (hPX : va_P g.1 vwCl (wX g adX mX) H) (hPM : va_P g.1 vwCl (wM g adM mM) H) (hS : va_S (fun q : Nat => s.heap.size ≤ q) s.heap H locs) (hl : lv_has ls 4 [(0, .ref b), (1, .ref (adX 0)), (2, .ref (adM 0)), (3, .int i)]) : W p l e room_1 s m #[Value.ref b] below meth c H locs 600000 7302250 (lw_Z below #[Value.ref b] s) (F0 m 887 ls []) := by
  obtain ⟨⟨hx, hb, hml, hown, hts, hr, hlk, -⟩, hX, hbl, -⟩ := id C
  have hbA : ¬ (fun q : Nat => s.heap.size ≤ q) b := Nat.not_le.mpr hbl
  refine lv_aload_n hx hb dL_law_887 rfl (lv_at hl 1 rfl) ?_
  refine lv_aload_n hx hb dL_law_888 rfl (lv_at hl 0 rfl) ?_
  refine lv_iload_n hx hb dL_law_889 rfl (lv_at hl 3 rfl) ?_
  refine lv_iconst (v := 1) hx hb dL_law_890 (by decide) ?_
  refine lv_iadd hx hb dL_law_891 ?_
  refine va_sld hx hb hX hbl hbA hS h1 dL_law_892 ?_
  refine lv_if_eq (tgt := 900) hx hb dL_law_893 (by decide) (fun cz => ?_) (fun cz => ?_)
  · refine lv_iconst (v := 0) hx hb dL_law_900 (by decide) ?_
    obtain ⟨r, hFX, hFM⟩ := sim_uneven hR ht 0
    refine law_XR C hPX hS pkX8_uneven (As := [.int 0]) (rest := []) (kX8_uneven l g adX tk mX 0 r hFX) mL_L_118 ⟨rfl, rfl, Nat.le_of_ble_eq_true rfl, Nat.le_of_ble_eq_true rfl⟩ rfl hl.1 rfl (Nat.le_of_ble_eq_true rfl) dL_law_901 ?_
    refine lv_aload_n hx hb dL_law_904 rfl (lv_at hl 2 rfl) ?_
    refine lv_aload_n hx hb dL_law_905 rfl (lv_at hl 0 rfl) ?_
    refine lv_iload_n hx hb dL_law_906 rfl (lv_at hl 3 rfl) ?_
    refine lv_iconst (v := 1) hx hb dL_law_907 (by decide) ?_
    refine lv_iadd hx hb dL_law_908 ?_
    refine va_sld hx hb hX hbl hbA hS h1 dL_law_909 ?_
    refine lv_if_eq (tgt := 917) hx hb dL_law_910 (by decide) (fun _ => ?_) (fun cc => absurd cz cc)
    refine lv_iconst (v := 0) hx hb dL_law_917 (by decide) ?_
    refine law_MR C hPM hS pkX9_uneven (As := [.int 0]) (rest := [.int r]) (kX9_uneven l g adM mM 0 r hFM) mL_L_122 ⟨rfl, rfl, Nat.le_of_ble_eq_true rfl, Nat.le_of_ble_eq_true rfl⟩ rfl hl.1 rfl (Nat.le_of_ble_eq_true rfl) dL_law_918 ?_
    refine lv_icmp_eq (tgt := 1220) hx hb dL_law_921 (by decide) (fun _ => ?_) (fun cc => absurd rfl cc)
    exact hk _ _ _ _ ls (Rel_mono hR) hPX hPM hS hl
  · refine lv_iconst (v := 1) hx hb dL_law_896 (by decide) ?_
    refine lv_goto (tgt := 901) hx hb dL_law_897 (by decide) ?_
    obtain ⟨r, hFX, hFM⟩ := sim_uneven hR ht 1
    refine law_XR C hPX hS pkX8_uneven (As := [.int 1]) (rest := []) (kX8_uneven l g adX tk mX 1 r hFX) mL_L_118 ⟨rfl, rfl, Nat.le_of_ble_eq_true rfl, Nat.le_of_ble_eq_true rfl⟩ rfl hl.1 rfl (Nat.le_of_ble_eq_true rfl) dL_law_901 ?_
    refine lv_aload_n hx hb dL_law_904 rfl (lv_at hl 2 rfl) ?_
    refine lv_aload_n hx hb dL_law_905 rfl (lv_at hl 0 rfl) ?_
    refine lv_iload_n hx hb dL_law_906 rfl (lv_at hl 3 rfl) ?_
    refine lv_iconst (v := 1) hx hb dL_law_907 (by decide) ?_
    refine lv_iadd hx hb dL_law_908 ?_
    refine va_sld hx hb hX hbl hbA hS h1 dL_law_909 ?_
    refine lv_if_eq (tgt := 917) hx hb dL_law_910 (by decide) (fun cc => absurd cc cz) (fun _ => ?_)
    refine lv_iconst (v := 1) hx hb dL_law_913 (by decide) ?_
    refine lv_goto (tgt := 918) hx hb dL_law_914 (by decide) ?_
    refine law_MR C hPM hS pkX9_uneven (As := [.int 1]) (rest := [.int r]) (kX9_uneven l g adM mM 1 r hFM) mL_L_122 ⟨rfl, rfl, Nat.le_of_ble_eq_true rfl, Nat.le_of_ble_eq_true rfl⟩ rfl hl.1 rfl (Nat.le_of_ble_eq_true rfl) dL_law_918 ?_
    refine lv_icmp_eq (tgt := 1220) hx hb dL_law_921 (by decide) (fun _ => ?_) (fun cc => absurd rfl cc)
    exact hk _ _ _ _ ls (Rel_mono hR) hPX hPM hS hl
set_option maxHeartbeats 4000000 in
set_option maxRecDepth 100000 in
theorem lawc_26 {p : Program} {l : Launch} {e : Env} {s : State} {m : MethodId} {below : List Frame} {meth : Method} {c : Code} {g : gG} {adX adM : Nat → Nat} {tk b L : Nat} {xs : Nat → Int32} (C : lawC g adX adM tk b L xs p s m meth c) {t : Nat} (ht : t < 512) {mX mM : Mem} (hR : Rel t mX mM) {i : Int32} (h1 : vp_in (i + 1) L) (h2 : vp_in (i + 2) L) (h3 : vp_in (i + 3) L) (h4 : vp_in (i + 4) L) (h5 : vp_in (i + 5) L)
    (hk : ∀ (mX mM : Mem) (H : Heap) (locs : List Loc) (ls : Array Slot), Rel (t + 1) mX mM → va_P g.1 vwCl (wX g adX mX) H → va_P g.1 vwCl (wM g adM mM) H → va_S (fun q : Nat => s.heap.size ≤ q) s.heap H locs → lv_has ls 4 [(0, .ref b), (1, .ref (adX 0)), (2, .ref (adM 0)), (3, .int i)] → W p l e room_1 s m #[Value.ref b] below meth c H locs 600000 7302250 (lw_Z below #[Value.ref b] s) (F0 m 1220 ls []))
    (H : Heap) (locs : List Loc) (ls : Array Slot) (hPX : va_P g.1 vwCl (wX g adX mX) H) (hPM : va_P g.1 vwCl (wM g adM mM) H) (hS : va_S (fun q : Nat => s.heap.size ≤ q) s.heap H locs) (hl : lv_has ls 4 [(0, .ref b), (1, .ref (adX 0)), (2, .ref (adM 0)), (3, .int i)]) : W p l e room_1 s m #[Value.ref b] below meth c H locs 600000 7302250 (lw_Z below #[Value.ref b] s) (F0 m 926 ls []) := by
  obtain ⟨⟨hx, hb, hml, hown, hts, hr, hlk, -⟩, hX, hbl, -⟩ := id C
  have hbA : ¬ (fun q : Nat => s.heap.size ≤ q) b := Nat.not_le.mpr hbl
  refine lv_aload_n hx hb dL_law_926 rfl (lv_at hl 1 rfl) ?_
  refine lv_aload_n hx hb dL_law_927 rfl (lv_at hl 0 rfl) ?_
  refine lv_iload_n hx hb dL_law_928 rfl (lv_at hl 3 rfl) ?_
  refine lv_iconst (v := 1) hx hb dL_law_929 (by decide) ?_
  refine lv_iadd hx hb dL_law_930 ?_
  refine va_sld hx hb hX hbl hbA hS h1 dL_law_931 ?_
  refine lv_aload_n hx hb dL_law_932 rfl (lv_at hl 0 rfl) ?_
  refine lv_iload_n hx hb dL_law_933 rfl (lv_at hl 3 rfl) ?_
  refine lv_iconst (v := 2) hx hb dL_law_934 (by decide) ?_
  refine lv_iadd hx hb dL_law_935 ?_
  refine va_sld hx hb hX hbl hbA hS h2 dL_law_936 ?_
  obtain ⟨r, mX2, mM2, hFX, hFM, hR2⟩ := sim_minutes hR ht (xs (i + 1).toNatClampNeg) (xs (i + 2).toNatClampNeg)
  refine law_X C hPX hPM hS pkX8_minutes (As := [.int (xs (i + 1).toNatClampNeg), .int (xs (i + 2).toNatClampNeg)]) (rest := []) (kX8_minutes l g adX tk mX (xs (i + 1).toNatClampNeg) (xs (i + 2).toNatClampNeg) r mX2 hFX) mL_L_123 ⟨rfl, rfl, Nat.le_of_ble_eq_true rfl, Nat.le_of_ble_eq_true rfl⟩ rfl hl.1 rfl (Nat.le_of_ble_eq_true rfl) dL_law_937 (fun H locs hPX hPM hS => ?_)
  refine lv_aload_n hx hb dL_law_940 rfl (lv_at hl 2 rfl) ?_
  refine lv_aload_n hx hb dL_law_941 rfl (lv_at hl 0 rfl) ?_
  refine lv_iload_n hx hb dL_law_942 rfl (lv_at hl 3 rfl) ?_
  refine lv_iconst (v := 1) hx hb dL_law_943 (by decide) ?_
  refine lv_iadd hx hb dL_law_944 ?_
  refine va_sld hx hb hX hbl hbA hS h1 dL_law_945 ?_
  refine lv_aload_n hx hb dL_law_946 rfl (lv_at hl 0 rfl) ?_
  refine lv_iload_n hx hb dL_law_947 rfl (lv_at hl 3 rfl) ?_
  refine lv_iconst (v := 2) hx hb dL_law_948 (by decide) ?_
  refine lv_iadd hx hb dL_law_949 ?_
  refine va_sld hx hb hX hbl hbA hS h2 dL_law_950 ?_
  refine law_M C hPX hPM hS pkX9_minutes (As := [.int (xs (i + 1).toNatClampNeg), .int (xs (i + 2).toNatClampNeg)]) (rest := [.int r]) (kX9_minutes l g adM mM (xs (i + 1).toNatClampNeg) (xs (i + 2).toNatClampNeg) r mM2 hFM) mL_L_126 ⟨rfl, rfl, Nat.le_of_ble_eq_true rfl, Nat.le_of_ble_eq_true rfl⟩ rfl hl.1 rfl (Nat.le_of_ble_eq_true rfl) dL_law_951 (fun H locs hPX hPM hS => ?_)
  refine lv_icmp_eq (tgt := 1220) hx hb dL_law_954 (by decide) (fun _ => ?_) (fun cc => absurd rfl cc)
  exact hk _ _ _ _ ls hR2 hPX hPM hS hl
set_option maxHeartbeats 4000000 in
set_option maxRecDepth 100000 in
theorem lawc_27 {p : Program} {l : Launch} {e : Env} {s : State} {m : MethodId} {below : List Frame} {meth : Method} {c : Code} {g : gG} {adX adM : Nat → Nat} {tk b L : Nat} {xs : Nat → Int32} (C : lawC g adX adM tk b L xs p s m meth c) {t : Nat} (ht : t < 512) {mX mM : Mem} (hR : Rel t mX mM) {i : Int32} (h1 : vp_in (i + 1) L) (h2 : vp_in (i + 2) L) (h3 : vp_in (i + 3) L) (h4 : vp_in (i + 4) L) (h5 : vp_in (i + 5) L)
    (hk : ∀ (mX mM : Mem) (H : Heap) (locs : List Loc) (ls : Array Slot), Rel (t + 1) mX mM → va_P g.1 vwCl (wX g adX mX) H → va_P g.1 vwCl (wM g adM mM) H → va_S (fun q : Nat => s.heap.size ≤ q) s.heap H locs → lv_has ls 4 [(0, .ref b), (1, .ref (adX 0)), (2, .ref (adM 0)), (3, .int i)] → W p l e room_1 s m #[Value.ref b] below meth c H locs 600000 7302250 (lw_Z below #[Value.ref b] s) (F0 m 1220 ls []))
    (H : Heap) (locs : List Loc) (ls : Array Slot) (hPX : va_P g.1 vwCl (wX g adX mX) H) (hPM : va_P g.1 vwCl (wM g adM mM) H) (hS : va_S (fun q : Nat => s.heap.size ≤ q) s.heap H locs) (hl : lv_has ls 4 [(0, .ref b), (1, .ref (adX 0)), (2, .ref (adM 0)), (3, .int i)]) : W p l e room_1 s m #[Value.ref b] below meth c H locs 600000 7302250 (lw_Z below #[Value.ref b] s) (F0 m 959 ls []) := by
  obtain ⟨⟨hx, hb, hml, hown, hts, hr, hlk, -⟩, hX, hbl, -⟩ := id C
  have hbA : ¬ (fun q : Nat => s.heap.size ≤ q) b := Nat.not_le.mpr hbl
  refine lv_aload_n hx hb dL_law_959 rfl (lv_at hl 1 rfl) ?_
  refine lv_aload_n hx hb dL_law_960 rfl (lv_at hl 0 rfl) ?_
  refine lv_iload_n hx hb dL_law_961 rfl (lv_at hl 3 rfl) ?_
  refine lv_iconst (v := 1) hx hb dL_law_962 (by decide) ?_
  refine lv_iadd hx hb dL_law_963 ?_
  refine va_sld hx hb hX hbl hbA hS h1 dL_law_964 ?_
  refine lv_aload_n hx hb dL_law_965 rfl (lv_at hl 0 rfl) ?_
  refine lv_iload_n hx hb dL_law_966 rfl (lv_at hl 3 rfl) ?_
  refine lv_iconst (v := 2) hx hb dL_law_967 (by decide) ?_
  refine lv_iadd hx hb dL_law_968 ?_
  refine va_sld hx hb hX hbl hbA hS h2 dL_law_969 ?_
  obtain ⟨r, mX2, mM2, hFX, hFM, hR2⟩ := sim_right hR ht (xs (i + 1).toNatClampNeg) (xs (i + 2).toNatClampNeg)
  refine law_X C hPX hPM hS pkX8_right (As := [.int (xs (i + 1).toNatClampNeg), .int (xs (i + 2).toNatClampNeg)]) (rest := []) (kX8_right l g adX tk mX (xs (i + 1).toNatClampNeg) (xs (i + 2).toNatClampNeg) r mX2 hFX) mL_L_127 ⟨rfl, rfl, Nat.le_of_ble_eq_true rfl, Nat.le_of_ble_eq_true rfl⟩ rfl hl.1 rfl (Nat.le_of_ble_eq_true rfl) dL_law_970 (fun H locs hPX hPM hS => ?_)
  refine lv_aload_n hx hb dL_law_973 rfl (lv_at hl 2 rfl) ?_
  refine lv_aload_n hx hb dL_law_974 rfl (lv_at hl 0 rfl) ?_
  refine lv_iload_n hx hb dL_law_975 rfl (lv_at hl 3 rfl) ?_
  refine lv_iconst (v := 1) hx hb dL_law_976 (by decide) ?_
  refine lv_iadd hx hb dL_law_977 ?_
  refine va_sld hx hb hX hbl hbA hS h1 dL_law_978 ?_
  refine lv_aload_n hx hb dL_law_979 rfl (lv_at hl 0 rfl) ?_
  refine lv_iload_n hx hb dL_law_980 rfl (lv_at hl 3 rfl) ?_
  refine lv_iconst (v := 2) hx hb dL_law_981 (by decide) ?_
  refine lv_iadd hx hb dL_law_982 ?_
  refine va_sld hx hb hX hbl hbA hS h2 dL_law_983 ?_
  refine law_M C hPX hPM hS pkX9_right (As := [.int (xs (i + 1).toNatClampNeg), .int (xs (i + 2).toNatClampNeg)]) (rest := [.int r]) (kX9_right l g adM mM (xs (i + 1).toNatClampNeg) (xs (i + 2).toNatClampNeg) r mM2 hFM) mL_L_130 ⟨rfl, rfl, Nat.le_of_ble_eq_true rfl, Nat.le_of_ble_eq_true rfl⟩ rfl hl.1 rfl (Nat.le_of_ble_eq_true rfl) dL_law_984 (fun H locs hPX hPM hS => ?_)
  refine lv_icmp_eq (tgt := 1220) hx hb dL_law_987 (by decide) (fun _ => ?_) (fun cc => absurd rfl cc)
  exact hk _ _ _ _ ls hR2 hPX hPM hS hl
set_option maxHeartbeats 4000000 in
set_option maxRecDepth 100000 in
theorem lawc_28 {p : Program} {l : Launch} {e : Env} {s : State} {m : MethodId} {below : List Frame} {meth : Method} {c : Code} {g : gG} {adX adM : Nat → Nat} {tk b L : Nat} {xs : Nat → Int32} (C : lawC g adX adM tk b L xs p s m meth c) {t : Nat} (ht : t < 512) {mX mM : Mem} (hR : Rel t mX mM) {i : Int32} (h1 : vp_in (i + 1) L) (h2 : vp_in (i + 2) L) (h3 : vp_in (i + 3) L) (h4 : vp_in (i + 4) L) (h5 : vp_in (i + 5) L)
    (hk : ∀ (mX mM : Mem) (H : Heap) (locs : List Loc) (ls : Array Slot), Rel (t + 1) mX mM → va_P g.1 vwCl (wX g adX mX) H → va_P g.1 vwCl (wM g adM mM) H → va_S (fun q : Nat => s.heap.size ≤ q) s.heap H locs → lv_has ls 4 [(0, .ref b), (1, .ref (adX 0)), (2, .ref (adM 0)), (3, .int i)] → W p l e room_1 s m #[Value.ref b] below meth c H locs 600000 7302250 (lw_Z below #[Value.ref b] s) (F0 m 1220 ls []))
    (H : Heap) (locs : List Loc) (ls : Array Slot) (hPX : va_P g.1 vwCl (wX g adX mX) H) (hPM : va_P g.1 vwCl (wM g adM mM) H) (hS : va_S (fun q : Nat => s.heap.size ≤ q) s.heap H locs) (hl : lv_has ls 4 [(0, .ref b), (1, .ref (adX 0)), (2, .ref (adM 0)), (3, .int i)]) : W p l e room_1 s m #[Value.ref b] below meth c H locs 600000 7302250 (lw_Z below #[Value.ref b] s) (F0 m 992 ls []) := by
  obtain ⟨⟨hx, hb, hml, hown, hts, hr, hlk, -⟩, hX, hbl, -⟩ := id C
  have hbA : ¬ (fun q : Nat => s.heap.size ≤ q) b := Nat.not_le.mpr hbl
  refine lv_aload_n hx hb dL_law_992 rfl (lv_at hl 1 rfl) ?_
  refine lv_aload_n hx hb dL_law_993 rfl (lv_at hl 0 rfl) ?_
  refine lv_iload_n hx hb dL_law_994 rfl (lv_at hl 3 rfl) ?_
  refine lv_iconst (v := 1) hx hb dL_law_995 (by decide) ?_
  refine lv_iadd hx hb dL_law_996 ?_
  refine va_sld hx hb hX hbl hbA hS h1 dL_law_997 ?_
  refine lv_aload_n hx hb dL_law_998 rfl (lv_at hl 0 rfl) ?_
  refine lv_iload_n hx hb dL_law_999 rfl (lv_at hl 3 rfl) ?_
  refine lv_iconst (v := 2) hx hb dL_law_1000 (by decide) ?_
  refine lv_iadd hx hb dL_law_1001 ?_
  refine va_sld hx hb hX hbl hbA hS h2 dL_law_1002 ?_
  obtain ⟨r, mX2, mM2, hFX, hFM, hR2⟩ := sim_sum hR ht (xs (i + 1).toNatClampNeg) (xs (i + 2).toNatClampNeg)
  refine law_X C hPX hPM hS pkX8_sum (As := [.int (xs (i + 1).toNatClampNeg), .int (xs (i + 2).toNatClampNeg)]) (rest := []) (kX8_sum l g adX tk mX (xs (i + 1).toNatClampNeg) (xs (i + 2).toNatClampNeg) r mX2 hFX) mL_L_131 ⟨rfl, rfl, Nat.le_of_ble_eq_true rfl, Nat.le_of_ble_eq_true rfl⟩ rfl hl.1 rfl (Nat.le_of_ble_eq_true rfl) dL_law_1003 (fun H locs hPX hPM hS => ?_)
  refine lv_aload_n hx hb dL_law_1006 rfl (lv_at hl 2 rfl) ?_
  refine lv_aload_n hx hb dL_law_1007 rfl (lv_at hl 0 rfl) ?_
  refine lv_iload_n hx hb dL_law_1008 rfl (lv_at hl 3 rfl) ?_
  refine lv_iconst (v := 1) hx hb dL_law_1009 (by decide) ?_
  refine lv_iadd hx hb dL_law_1010 ?_
  refine va_sld hx hb hX hbl hbA hS h1 dL_law_1011 ?_
  refine lv_aload_n hx hb dL_law_1012 rfl (lv_at hl 0 rfl) ?_
  refine lv_iload_n hx hb dL_law_1013 rfl (lv_at hl 3 rfl) ?_
  refine lv_iconst (v := 2) hx hb dL_law_1014 (by decide) ?_
  refine lv_iadd hx hb dL_law_1015 ?_
  refine va_sld hx hb hX hbl hbA hS h2 dL_law_1016 ?_
  refine law_M C hPX hPM hS pkX9_sum (As := [.int (xs (i + 1).toNatClampNeg), .int (xs (i + 2).toNatClampNeg)]) (rest := [.int r]) (kX9_sum l g adM mM (xs (i + 1).toNatClampNeg) (xs (i + 2).toNatClampNeg) r mM2 hFM) mL_L_134 ⟨rfl, rfl, Nat.le_of_ble_eq_true rfl, Nat.le_of_ble_eq_true rfl⟩ rfl hl.1 rfl (Nat.le_of_ble_eq_true rfl) dL_law_1017 (fun H locs hPX hPM hS => ?_)
  refine lv_icmp_eq (tgt := 1220) hx hb dL_law_1020 (by decide) (fun _ => ?_) (fun cc => absurd rfl cc)
  exact hk _ _ _ _ ls hR2 hPX hPM hS hl
set_option maxHeartbeats 4000000 in
set_option maxRecDepth 100000 in
theorem lawc_29 {p : Program} {l : Launch} {e : Env} {s : State} {m : MethodId} {below : List Frame} {meth : Method} {c : Code} {g : gG} {adX adM : Nat → Nat} {tk b L : Nat} {xs : Nat → Int32} (C : lawC g adX adM tk b L xs p s m meth c) {t : Nat} (ht : t < 512) {mX mM : Mem} (hR : Rel t mX mM) {i : Int32} (h1 : vp_in (i + 1) L) (h2 : vp_in (i + 2) L) (h3 : vp_in (i + 3) L) (h4 : vp_in (i + 4) L) (h5 : vp_in (i + 5) L)
    (hk : ∀ (mX mM : Mem) (H : Heap) (locs : List Loc) (ls : Array Slot), Rel (t + 1) mX mM → va_P g.1 vwCl (wX g adX mX) H → va_P g.1 vwCl (wM g adM mM) H → va_S (fun q : Nat => s.heap.size ≤ q) s.heap H locs → lv_has ls 4 [(0, .ref b), (1, .ref (adX 0)), (2, .ref (adM 0)), (3, .int i)] → W p l e room_1 s m #[Value.ref b] below meth c H locs 600000 7302250 (lw_Z below #[Value.ref b] s) (F0 m 1220 ls []))
    (H : Heap) (locs : List Loc) (ls : Array Slot) (hPX : va_P g.1 vwCl (wX g adX mX) H) (hPM : va_P g.1 vwCl (wM g adM mM) H) (hS : va_S (fun q : Nat => s.heap.size ≤ q) s.heap H locs) (hl : lv_has ls 4 [(0, .ref b), (1, .ref (adX 0)), (2, .ref (adM 0)), (3, .int i)]) : W p l e room_1 s m #[Value.ref b] below meth c H locs 600000 7302250 (lw_Z below #[Value.ref b] s) (F0 m 1025 ls []) := by
  obtain ⟨⟨hx, hb, hml, hown, hts, hr, hlk, -⟩, hX, hbl, -⟩ := id C
  have hbA : ¬ (fun q : Nat => s.heap.size ≤ q) b := Nat.not_le.mpr hbl
  refine lv_aload_n hx hb dL_law_1025 rfl (lv_at hl 1 rfl) ?_
  refine lv_aload_n hx hb dL_law_1026 rfl (lv_at hl 0 rfl) ?_
  refine lv_iload_n hx hb dL_law_1027 rfl (lv_at hl 3 rfl) ?_
  refine lv_iconst (v := 1) hx hb dL_law_1028 (by decide) ?_
  refine lv_iadd hx hb dL_law_1029 ?_
  refine va_sld hx hb hX hbl hbA hS h1 dL_law_1030 ?_
  refine lv_aload_n hx hb dL_law_1031 rfl (lv_at hl 0 rfl) ?_
  refine lv_iload_n hx hb dL_law_1032 rfl (lv_at hl 3 rfl) ?_
  refine lv_iconst (v := 2) hx hb dL_law_1033 (by decide) ?_
  refine lv_iadd hx hb dL_law_1034 ?_
  refine va_sld hx hb hX hbl hbA hS h2 dL_law_1035 ?_
  refine lv_aload_n hx hb dL_law_1036 rfl (lv_at hl 0 rfl) ?_
  refine lv_iload_n hx hb dL_law_1037 rfl (lv_at hl 3 rfl) ?_
  refine lv_iconst (v := 3) hx hb dL_law_1038 (by decide) ?_
  refine lv_iadd hx hb dL_law_1039 ?_
  refine va_sld hx hb hX hbl hbA hS h3 dL_law_1040 ?_
  obtain ⟨r, mX2, mM2, hFX, hFM, hR2⟩ := sim_sheet hR ht (xs (i + 1).toNatClampNeg) (xs (i + 2).toNatClampNeg) (xs (i + 3).toNatClampNeg)
  refine law_X C hPX hPM hS pkX8_sheet (As := [.int (xs (i + 1).toNatClampNeg), .int (xs (i + 2).toNatClampNeg), .int (xs (i + 3).toNatClampNeg)]) (rest := []) (kX8_sheet l g adX tk mX (xs (i + 1).toNatClampNeg) (xs (i + 2).toNatClampNeg) (xs (i + 3).toNatClampNeg) r mX2 hFX) mL_L_135 ⟨rfl, rfl, Nat.le_of_ble_eq_true rfl, Nat.le_of_ble_eq_true rfl⟩ rfl hl.1 rfl (Nat.le_of_ble_eq_true rfl) dL_law_1041 (fun H locs hPX hPM hS => ?_)
  refine lv_aload_n hx hb dL_law_1044 rfl (lv_at hl 2 rfl) ?_
  refine lv_aload_n hx hb dL_law_1045 rfl (lv_at hl 0 rfl) ?_
  refine lv_iload_n hx hb dL_law_1046 rfl (lv_at hl 3 rfl) ?_
  refine lv_iconst (v := 1) hx hb dL_law_1047 (by decide) ?_
  refine lv_iadd hx hb dL_law_1048 ?_
  refine va_sld hx hb hX hbl hbA hS h1 dL_law_1049 ?_
  refine lv_aload_n hx hb dL_law_1050 rfl (lv_at hl 0 rfl) ?_
  refine lv_iload_n hx hb dL_law_1051 rfl (lv_at hl 3 rfl) ?_
  refine lv_iconst (v := 2) hx hb dL_law_1052 (by decide) ?_
  refine lv_iadd hx hb dL_law_1053 ?_
  refine va_sld hx hb hX hbl hbA hS h2 dL_law_1054 ?_
  refine lv_aload_n hx hb dL_law_1055 rfl (lv_at hl 0 rfl) ?_
  refine lv_iload_n hx hb dL_law_1056 rfl (lv_at hl 3 rfl) ?_
  refine lv_iconst (v := 3) hx hb dL_law_1057 (by decide) ?_
  refine lv_iadd hx hb dL_law_1058 ?_
  refine va_sld hx hb hX hbl hbA hS h3 dL_law_1059 ?_
  refine law_M C hPX hPM hS pkX9_sheet (As := [.int (xs (i + 1).toNatClampNeg), .int (xs (i + 2).toNatClampNeg), .int (xs (i + 3).toNatClampNeg)]) (rest := [.int r]) (kX9_sheet l g adM mM (xs (i + 1).toNatClampNeg) (xs (i + 2).toNatClampNeg) (xs (i + 3).toNatClampNeg) r mM2 hFM) mL_L_139 ⟨rfl, rfl, Nat.le_of_ble_eq_true rfl, Nat.le_of_ble_eq_true rfl⟩ rfl hl.1 rfl (Nat.le_of_ble_eq_true rfl) dL_law_1060 (fun H locs hPX hPM hS => ?_)
  refine lv_icmp_eq (tgt := 1220) hx hb dL_law_1063 (by decide) (fun _ => ?_) (fun cc => absurd rfl cc)
  exact hk _ _ _ _ ls hR2 hPX hPM hS hl
set_option maxHeartbeats 4000000 in
set_option maxRecDepth 100000 in
theorem lawc_30 {p : Program} {l : Launch} {e : Env} {s : State} {m : MethodId} {below : List Frame} {meth : Method} {c : Code} {g : gG} {adX adM : Nat → Nat} {tk b L : Nat} {xs : Nat → Int32} (C : lawC g adX adM tk b L xs p s m meth c) {t : Nat} (ht : t < 512) {mX mM : Mem} (hR : Rel t mX mM) {i : Int32} (h1 : vp_in (i + 1) L) (h2 : vp_in (i + 2) L) (h3 : vp_in (i + 3) L) (h4 : vp_in (i + 4) L) (h5 : vp_in (i + 5) L)
    (hk : ∀ (mX mM : Mem) (H : Heap) (locs : List Loc) (ls : Array Slot), Rel (t + 1) mX mM → va_P g.1 vwCl (wX g adX mX) H → va_P g.1 vwCl (wM g adM mM) H → va_S (fun q : Nat => s.heap.size ≤ q) s.heap H locs → lv_has ls 4 [(0, .ref b), (1, .ref (adX 0)), (2, .ref (adM 0)), (3, .int i)] → W p l e room_1 s m #[Value.ref b] below meth c H locs 600000 7302250 (lw_Z below #[Value.ref b] s) (F0 m 1220 ls []))
    (H : Heap) (locs : List Loc) (ls : Array Slot) (hPX : va_P g.1 vwCl (wX g adX mX) H) (hPM : va_P g.1 vwCl (wM g adM mM) H) (hS : va_S (fun q : Nat => s.heap.size ≤ q) s.heap H locs) (hl : lv_has ls 4 [(0, .ref b), (1, .ref (adX 0)), (2, .ref (adM 0)), (3, .int i)]) : W p l e room_1 s m #[Value.ref b] below meth c H locs 600000 7302250 (lw_Z below #[Value.ref b] s) (F0 m 1068 ls []) := by
  obtain ⟨⟨hx, hb, hml, hown, hts, hr, hlk, -⟩, hX, hbl, -⟩ := id C
  have hbA : ¬ (fun q : Nat => s.heap.size ≤ q) b := Nat.not_le.mpr hbl
  refine lv_aload_n hx hb dL_law_1068 rfl (lv_at hl 1 rfl) ?_
  refine lv_aload_n hx hb dL_law_1069 rfl (lv_at hl 0 rfl) ?_
  refine lv_iload_n hx hb dL_law_1070 rfl (lv_at hl 3 rfl) ?_
  refine lv_iconst (v := 1) hx hb dL_law_1071 (by decide) ?_
  refine lv_iadd hx hb dL_law_1072 ?_
  refine va_sld hx hb hX hbl hbA hS h1 dL_law_1073 ?_
  refine lv_aload_n hx hb dL_law_1074 rfl (lv_at hl 0 rfl) ?_
  refine lv_iload_n hx hb dL_law_1075 rfl (lv_at hl 3 rfl) ?_
  refine lv_iconst (v := 2) hx hb dL_law_1076 (by decide) ?_
  refine lv_iadd hx hb dL_law_1077 ?_
  refine va_sld hx hb hX hbl hbA hS h2 dL_law_1078 ?_
  refine lv_aload_n hx hb dL_law_1079 rfl (lv_at hl 0 rfl) ?_
  refine lv_iload_n hx hb dL_law_1080 rfl (lv_at hl 3 rfl) ?_
  refine lv_iconst (v := 3) hx hb dL_law_1081 (by decide) ?_
  refine lv_iadd hx hb dL_law_1082 ?_
  refine va_sld hx hb hX hbl hbA hS h3 dL_law_1083 ?_
  obtain ⟨r, mX2, mM2, hFX, hFM, hR2⟩ := sim_put hR ht (xs (i + 1).toNatClampNeg) (xs (i + 2).toNatClampNeg) (xs (i + 3).toNatClampNeg)
  refine law_X C hPX hPM hS pkX8_put (As := [.int (xs (i + 1).toNatClampNeg), .int (xs (i + 2).toNatClampNeg), .int (xs (i + 3).toNatClampNeg)]) (rest := []) (kX8_put l g adX tk mX (xs (i + 1).toNatClampNeg) (xs (i + 2).toNatClampNeg) (xs (i + 3).toNatClampNeg) r mX2 hFX) mL_L_140 ⟨rfl, rfl, Nat.le_of_ble_eq_true rfl, Nat.le_of_ble_eq_true rfl⟩ rfl hl.1 rfl (Nat.le_of_ble_eq_true rfl) dL_law_1084 (fun H locs hPX hPM hS => ?_)
  refine lv_aload_n hx hb dL_law_1087 rfl (lv_at hl 2 rfl) ?_
  refine lv_aload_n hx hb dL_law_1088 rfl (lv_at hl 0 rfl) ?_
  refine lv_iload_n hx hb dL_law_1089 rfl (lv_at hl 3 rfl) ?_
  refine lv_iconst (v := 1) hx hb dL_law_1090 (by decide) ?_
  refine lv_iadd hx hb dL_law_1091 ?_
  refine va_sld hx hb hX hbl hbA hS h1 dL_law_1092 ?_
  refine lv_aload_n hx hb dL_law_1093 rfl (lv_at hl 0 rfl) ?_
  refine lv_iload_n hx hb dL_law_1094 rfl (lv_at hl 3 rfl) ?_
  refine lv_iconst (v := 2) hx hb dL_law_1095 (by decide) ?_
  refine lv_iadd hx hb dL_law_1096 ?_
  refine va_sld hx hb hX hbl hbA hS h2 dL_law_1097 ?_
  refine lv_aload_n hx hb dL_law_1098 rfl (lv_at hl 0 rfl) ?_
  refine lv_iload_n hx hb dL_law_1099 rfl (lv_at hl 3 rfl) ?_
  refine lv_iconst (v := 3) hx hb dL_law_1100 (by decide) ?_
  refine lv_iadd hx hb dL_law_1101 ?_
  refine va_sld hx hb hX hbl hbA hS h3 dL_law_1102 ?_
  refine law_M C hPX hPM hS pkX9_put (As := [.int (xs (i + 1).toNatClampNeg), .int (xs (i + 2).toNatClampNeg), .int (xs (i + 3).toNatClampNeg)]) (rest := [.int r]) (kX9_put l g adM mM (xs (i + 1).toNatClampNeg) (xs (i + 2).toNatClampNeg) (xs (i + 3).toNatClampNeg) r mM2 hFM) mL_L_143 ⟨rfl, rfl, Nat.le_of_ble_eq_true rfl, Nat.le_of_ble_eq_true rfl⟩ rfl hl.1 rfl (Nat.le_of_ble_eq_true rfl) dL_law_1103 (fun H locs hPX hPM hS => ?_)
  refine lv_icmp_eq (tgt := 1220) hx hb dL_law_1106 (by decide) (fun _ => ?_) (fun cc => absurd rfl cc)
  exact hk _ _ _ _ ls hR2 hPX hPM hS hl
set_option maxHeartbeats 4000000 in
set_option maxRecDepth 100000 in
theorem lawc_31 {p : Program} {l : Launch} {e : Env} {s : State} {m : MethodId} {below : List Frame} {meth : Method} {c : Code} {g : gG} {adX adM : Nat → Nat} {tk b L : Nat} {xs : Nat → Int32} (C : lawC g adX adM tk b L xs p s m meth c) {t : Nat} (ht : t < 512) {mX mM : Mem} (hR : Rel t mX mM) {i : Int32} (h1 : vp_in (i + 1) L) (h2 : vp_in (i + 2) L) (h3 : vp_in (i + 3) L) (h4 : vp_in (i + 4) L) (h5 : vp_in (i + 5) L)
    (hk : ∀ (mX mM : Mem) (H : Heap) (locs : List Loc) (ls : Array Slot), Rel (t + 1) mX mM → va_P g.1 vwCl (wX g adX mX) H → va_P g.1 vwCl (wM g adM mM) H → va_S (fun q : Nat => s.heap.size ≤ q) s.heap H locs → lv_has ls 4 [(0, .ref b), (1, .ref (adX 0)), (2, .ref (adM 0)), (3, .int i)] → W p l e room_1 s m #[Value.ref b] below meth c H locs 600000 7302250 (lw_Z below #[Value.ref b] s) (F0 m 1220 ls []))
    (H : Heap) (locs : List Loc) (ls : Array Slot) (hPX : va_P g.1 vwCl (wX g adX mX) H) (hPM : va_P g.1 vwCl (wM g adM mM) H) (hS : va_S (fun q : Nat => s.heap.size ≤ q) s.heap H locs) (hl : lv_has ls 4 [(0, .ref b), (1, .ref (adX 0)), (2, .ref (adM 0)), (3, .int i)]) : W p l e room_1 s m #[Value.ref b] below meth c H locs 600000 7302250 (lw_Z below #[Value.ref b] s) (F0 m 1111 ls []) := by
  obtain ⟨⟨hx, hb, hml, hown, hts, hr, hlk, -⟩, hX, hbl, -⟩ := id C
  have hbA : ¬ (fun q : Nat => s.heap.size ≤ q) b := Nat.not_le.mpr hbl
  refine lv_aload_n hx hb dL_law_1111 rfl (lv_at hl 1 rfl) ?_
  refine lv_aload_n hx hb dL_law_1112 rfl (lv_at hl 0 rfl) ?_
  refine lv_iload_n hx hb dL_law_1113 rfl (lv_at hl 3 rfl) ?_
  refine lv_iconst (v := 1) hx hb dL_law_1114 (by decide) ?_
  refine lv_iadd hx hb dL_law_1115 ?_
  refine va_sld hx hb hX hbl hbA hS h1 dL_law_1116 ?_
  refine lv_aload_n hx hb dL_law_1117 rfl (lv_at hl 0 rfl) ?_
  refine lv_iload_n hx hb dL_law_1118 rfl (lv_at hl 3 rfl) ?_
  refine lv_iconst (v := 2) hx hb dL_law_1119 (by decide) ?_
  refine lv_iadd hx hb dL_law_1120 ?_
  refine va_sld hx hb hX hbl hbA hS h2 dL_law_1121 ?_
  refine lv_aload_n hx hb dL_law_1122 rfl (lv_at hl 0 rfl) ?_
  refine lv_iload_n hx hb dL_law_1123 rfl (lv_at hl 3 rfl) ?_
  refine lv_iconst (v := 3) hx hb dL_law_1124 (by decide) ?_
  refine lv_iadd hx hb dL_law_1125 ?_
  refine va_sld hx hb hX hbl hbA hS h3 dL_law_1126 ?_
  refine lv_aload_n hx hb dL_law_1127 rfl (lv_at hl 0 rfl) ?_
  refine lv_iload_n hx hb dL_law_1128 rfl (lv_at hl 3 rfl) ?_
  refine lv_iconst (v := 4) hx hb dL_law_1129 (by decide) ?_
  refine lv_iadd hx hb dL_law_1130 ?_
  refine va_sld hx hb hX hbl hbA hS h4 dL_law_1131 ?_
  refine lv_aload_n hx hb dL_law_1132 rfl (lv_at hl 0 rfl) ?_
  refine lv_iload_n hx hb dL_law_1133 rfl (lv_at hl 3 rfl) ?_
  refine lv_iconst (v := 5) hx hb dL_law_1134 (by decide) ?_
  refine lv_iadd hx hb dL_law_1135 ?_
  refine va_sld hx hb hX hbl hbA hS h5 dL_law_1136 ?_
  obtain ⟨r, mX2, mM2, hFX, hFM, hR2⟩ := sim_copy hR ht (xs (i + 1).toNatClampNeg) (xs (i + 2).toNatClampNeg) (xs (i + 3).toNatClampNeg) (xs (i + 4).toNatClampNeg) (xs (i + 5).toNatClampNeg)
  refine law_X C hPX hPM hS pkX8_copy (As := [.int (xs (i + 1).toNatClampNeg), .int (xs (i + 2).toNatClampNeg), .int (xs (i + 3).toNatClampNeg), .int (xs (i + 4).toNatClampNeg), .int (xs (i + 5).toNatClampNeg)]) (rest := []) (kX8_copy l g adX tk mX (xs (i + 1).toNatClampNeg) (xs (i + 2).toNatClampNeg) (xs (i + 3).toNatClampNeg) (xs (i + 4).toNatClampNeg) (xs (i + 5).toNatClampNeg) r mX2 hFX) mL_L_144 ⟨rfl, rfl, Nat.le_of_ble_eq_true rfl, Nat.le_of_ble_eq_true rfl⟩ rfl hl.1 rfl (Nat.le_of_ble_eq_true rfl) dL_law_1137 (fun H locs hPX hPM hS => ?_)
  refine lv_aload_n hx hb dL_law_1140 rfl (lv_at hl 2 rfl) ?_
  refine lv_aload_n hx hb dL_law_1141 rfl (lv_at hl 0 rfl) ?_
  refine lv_iload_n hx hb dL_law_1142 rfl (lv_at hl 3 rfl) ?_
  refine lv_iconst (v := 1) hx hb dL_law_1143 (by decide) ?_
  refine lv_iadd hx hb dL_law_1144 ?_
  refine va_sld hx hb hX hbl hbA hS h1 dL_law_1145 ?_
  refine lv_aload_n hx hb dL_law_1146 rfl (lv_at hl 0 rfl) ?_
  refine lv_iload_n hx hb dL_law_1147 rfl (lv_at hl 3 rfl) ?_
  refine lv_iconst (v := 2) hx hb dL_law_1148 (by decide) ?_
  refine lv_iadd hx hb dL_law_1149 ?_
  refine va_sld hx hb hX hbl hbA hS h2 dL_law_1150 ?_
  refine lv_aload_n hx hb dL_law_1151 rfl (lv_at hl 0 rfl) ?_
  refine lv_iload_n hx hb dL_law_1152 rfl (lv_at hl 3 rfl) ?_
  refine lv_iconst (v := 3) hx hb dL_law_1153 (by decide) ?_
  refine lv_iadd hx hb dL_law_1154 ?_
  refine va_sld hx hb hX hbl hbA hS h3 dL_law_1155 ?_
  refine lv_aload_n hx hb dL_law_1156 rfl (lv_at hl 0 rfl) ?_
  refine lv_iload_n hx hb dL_law_1157 rfl (lv_at hl 3 rfl) ?_
  refine lv_iconst (v := 4) hx hb dL_law_1158 (by decide) ?_
  refine lv_iadd hx hb dL_law_1159 ?_
  refine va_sld hx hb hX hbl hbA hS h4 dL_law_1160 ?_
  refine lv_aload_n hx hb dL_law_1161 rfl (lv_at hl 0 rfl) ?_
  refine lv_iload_n hx hb dL_law_1162 rfl (lv_at hl 3 rfl) ?_
  refine lv_iconst (v := 5) hx hb dL_law_1163 (by decide) ?_
  refine lv_iadd hx hb dL_law_1164 ?_
  refine va_sld hx hb hX hbl hbA hS h5 dL_law_1165 ?_
  refine law_M C hPX hPM hS pkX9_copy (As := [.int (xs (i + 1).toNatClampNeg), .int (xs (i + 2).toNatClampNeg), .int (xs (i + 3).toNatClampNeg), .int (xs (i + 4).toNatClampNeg), .int (xs (i + 5).toNatClampNeg)]) (rest := [.int r]) (kX9_copy l g adM mM (xs (i + 1).toNatClampNeg) (xs (i + 2).toNatClampNeg) (xs (i + 3).toNatClampNeg) (xs (i + 4).toNatClampNeg) (xs (i + 5).toNatClampNeg) r mM2 hFM) mL_L_148 ⟨rfl, rfl, Nat.le_of_ble_eq_true rfl, Nat.le_of_ble_eq_true rfl⟩ rfl hl.1 rfl (Nat.le_of_ble_eq_true rfl) dL_law_1166 (fun H locs hPX hPM hS => ?_)
  refine lv_icmp_eq (tgt := 1220) hx hb dL_law_1169 (by decide) (fun _ => ?_) (fun cc => absurd rfl cc)
  exact hk _ _ _ _ ls hR2 hPX hPM hS hl
set_option maxHeartbeats 4000000 in
set_option maxRecDepth 100000 in
theorem lawc_32 {p : Program} {l : Launch} {e : Env} {s : State} {m : MethodId} {below : List Frame} {meth : Method} {c : Code} {g : gG} {adX adM : Nat → Nat} {tk b L : Nat} {xs : Nat → Int32} (C : lawC g adX adM tk b L xs p s m meth c) {t : Nat} (ht : t < 512) {mX mM : Mem} (hR : Rel t mX mM) {i : Int32} (h1 : vp_in (i + 1) L) (h2 : vp_in (i + 2) L) (h3 : vp_in (i + 3) L) (h4 : vp_in (i + 4) L) (h5 : vp_in (i + 5) L)
    (hk : ∀ (mX mM : Mem) (H : Heap) (locs : List Loc) (ls : Array Slot), Rel (t + 1) mX mM → va_P g.1 vwCl (wX g adX mX) H → va_P g.1 vwCl (wM g adM mM) H → va_S (fun q : Nat => s.heap.size ≤ q) s.heap H locs → lv_has ls 4 [(0, .ref b), (1, .ref (adX 0)), (2, .ref (adM 0)), (3, .int i)] → W p l e room_1 s m #[Value.ref b] below meth c H locs 600000 7302250 (lw_Z below #[Value.ref b] s) (F0 m 1220 ls []))
    (H : Heap) (locs : List Loc) (ls : Array Slot) (hPX : va_P g.1 vwCl (wX g adX mX) H) (hPM : va_P g.1 vwCl (wM g adM mM) H) (hS : va_S (fun q : Nat => s.heap.size ≤ q) s.heap H locs) (hl : lv_has ls 4 [(0, .ref b), (1, .ref (adX 0)), (2, .ref (adM 0)), (3, .int i)]) : W p l e room_1 s m #[Value.ref b] below meth c H locs 600000 7302250 (lw_Z below #[Value.ref b] s) (F0 m 1174 ls []) := by
  obtain ⟨⟨hx, hb, hml, hown, hts, hr, hlk, -⟩, hX, hbl, -⟩ := id C
  have hbA : ¬ (fun q : Nat => s.heap.size ≤ q) b := Nat.not_le.mpr hbl
  refine lv_aload_n hx hb dL_law_1174 rfl (lv_at hl 1 rfl) ?_
  refine lv_aload_n hx hb dL_law_1175 rfl (lv_at hl 0 rfl) ?_
  refine lv_iload_n hx hb dL_law_1176 rfl (lv_at hl 3 rfl) ?_
  refine lv_iconst (v := 1) hx hb dL_law_1177 (by decide) ?_
  refine lv_iadd hx hb dL_law_1178 ?_
  refine va_sld hx hb hX hbl hbA hS h1 dL_law_1179 ?_
  obtain ⟨r, mX2, mM2, hFX, hFM, hR2⟩ := sim_read hR ht (xs (i + 1).toNatClampNeg)
  refine law_X C hPX hPM hS pkX8_read (As := [.int (xs (i + 1).toNatClampNeg)]) (rest := []) (kX8_read l g adX tk mX (xs (i + 1).toNatClampNeg) r mX2 hFX) mL_L_149 ⟨rfl, rfl, Nat.le_of_ble_eq_true rfl, Nat.le_of_ble_eq_true rfl⟩ rfl hl.1 rfl (Nat.le_of_ble_eq_true rfl) dL_law_1180 (fun H locs hPX hPM hS => ?_)
  refine lv_aload_n hx hb dL_law_1183 rfl (lv_at hl 2 rfl) ?_
  refine lv_aload_n hx hb dL_law_1184 rfl (lv_at hl 0 rfl) ?_
  refine lv_iload_n hx hb dL_law_1185 rfl (lv_at hl 3 rfl) ?_
  refine lv_iconst (v := 1) hx hb dL_law_1186 (by decide) ?_
  refine lv_iadd hx hb dL_law_1187 ?_
  refine va_sld hx hb hX hbl hbA hS h1 dL_law_1188 ?_
  refine law_M C hPX hPM hS pkX9_read (As := [.int (xs (i + 1).toNatClampNeg)]) (rest := [.int r]) (kX9_read l g adM mM (xs (i + 1).toNatClampNeg) r mM2 hFM) mL_L_152 ⟨rfl, rfl, Nat.le_of_ble_eq_true rfl, Nat.le_of_ble_eq_true rfl⟩ rfl hl.1 rfl (Nat.le_of_ble_eq_true rfl) dL_law_1189 (fun H locs hPX hPM hS => ?_)
  refine lv_icmp_eq (tgt := 1220) hx hb dL_law_1192 (by decide) (fun _ => ?_) (fun cc => absurd rfl cc)
  exact hk _ _ _ _ ls hR2 hPX hPM hS hl
set_option maxHeartbeats 4000000 in
set_option maxRecDepth 100000 in
theorem lawc_33 {p : Program} {l : Launch} {e : Env} {s : State} {m : MethodId} {below : List Frame} {meth : Method} {c : Code} {g : gG} {adX adM : Nat → Nat} {tk b L : Nat} {xs : Nat → Int32} (C : lawC g adX adM tk b L xs p s m meth c) {t : Nat} (ht : t < 512) {mX mM : Mem} (hR : Rel t mX mM) {i : Int32} (h1 : vp_in (i + 1) L) (h2 : vp_in (i + 2) L) (h3 : vp_in (i + 3) L) (h4 : vp_in (i + 4) L) (h5 : vp_in (i + 5) L)
    (hk : ∀ (mX mM : Mem) (H : Heap) (locs : List Loc) (ls : Array Slot), Rel (t + 1) mX mM → va_P g.1 vwCl (wX g adX mX) H → va_P g.1 vwCl (wM g adM mM) H → va_S (fun q : Nat => s.heap.size ≤ q) s.heap H locs → lv_has ls 4 [(0, .ref b), (1, .ref (adX 0)), (2, .ref (adM 0)), (3, .int i)] → W p l e room_1 s m #[Value.ref b] below meth c H locs 600000 7302250 (lw_Z below #[Value.ref b] s) (F0 m 1220 ls []))
    (H : Heap) (locs : List Loc) (ls : Array Slot) (hPX : va_P g.1 vwCl (wX g adX mX) H) (hPM : va_P g.1 vwCl (wM g adM mM) H) (hS : va_S (fun q : Nat => s.heap.size ≤ q) s.heap H locs) (hl : lv_has ls 4 [(0, .ref b), (1, .ref (adX 0)), (2, .ref (adM 0)), (3, .int i)]) : W p l e room_1 s m #[Value.ref b] below meth c H locs 600000 7302250 (lw_Z below #[Value.ref b] s) (F0 m 1197 ls []) := by
  obtain ⟨⟨hx, hb, hml, hown, hts, hr, hlk, -⟩, hX, hbl, -⟩ := id C
  have hbA : ¬ (fun q : Nat => s.heap.size ≤ q) b := Nat.not_le.mpr hbl
  refine lv_aload_n hx hb dL_law_1197 rfl (lv_at hl 1 rfl) ?_
  refine lv_aload_n hx hb dL_law_1198 rfl (lv_at hl 0 rfl) ?_
  refine lv_iload_n hx hb dL_law_1199 rfl (lv_at hl 3 rfl) ?_
  refine lv_iconst (v := 1) hx hb dL_law_1200 (by decide) ?_
  refine lv_iadd hx hb dL_law_1201 ?_
  refine va_sld hx hb hX hbl hbA hS h1 dL_law_1202 ?_
  obtain ⟨r, mX2, mM2, hFX, hFM, hR2⟩ := sim_told hR ht (xs (i + 1).toNatClampNeg)
  refine law_X C hPX hPM hS pkX8_told (As := [.int (xs (i + 1).toNatClampNeg)]) (rest := []) (kX8_told l g adX tk mX (xs (i + 1).toNatClampNeg) r mX2 hFX) mL_L_153 ⟨rfl, rfl, Nat.le_of_ble_eq_true rfl, Nat.le_of_ble_eq_true rfl⟩ rfl hl.1 rfl (Nat.le_of_ble_eq_true rfl) dL_law_1203 (fun H locs hPX hPM hS => ?_)
  refine lv_aload_n hx hb dL_law_1206 rfl (lv_at hl 2 rfl) ?_
  refine lv_aload_n hx hb dL_law_1207 rfl (lv_at hl 0 rfl) ?_
  refine lv_iload_n hx hb dL_law_1208 rfl (lv_at hl 3 rfl) ?_
  refine lv_iconst (v := 1) hx hb dL_law_1209 (by decide) ?_
  refine lv_iadd hx hb dL_law_1210 ?_
  refine va_sld hx hb hX hbl hbA hS h1 dL_law_1211 ?_
  refine law_M C hPX hPM hS pkX9_told (As := [.int (xs (i + 1).toNatClampNeg)]) (rest := [.int r]) (kX9_told l g adM mM (xs (i + 1).toNatClampNeg) r mM2 hFM) mL_L_156 ⟨rfl, rfl, Nat.le_of_ble_eq_true rfl, Nat.le_of_ble_eq_true rfl⟩ rfl hl.1 rfl (Nat.le_of_ble_eq_true rfl) dL_law_1212 (fun H locs hPX hPM hS => ?_)
  refine lv_icmp_eq (tgt := 1220) hx hb dL_law_1215 (by decide) (fun _ => ?_) (fun cc => absurd rfl cc)
  exact hk _ _ _ _ ls hR2 hPX hPM hS hl
