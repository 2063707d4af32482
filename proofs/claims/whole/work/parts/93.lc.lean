/-! THE LAW: its cases -/
theorem nI_p1 (i : Nat) : nI i + 1 = nI (i + 1) := nI_add i 1
theorem nI_p2 (i : Nat) : nI i + 2 = nI (i + 2) := nI_add i 2
theorem nI_p3 (i : Nat) : nI i + 3 = nI (i + 3) := nI_add i 3
theorem nI_p4 (i : Nat) : nI i + 4 = nI (i + 4) := nI_add i 4
theorem nI_p5 (i : Nat) : nI i + 5 = nI (i + 5) := nI_add i 5
theorem lg_cmp_self (x : Int64) : lg_cmp x x = 0 := (lg_cmp_eq x x).mpr rfl

theorem z_rd1 {E : z_E} {G : z_H} (h : G E.1 = none) (hL : E.2.1 < 2 ^ 31) {i : Nat} (hi : i + 6 ≤ E.2.1) : z_ai E G E.1 (nI i + 1) = some (E.2.2 (i + 1)) := by rw [nI_p1]; exact z_ai_scr h hL (by omega)
theorem z_rd2 {E : z_E} {G : z_H} (h : G E.1 = none) (hL : E.2.1 < 2 ^ 31) {i : Nat} (hi : i + 6 ≤ E.2.1) : z_ai E G E.1 (nI i + 2) = some (E.2.2 (i + 2)) := by rw [nI_p2]; exact z_ai_scr h hL (by omega)
theorem z_rd3 {E : z_E} {G : z_H} (h : G E.1 = none) (hL : E.2.1 < 2 ^ 31) {i : Nat} (hi : i + 6 ≤ E.2.1) : z_ai E G E.1 (nI i + 3) = some (E.2.2 (i + 3)) := by rw [nI_p3]; exact z_ai_scr h hL (by omega)
theorem z_rd4 {E : z_E} {G : z_H} (h : G E.1 = none) (hL : E.2.1 < 2 ^ 31) {i : Nat} (hi : i + 6 ≤ E.2.1) : z_ai E G E.1 (nI i + 4) = some (E.2.2 (i + 4)) := by rw [nI_p4]; exact z_ai_scr h hL (by omega)
theorem z_rd5 {E : z_E} {G : z_H} (h : G E.1 = none) (hL : E.2.1 < 2 ^ 31) {i : Nat} (hi : i + 6 ≤ E.2.1) : z_ai E G E.1 (nI i + 5) = some (E.2.2 (i + 5)) := by rw [nI_p5]; exact z_ai_scr h hL (by omega)
theorem LW.twoN {G G1 G2 : z_H} {x n n' b : Nat} {s u s' u' : Nat → Nat} {ib ib' : Bool} {hs hs' : Nat → Sh} (h : LW G x s ib u hs n b) (hn : n ≤ n') (a2 : XW G1 x s' ib' u' hs' n') (a3 : XF x G G1) (b2 : DW G2 (x + 118) s' ib' u' hs') (b3 : FR (x + 118) 15 G1 G2) (g1 : SG s') (g2 : SG u') (g3 : okH hs') : LW G2 x s' ib' u' hs' n' b := by
  obtain ⟨h1, h2, ⟨g, h3⟩, h4, h5, h6, h7, h8, h9⟩ := h
  exact ⟨a2.same (Nat.le_refl _) fun q hq => b3 q (by omega), b2, ⟨g, by rw [b3 _ (by omega), a3 _ (by omega)]; exact h3⟩, by omega, by rw [b3 _ (by omega), a3 _ (by omega)]; exact h5, h6, g1, g2, g3⟩
/-- a turn of the law goes on -/
def Nx (E : z_E) (lv x i pc n k : Nat) (G : z_H) (l5 l6 l7 : Option Value) : Prop := ∃ n' k' G' s' ib' u' hs' m5 m6 m7, z_ev E i_L_law lv pc [some (.ref E.1), some (.ref x), some (.ref (x + 118)), some (.ref (x + 133)), some (.int (nI i)), l5, l6, l7] [] n k G = z_ev E i_L_law lv 1502 [some (.ref E.1), some (.ref x), some (.ref (x + 118)), some (.ref (x + 133)), some (.int (nI i)), m5, m6, m7] [] n' k' G' ∧ LW G' x s' ib' u' hs' n' E.1 ∧ n ≤ n' ∧ n' ≤ n + 2 ∧ k ≤ k' ∧ k' ≤ k + 108
section
variable {E : z_E} {G : z_H} {x : Nat} {s u : Nat → Nat} {ib : Bool} {hs : Nat → Sh} {n : Nat} (lv k : Nat)
theorem lw_0 (h : LW G x s ib u hs n E.1) (hL : E.2.1 < 2 ^ 31) {i : Nat} (hi : i + 6 ≤ E.2.1) (l5 l6 l7 : Option Value) : Nx E lv x i 208 n k G l5 l6 l7 := by
  unfold Nx
  obtain ⟨hX, hD, -, h134, hb, hlt, gs, gu, hk⟩ := id h
  obtain ⟨G1, x1, x2, x3⟩ := xMarsh (E := E) (lv := 0) (N := n) (k := k) hX gs hk (E.2.2 (i + 1))
  have hD1 := h.d1 x3
  have b1 := h.b1 x3
  obtain ⟨G2, d1, d2, d3⟩ := dMarsh (E := E) (lv := 0) (N := n) (k := k) hD1 gs hk (E.2.2 (i + 1))
  refine ⟨n, k, G2, _, _, _, _, l5, l6, l7, ?_, h.twoN (Nat.le_refl _) x2 x3 d2 d3 (aMarsh_SG gs hk _) (gu) (hk), Nat.le_refl _, by omega, Nat.le_refl _, by omega⟩
  simp only [zr_L_law_208, zr_L_law_209, zr_L_law_209n, zr_L_law_210, zr_L_law_212, zr_L_law_213, zr_L_law_214, zr_L_law_215, zr_L_law_218, zr_L_law_219, zr_L_law_219n, zr_L_law_220, zr_L_law_222, zr_L_law_223, zr_L_law_224, zr_L_law_225, zr_L_law_228, zr_L_law_231, zr_L_law_232, z_rd1 hb hL hi, z_rd1 b1 hL hi, hX.cls, hD1.cls, x1, d1, lg_cmp_self, eq_self, z_obs, z_pu_s, z_pu_n, z00, z10, ↓reduceIte, true_or, or_true, z_b_t, z_b_f]
theorem lw_1 (h : LW G x s ib u hs n E.1) (hL : E.2.1 < 2 ^ 31) {i : Nat} (hi : i + 6 ≤ E.2.1) (l5 l6 l7 : Option Value) : Nx E lv x i 233 n k G l5 l6 l7 := by
  unfold Nx
  obtain ⟨hX, hD, -, h134, hb, hlt, gs, gu, hk⟩ := id h
  have x1 := xBell (E := E) (lv := 0) (N := n) (k := k) hX gs.1 (E.2.2 (i + 1)) (E.2.2 (i + 2))
  have x2 := hX
  have x3 : XF x G G := XF.rf
  have hD1 := h.d1 x3
  have b1 := h.b1 x3
  have d1 := dBell (E := E) (lv := 0) (N := n) (k := k) hD1 gs.1 (E.2.2 (i + 1)) (E.2.2 (i + 2))
  have d2 := hD1
  have d3 : FR (x + 118) 15 G G := FR.rf
  refine ⟨n, k, G, _, _, _, _, l5, l6, l7, ?_, h.twoN (Nat.le_refl _) x2 x3 d2 d3 (gs) (gu) (hk), Nat.le_refl _, by omega, Nat.le_refl _, by omega⟩
  simp only [zr_L_law_233, zr_L_law_234, zr_L_law_234n, zr_L_law_235, zr_L_law_237, zr_L_law_238, zr_L_law_239, zr_L_law_240, zr_L_law_240n, zr_L_law_241, zr_L_law_243, zr_L_law_244, zr_L_law_245, zr_L_law_246, zr_L_law_249, zr_L_law_250, zr_L_law_250n, zr_L_law_251, zr_L_law_253, zr_L_law_254, zr_L_law_255, zr_L_law_256, zr_L_law_256n, zr_L_law_257, zr_L_law_259, zr_L_law_260, zr_L_law_261, zr_L_law_262, zr_L_law_265, zr_L_law_268, zr_L_law_269, z_rd1 hb hL hi, z_rd2 hb hL hi, hX.cls, hD1.cls, x1, d1, lg_cmp_self, eq_self, z_obs, z_pu_s, z_pu_n, z00, z10, ↓reduceIte, true_or, or_true, z_b_t, z_b_f]
theorem lw_2 (h : LW G x s ib u hs n E.1) (hL : E.2.1 < 2 ^ 31) {i : Nat} (hi : i + 6 ≤ E.2.1) (l5 l6 l7 : Option Value) : Nx E lv x i 270 n k G l5 l6 l7 := by
  unfold Nx
  obtain ⟨hX, hD, -, h134, hb, hlt, gs, gu, hk⟩ := id h
  obtain ⟨G1, x1, x2, x3⟩ := xComes (E := E) (lv := 0) (N := n) (k := k) hX gs.1 (E.2.2 (i + 1)) (E.2.2 (i + 2))
  have hD1 := h.d1 x3
  have b1 := h.b1 x3
  obtain ⟨G2, d1, d2, d3⟩ := dComes (E := E) (lv := 0) (N := n) (k := k) hD1 gs.1 (E.2.2 (i + 1)) (E.2.2 (i + 2))
  refine ⟨n, k, G2, _, _, _, _, l5, l6, l7, ?_, h.twoN (Nat.le_refl _) x2 x3 d2 d3 (aComes_SG hD gs _ _) (gu) (hk), Nat.le_refl _, by omega, Nat.le_refl _, by omega⟩
  simp only [zr_L_law_270, zr_L_law_271, zr_L_law_271n, zr_L_law_272, zr_L_law_274, zr_L_law_275, zr_L_law_276, zr_L_law_277, zr_L_law_277n, zr_L_law_278, zr_L_law_280, zr_L_law_281, zr_L_law_282, zr_L_law_283, zr_L_law_286, zr_L_law_287, zr_L_law_287n, zr_L_law_288, zr_L_law_290, zr_L_law_291, zr_L_law_292, zr_L_law_293, zr_L_law_293n, zr_L_law_294, zr_L_law_296, zr_L_law_297, zr_L_law_298, zr_L_law_299, zr_L_law_302, zr_L_law_305, zr_L_law_306, z_rd1 hb hL hi, z_rd2 hb hL hi, z_rd1 b1 hL hi, z_rd2 b1 hL hi, hX.cls, hD1.cls, x1, d1, lg_cmp_self, eq_self, z_obs, z_pu_s, z_pu_n, z00, z10, ↓reduceIte, true_or, or_true, z_b_t, z_b_f]
theorem lw_3 (h : LW G x s ib u hs n E.1) (hL : E.2.1 < 2 ^ 31) {i : Nat} (hi : i + 6 ≤ E.2.1) (l5 l6 l7 : Option Value) : Nx E lv x i 307 n k G l5 l6 l7 := by
  unfold Nx
  obtain ⟨hX, hD, -, h134, hb, hlt, gs, gu, hk⟩ := id h
  obtain ⟨G1, x1, x2, x3⟩ := xRings (E := E) (lv := 0) (N := n) (k := k) hX gs.1 (E.2.2 (i + 1))
  have hD1 := h.d1 x3
  have b1 := h.b1 x3
  obtain ⟨G2, d1, d2, d3⟩ := dRings (E := E) (lv := 0) (N := n) (k := k) hD1 gs.1 (E.2.2 (i + 1))
  refine ⟨n, k, G2, _, _, _, _, l5, l6, l7, ?_, h.twoN (Nat.le_refl _) x2 x3 d2 d3 (aRings_SG gs _) (gu) (hk), Nat.le_refl _, by omega, Nat.le_refl _, by omega⟩
  simp only [zr_L_law_307, zr_L_law_308, zr_L_law_308n, zr_L_law_309, zr_L_law_311, zr_L_law_312, zr_L_law_313, zr_L_law_314, zr_L_law_317, zr_L_law_318, zr_L_law_318n, zr_L_law_319, zr_L_law_321, zr_L_law_322, zr_L_law_323, zr_L_law_324, zr_L_law_327, zr_L_law_330, zr_L_law_331, z_rd1 hb hL hi, z_rd1 b1 hL hi, hX.cls, hD1.cls, x1, d1, lg_cmp_self, eq_self, z_obs, z_pu_s, z_pu_n, z00, z10, ↓reduceIte, true_or, or_true, z_b_t, z_b_f]
theorem lw_4 (h : LW G x s ib u hs n E.1) (hL : E.2.1 < 2 ^ 31) {i : Nat} (hi : i + 6 ≤ E.2.1) (l5 l6 l7 : Option Value) : Nx E lv x i 332 n k G l5 l6 l7 := by
  unfold Nx
  obtain ⟨hX, hD, -, h134, hb, hlt, gs, gu, hk⟩ := id h
  obtain ⟨G1, x1, x2, x3⟩ := xHours (E := E) (lv := 0) (N := n) (k := k) hX gs.1 gs.2.2 (E.2.2 (i + 1))
  have hD1 := h.d1 x3
  have b1 := h.b1 x3
  obtain ⟨G2, d1, d2, d3⟩ := dHours (E := E) (lv := 0) (N := n) (k := k) hD1 gs.1 gs.2.2 (E.2.2 (i + 1))
  refine ⟨n, k, G2, _, _, _, _, l5, l6, l7, ?_, h.twoN (Nat.le_refl _) x2 x3 d2 d3 (aHours_SG gs _) (gu) (hk), Nat.le_refl _, by omega, Nat.le_refl _, by omega⟩
  simp only [zr_L_law_332, zr_L_law_333, zr_L_law_333n, zr_L_law_334, zr_L_law_336, zr_L_law_337, zr_L_law_338, zr_L_law_339, zr_L_law_342, zr_L_law_343, zr_L_law_343n, zr_L_law_344, zr_L_law_346, zr_L_law_347, zr_L_law_348, zr_L_law_349, zr_L_law_352, zr_L_law_355, zr_L_law_356, z_rd1 hb hL hi, z_rd1 b1 hL hi, hX.cls, hD1.cls, x1, d1, lg_cmp_self, eq_self, z_obs, z_pu_s, z_pu_n, z00, z10, ↓reduceIte, true_or, or_true, z_b_t, z_b_f]
theorem lw_5 (h : LW G x s ib u hs n E.1) (hL : E.2.1 < 2 ^ 31) {i : Nat} (hi : i + 6 ≤ E.2.1) (l5 l6 l7 : Option Value) : Nx E lv x i 357 n k G l5 l6 l7 := by
  unfold Nx
  obtain ⟨hX, hD, -, h134, hb, hlt, gs, gu, hk⟩ := id h
  obtain ⟨G1, x1, x2, x3⟩ := xMoves (E := E) (lv := 0) (N := n) (k := k) hX gs.1 (E.2.2 (i + 1)) (E.2.2 (i + 2))
  have hD1 := h.d1 x3
  have b1 := h.b1 x3
  obtain ⟨G2, d1, d2, d3⟩ := dMoves (E := E) (lv := 0) (N := n) (k := k) hD1 gs.1 (E.2.2 (i + 1)) (E.2.2 (i + 2))
  refine ⟨n, k, G2, _, _, _, _, l5, l6, l7, ?_, h.twoN (Nat.le_refl _) x2 x3 d2 d3 (aMoves_SG gs _ _) (gu) (hk), Nat.le_refl _, by omega, Nat.le_refl _, by omega⟩
  simp only [zr_L_law_357, zr_L_law_358, zr_L_law_358n, zr_L_law_359, zr_L_law_361, zr_L_law_362, zr_L_law_363, zr_L_law_364, zr_L_law_364n, zr_L_law_365, zr_L_law_367, zr_L_law_368, zr_L_law_369, zr_L_law_370, zr_L_law_373, zr_L_law_374, zr_L_law_374n, zr_L_law_375, zr_L_law_377, zr_L_law_378, zr_L_law_379, zr_L_law_380, zr_L_law_380n, zr_L_law_381, zr_L_law_383, zr_L_law_384, zr_L_law_385, zr_L_law_386, zr_L_law_389, zr_L_law_392, zr_L_law_393, z_rd1 hb hL hi, z_rd2 hb hL hi, z_rd1 b1 hL hi, z_rd2 b1 hL hi, hX.cls, hD1.cls, x1, d1, lg_cmp_self, eq_self, z_obs, z_pu_s, z_pu_n, z00, z10, ↓reduceIte, true_or, or_true, z_b_t, z_b_f]
theorem lw_6 (h : LW G x s ib u hs n E.1) (hL : E.2.1 < 2 ^ 31) {i : Nat} (hi : i + 6 ≤ E.2.1) (l5 l6 l7 : Option Value) : Nx E lv x i 394 n k G l5 l6 l7 := by
  unfold Nx
  obtain ⟨hX, hD, -, h134, hb, hlt, gs, gu, hk⟩ := id h
  have x1 := xHome (E := E) (lv := 0) (N := n) (k := k) hX gs.1 (E.2.2 (i + 1))
  have x2 := hX
  have x3 : XF x G G := XF.rf
  have hD1 := h.d1 x3
  have b1 := h.b1 x3
  have d1 := dHome (E := E) (lv := 0) (N := n) (k := k) hD1 gs.1 (E.2.2 (i + 1))
  have d2 := hD1
  have d3 : FR (x + 118) 15 G G := FR.rf
  refine ⟨n, k, G, _, _, _, _, l5, l6, l7, ?_, h.twoN (Nat.le_refl _) x2 x3 d2 d3 (gs) (gu) (hk), Nat.le_refl _, by omega, Nat.le_refl _, by omega⟩
  simp only [zr_L_law_394, zr_L_law_395, zr_L_law_395n, zr_L_law_396, zr_L_law_398, zr_L_law_399, zr_L_law_400, zr_L_law_401, zr_L_law_404, zr_L_law_405, zr_L_law_405n, zr_L_law_406, zr_L_law_408, zr_L_law_409, zr_L_law_410, zr_L_law_411, zr_L_law_414, zr_L_law_417, zr_L_law_418, z_rd1 hb hL hi, hX.cls, hD1.cls, x1, d1, lg_cmp_self, eq_self, z_obs, z_pu_s, z_pu_n, z00, z10, ↓reduceIte, true_or, or_true, z_b_t, z_b_f]
theorem lw_7 (h : LW G x s ib u hs n E.1) (hL : E.2.1 < 2 ^ 31) {i : Nat} (hi : i + 6 ≤ E.2.1) (l5 l6 l7 : Option Value) : Nx E lv x i 419 n k G l5 l6 l7 := by
  unfold Nx
  obtain ⟨hX, hD, -, h134, hb, hlt, gs, gu, hk⟩ := id h
  have x1 := xHoursOf (E := E) (lv := 0) (N := n) (k := k) hX gs.1 (E.2.2 (i + 1))
  have x2 := hX
  have x3 : XF x G G := XF.rf
  have hD1 := h.d1 x3
  have b1 := h.b1 x3
  have d1 := dHoursOf (E := E) (lv := 0) (N := n) (k := k) hD1 gs.1 (E.2.2 (i + 1))
  have d2 := hD1
  have d3 : FR (x + 118) 15 G G := FR.rf
  refine ⟨n, k, G, _, _, _, _, l5, l6, l7, ?_, h.twoN (Nat.le_refl _) x2 x3 d2 d3 (gs) (gu) (hk), Nat.le_refl _, by omega, Nat.le_refl _, by omega⟩
  simp only [zr_L_law_419, zr_L_law_420, zr_L_law_420n, zr_L_law_421, zr_L_law_423, zr_L_law_424, zr_L_law_425, zr_L_law_426, zr_L_law_429, zr_L_law_430, zr_L_law_430n, zr_L_law_431, zr_L_law_433, zr_L_law_434, zr_L_law_435, zr_L_law_436, zr_L_law_439, zr_L_law_442, zr_L_law_443, z_rd1 hb hL hi, hX.cls, hD1.cls, x1, d1, lg_cmp_self, eq_self, z_obs, z_pu_s, z_pu_n, z00, z10, ↓reduceIte, true_or, or_true, z_b_t, z_b_f]
theorem lw_8 (h : LW G x s ib u hs n E.1) (hL : E.2.1 < 2 ^ 31) {i : Nat} (hi : i + 6 ≤ E.2.1) (l5 l6 l7 : Option Value) : Nx E lv x i 444 n k G l5 l6 l7 := by
  unfold Nx
  obtain ⟨hX, hD, -, h134, hb, hlt, gs, gu, hk⟩ := id h
  obtain ⟨G1, x1, x2, x3⟩ := xBehind (E := E) (lv := 0) (N := n) (k := k) hX gs.1 gs.2.2 (E.2.2 (i + 1)) (E.2.2 (i + 2)) (E.2.2 (i + 3))
  have hD1 := h.d1 x3
  have b1 := h.b1 x3
  obtain ⟨G2, d1, d2, d3⟩ := dBehind (E := E) (lv := 0) (N := n) (k := k) hD1 gs.1 (E.2.2 (i + 1)) (E.2.2 (i + 2)) (E.2.2 (i + 3))
  refine ⟨n, k, G2, _, _, _, _, l5, l6, l7, ?_, h.twoN (Nat.le_refl _) x2 x3 d2 d3 (gs) (gu) (hk), Nat.le_refl _, by omega, Nat.le_refl _, by omega⟩
  simp only [zr_L_law_444, zr_L_law_445, zr_L_law_445n, zr_L_law_446, zr_L_law_448, zr_L_law_449, zr_L_law_450, zr_L_law_451, zr_L_law_451n, zr_L_law_452, zr_L_law_454, zr_L_law_455, zr_L_law_456, zr_L_law_457, zr_L_law_457n, zr_L_law_458, zr_L_law_460, zr_L_law_461, zr_L_law_462, zr_L_law_463, zr_L_law_466, zr_L_law_467, zr_L_law_467n, zr_L_law_468, zr_L_law_470, zr_L_law_471, zr_L_law_472, zr_L_law_473, zr_L_law_473n, zr_L_law_474, zr_L_law_476, zr_L_law_477, zr_L_law_478, zr_L_law_479, zr_L_law_479n, zr_L_law_480, zr_L_law_482, zr_L_law_483, zr_L_law_484, zr_L_law_485, zr_L_law_488, zr_L_law_491, zr_L_law_492, z_rd1 hb hL hi, z_rd2 hb hL hi, z_rd3 hb hL hi, z_rd1 b1 hL hi, z_rd2 b1 hL hi, z_rd3 b1 hL hi, hX.cls, hD1.cls, x1, d1, lg_cmp_self, eq_self, z_obs, z_pu_s, z_pu_n, z00, z10, ↓reduceIte, true_or, or_true, z_b_t, z_b_f]
theorem lw_9 (h : LW G x s ib u hs n E.1) (hL : E.2.1 < 2 ^ 31) {i : Nat} (hi : i + 6 ≤ E.2.1) (l5 l6 l7 : Option Value) : Nx E lv x i 493 n k G l5 l6 l7 := by
  unfold Nx
  obtain ⟨hX, hD, -, h134, hb, hlt, gs, gu, hk⟩ := id h
  have x1 := xSoonest (E := E) (lv := 0) (N := n) (k := k) hX gs.1 gs.2.1 (E.2.2 (i + 1))
  have x2 := hX
  have x3 : XF x G G := XF.rf
  have hD1 := h.d1 x3
  have b1 := h.b1 x3
  have d1 := dSoonest (E := E) (lv := 0) (N := n) (k := k) hD1 gs.1 gs.2.1 (E.2.2 (i + 1))
  have d2 := hD1
  have d3 : FR (x + 118) 15 G G := FR.rf
  refine ⟨n, k, G, _, _, _, _, l5, l6, l7, ?_, h.twoN (Nat.le_refl _) x2 x3 d2 d3 (gs) (gu) (hk), Nat.le_refl _, by omega, Nat.le_refl _, by omega⟩
  simp only [zr_L_law_493, zr_L_law_494, zr_L_law_494n, zr_L_law_495, zr_L_law_497, zr_L_law_498, zr_L_law_499, zr_L_law_500, zr_L_law_503, zr_L_law_504, zr_L_law_504n, zr_L_law_505, zr_L_law_507, zr_L_law_508, zr_L_law_509, zr_L_law_510, zr_L_law_513, zr_L_law_516, zr_L_law_517, z_rd1 hb hL hi, hX.cls, hD1.cls, x1, d1, lg_cmp_self, eq_self, z_obs, z_pu_s, z_pu_n, z00, z10, ↓reduceIte, true_or, or_true, z_b_t, z_b_f]
theorem lw_10 (h : LW G x s ib u hs n E.1) (hL : E.2.1 < 2 ^ 31) {i : Nat} (hi : i + 6 ≤ E.2.1) (l5 l6 l7 : Option Value) : Nx E lv x i 518 n k G l5 l6 l7 := by
  unfold Nx
  obtain ⟨hX, hD, -, h134, hb, hlt, gs, gu, hk⟩ := id h
  have x1 := xFewest (E := E) (lv := 0) (N := n) (k := k) hX gs.1 gs.2.1 (E.2.2 (i + 1)) (E.2.2 (i + 2))
  have x2 := hX
  have x3 : XF x G G := XF.rf
  have hD1 := h.d1 x3
  have b1 := h.b1 x3
  have d1 := dFewest (E := E) (lv := 0) (N := n) (k := k) hD1 gs.1 gs.2.1 (E.2.2 (i + 1)) (E.2.2 (i + 2))
  have d2 := hD1
  have d3 : FR (x + 118) 15 G G := FR.rf
  refine ⟨n, k, G, _, _, _, _, l5, l6, l7, ?_, h.twoN (Nat.le_refl _) x2 x3 d2 d3 (gs) (gu) (hk), Nat.le_refl _, by omega, Nat.le_refl _, by omega⟩
  simp only [zr_L_law_518, zr_L_law_519, zr_L_law_519n, zr_L_law_520, zr_L_law_522, zr_L_law_523, zr_L_law_524, zr_L_law_525, zr_L_law_525n, zr_L_law_526, zr_L_law_528, zr_L_law_529, zr_L_law_530, zr_L_law_531, zr_L_law_534, zr_L_law_535, zr_L_law_535n, zr_L_law_536, zr_L_law_538, zr_L_law_539, zr_L_law_540, zr_L_law_541, zr_L_law_541n, zr_L_law_542, zr_L_law_544, zr_L_law_545, zr_L_law_546, zr_L_law_547, zr_L_law_550, zr_L_law_553, zr_L_law_554, z_rd1 hb hL hi, z_rd2 hb hL hi, hX.cls, hD1.cls, x1, d1, lg_cmp_self, eq_self, z_obs, z_pu_s, z_pu_n, z00, z10, ↓reduceIte, true_or, or_true, z_b_t, z_b_f]
theorem lw_11 (h : LW G x s ib u hs n E.1) (hL : E.2.1 < 2 ^ 31) {i : Nat} (hi : i + 6 ≤ E.2.1) (l5 l6 l7 : Option Value) : Nx E lv x i 555 n k G l5 l6 l7 := by
  unfold Nx
  obtain ⟨hX, hD, -, h134, hb, hlt, gs, gu, hk⟩ := id h
  have x1 := xNever (E := E) (lv := 0) (N := n) (k := k) hX gs.1 gs.2.1 
  have x2 := hX
  have x3 : XF x G G := XF.rf
  have hD1 := h.d1 x3
  have b1 := h.b1 x3
  have d1 := dNever (E := E) (lv := 0) (N := n) (k := k) hD1 gs.1 gs.2.1 
  have d2 := hD1
  have d3 : FR (x + 118) 15 G G := FR.rf
  refine ⟨n, k, G, _, _, _, _, l5, l6, l7, ?_, h.twoN (Nat.le_refl _) x2 x3 d2 d3 (gs) (gu) (hk), Nat.le_refl _, by omega, Nat.le_refl _, by omega⟩
  simp only [zr_L_law_555, zr_L_law_556, zr_L_law_559, zr_L_law_560, zr_L_law_563, zr_L_law_566, zr_L_law_567, hX.cls, hD1.cls, x1, d1, lg_cmp_self, eq_self, z_obs, z_pu_s, z_pu_n, z00, z10, ↓reduceIte, true_or, or_true, z_b_t, z_b_f]
theorem lw_12 (h : LW G x s ib u hs n E.1) (hL : E.2.1 < 2 ^ 31) {i : Nat} (hi : i + 6 ≤ E.2.1) (l5 l6 l7 : Option Value) : Nx E lv x i 568 n k G l5 l6 l7 := by
  unfold Nx
  obtain ⟨hX, hD, -, h134, hb, hlt, gs, gu, hk⟩ := id h
  have x1 := xFirst (E := E) (lv := 0) (N := n) (k := k) hX gs.1 gs.2.1 
  have x2 := hX
  have x3 : XF x G G := XF.rf
  have hD1 := h.d1 x3
  have b1 := h.b1 x3
  have d1 := dFirst (E := E) (lv := 0) (N := n) (k := k) hD1 gs.1 gs.2.1 
  have d2 := hD1
  have d3 : FR (x + 118) 15 G G := FR.rf
  refine ⟨n, k, G, _, _, _, _, l5, l6, l7, ?_, h.twoN (Nat.le_refl _) x2 x3 d2 d3 (gs) (gu) (hk), Nat.le_refl _, by omega, Nat.le_refl _, by omega⟩
  simp only [zr_L_law_568, zr_L_law_569, zr_L_law_572, zr_L_law_573, zr_L_law_576, zr_L_law_579, zr_L_law_580, hX.cls, hD1.cls, x1, d1, lg_cmp_self, eq_self, z_obs, z_pu_s, z_pu_n, z00, z10, ↓reduceIte, true_or, or_true, z_b_t, z_b_f]
theorem lw_13 (h : LW G x s ib u hs n E.1) (hL : E.2.1 < 2 ^ 31) {i : Nat} (hi : i + 6 ≤ E.2.1) (l5 l6 l7 : Option Value) : Nx E lv x i 581 n k G l5 l6 l7 := by
  unfold Nx
  obtain ⟨hX, hD, -, h134, hb, hlt, gs, gu, hk⟩ := id h
  obtain ⟨G1, x1, x2, x3⟩ := xErrands (E := E) (lv := 0) (N := n) (k := k) hX gs.1 gs.2.1 (E.2.2 (i + 1)) (E.2.2 (i + 2)) (E.2.2 (i + 3))
  have hD1 := h.d1 x3
  have b1 := h.b1 x3
  obtain ⟨G2, d1, d2, d3⟩ := dErrands (E := E) (lv := 0) (N := n) (k := k) hD1 gs.1 (E.2.2 (i + 1)) (E.2.2 (i + 2)) (E.2.2 (i + 3))
  refine ⟨n, k, G2, _, _, _, _, l5, l6, l7, ?_, h.twoN (Nat.le_refl _) x2 x3 d2 d3 (gs) (gu) (hk), Nat.le_refl _, by omega, Nat.le_refl _, by omega⟩
  simp only [zr_L_law_581, zr_L_law_582, zr_L_law_582n, zr_L_law_583, zr_L_law_585, zr_L_law_586, zr_L_law_587, zr_L_law_588, zr_L_law_588n, zr_L_law_589, zr_L_law_591, zr_L_law_592, zr_L_law_593, zr_L_law_594, zr_L_law_594n, zr_L_law_595, zr_L_law_597, zr_L_law_598, zr_L_law_599, zr_L_law_600, zr_L_law_603, zr_L_law_604, zr_L_law_604n, zr_L_law_605, zr_L_law_607, zr_L_law_608, zr_L_law_609, zr_L_law_610, zr_L_law_610n, zr_L_law_611, zr_L_law_613, zr_L_law_614, zr_L_law_615, zr_L_law_616, zr_L_law_616n, zr_L_law_617, zr_L_law_619, zr_L_law_620, zr_L_law_621, zr_L_law_622, zr_L_law_625, zr_L_law_628, zr_L_law_629, z_rd1 hb hL hi, z_rd2 hb hL hi, z_rd3 hb hL hi, z_rd1 b1 hL hi, z_rd2 b1 hL hi, z_rd3 b1 hL hi, hX.cls, hD1.cls, x1, d1, lg_cmp_self, eq_self, z_obs, z_pu_s, z_pu_n, z00, z10, ↓reduceIte, true_or, or_true, z_b_t, z_b_f]
theorem lw_14 (h : LW G x s ib u hs n E.1) (hL : E.2.1 < 2 ^ 31) {i : Nat} (hi : i + 6 ≤ E.2.1) (l5 l6 l7 : Option Value) : Nx E lv x i 630 n k G l5 l6 l7 := by
  unfold Nx
  obtain ⟨hX, hD, -, h134, hb, hlt, gs, gu, hk⟩ := id h
  obtain ⟨G1, x1, x2, x3⟩ := xForAll (E := E) (lv := 0) (N := n) (k := k) hX gs.1 
  have hD1 := h.d1 x3
  have b1 := h.b1 x3
  have d1 := dForAll (E := E) (lv := 0) (N := n) (k := k) hD1 gs.1 
  have d2 := hD1
  have d3 : FR (x + 118) 15 G1 G1 := FR.rf
  refine ⟨n, k, G1, _, _, _, _, l5, l6, l7, ?_, h.twoN (Nat.le_refl _) x2 x3 d2 d3 (gs) (gu) (hk), Nat.le_refl _, by omega, Nat.le_refl _, by omega⟩
  simp only [zr_L_law_630, zr_L_law_631, zr_L_law_634, zr_L_law_635, zr_L_law_638, zr_L_law_641, zr_L_law_642, hX.cls, hD1.cls, x1, d1, lg_cmp_self, eq_self, z_obs, z_pu_s, z_pu_n, z00, z10, ↓reduceIte, true_or, or_true, z_b_t, z_b_f]
theorem lw_15 (h : LW G x s ib u hs n E.1) (hL : E.2.1 < 2 ^ 31) {i : Nat} (hi : i + 6 ≤ E.2.1) (l5 l6 l7 : Option Value) : Nx E lv x i 643 n k G l5 l6 l7 := by
  unfold Nx
  obtain ⟨hX, hD, -, h134, hb, hlt, gs, gu, hk⟩ := id h
  have x1 := xBusiest (E := E) (lv := 0) (N := n) (k := k) hX gs.1 (E.2.2 (i + 1))
  have x2 := hX
  have x3 : XF x G G := XF.rf
  have hD1 := h.d1 x3
  have b1 := h.b1 x3
  have d1 := dBusiest (E := E) (lv := 0) (N := n) (k := k) hD1 gs.1 (E.2.2 (i + 1))
  have d2 := hD1
  have d3 : FR (x + 118) 15 G G := FR.rf
  refine ⟨n, k, G, _, _, _, _, l5, l6, l7, ?_, h.twoN (Nat.le_refl _) x2 x3 d2 d3 (gs) (gu) (hk), Nat.le_refl _, by omega, Nat.le_refl _, by omega⟩
  simp only [zr_L_law_643, zr_L_law_644, zr_L_law_644n, zr_L_law_645, zr_L_law_647, zr_L_law_648, zr_L_law_649, zr_L_law_650, zr_L_law_653, zr_L_law_654, zr_L_law_654n, zr_L_law_655, zr_L_law_657, zr_L_law_658, zr_L_law_659, zr_L_law_660, zr_L_law_663, zr_L_law_666, zr_L_law_667, z_rd1 hb hL hi, hX.cls, hD1.cls, x1, d1, lg_cmp_self, eq_self, z_obs, z_pu_s, z_pu_n, z00, z10, ↓reduceIte, true_or, or_true, z_b_t, z_b_f]
theorem lw_16 (h : LW G x s ib u hs n E.1) (hL : E.2.1 < 2 ^ 31) {i : Nat} (hi : i + 6 ≤ E.2.1) (l5 l6 l7 : Option Value) : Nx E lv x i 668 n k G l5 l6 l7 := by
  unfold Nx
  obtain ⟨hX, hD, -, h134, hb, hlt, gs, gu, hk⟩ := id h
  have x1 := xAlone (E := E) (lv := 0) (N := n) (k := k) hX gs.1 
  have x2 := hX
  have x3 : XF x G G := XF.rf
  have hD1 := h.d1 x3
  have b1 := h.b1 x3
  have d1 := dAlone (E := E) (lv := 0) (N := n) (k := k) hD1 gs.1 
  have d2 := hD1
  have d3 : FR (x + 118) 15 G G := FR.rf
  refine ⟨n, k, G, _, _, _, _, l5, l6, l7, ?_, h.twoN (Nat.le_refl _) x2 x3 d2 d3 (gs) (gu) (hk), Nat.le_refl _, by omega, Nat.le_refl _, by omega⟩
  simp only [zr_L_law_668, zr_L_law_669, zr_L_law_672, zr_L_law_673, zr_L_law_676, zr_L_law_679, zr_L_law_680, hX.cls, hD1.cls, x1, d1, lg_cmp_self, eq_self, z_obs, z_pu_s, z_pu_n, z00, z10, ↓reduceIte, true_or, or_true, z_b_t, z_b_f]
theorem lw_17 (h : LW G x s ib u hs n E.1) (hL : E.2.1 < 2 ^ 31) {i : Nat} (hi : i + 6 ≤ E.2.1) (l5 l6 l7 : Option Value) : Nx E lv x i 681 n k G l5 l6 l7 := by
  unfold Nx
  obtain ⟨hX, hD, -, h134, hb, hlt, gs, gu, hk⟩ := id h
  obtain ⟨G1, x1, x2, x3⟩ := xWhatRang (E := E) (lv := 0) (N := n) (k := k) hX gs.1 (E.2.2 (i + 1)) (E.2.2 (i + 2)) (E.2.2 (i + 3))
  have hD1 := h.d1 x3
  have b1 := h.b1 x3
  obtain ⟨G2, d1, d2, d3⟩ := dWhatRang (E := E) (lv := 0) (N := n) (k := k) hD1 gs.1 (E.2.2 (i + 1)) (E.2.2 (i + 2)) (E.2.2 (i + 3))
  refine ⟨n, k, G2, _, _, _, _, l5, l6, l7, ?_, h.twoN (Nat.le_refl _) x2 x3 d2 d3 (gs) (gu) (hk), Nat.le_refl _, by omega, Nat.le_refl _, by omega⟩
  simp only [zr_L_law_681, zr_L_law_682, zr_L_law_682n, zr_L_law_683, zr_L_law_685, zr_L_law_686, zr_L_law_687, zr_L_law_688, zr_L_law_688n, zr_L_law_689, zr_L_law_691, zr_L_law_692, zr_L_law_693, zr_L_law_694, zr_L_law_694n, zr_L_law_695, zr_L_law_697, zr_L_law_698, zr_L_law_699, zr_L_law_700, zr_L_law_703, zr_L_law_704, zr_L_law_704n, zr_L_law_705, zr_L_law_707, zr_L_law_708, zr_L_law_709, zr_L_law_710, zr_L_law_710n, zr_L_law_711, zr_L_law_713, zr_L_law_714, zr_L_law_715, zr_L_law_716, zr_L_law_716n, zr_L_law_717, zr_L_law_719, zr_L_law_720, zr_L_law_721, zr_L_law_722, zr_L_law_725, zr_L_law_728, zr_L_law_729, z_rd1 hb hL hi, z_rd2 hb hL hi, z_rd3 hb hL hi, z_rd1 b1 hL hi, z_rd2 b1 hL hi, z_rd3 b1 hL hi, hX.cls, hD1.cls, x1, d1, lg_cmp_self, eq_self, z_obs, z_pu_s, z_pu_n, z00, z10, ↓reduceIte, true_or, or_true, z_b_t, z_b_f]
theorem lw_18 (h : LW G x s ib u hs n E.1) (hL : E.2.1 < 2 ^ 31) {i : Nat} (hi : i + 6 ≤ E.2.1) (l5 l6 l7 : Option Value) : Nx E lv x i 730 n k G l5 l6 l7 := by
  unfold Nx
  obtain ⟨hX, hD, -, h134, hb, hlt, gs, gu, hk⟩ := id h
  obtain ⟨G1, x1, x2, x3⟩ := xTell (E := E) (lv := 0) (N := n) (k := k) hX gs.1 (E.2.2 (i + 1)) (E.2.2 (i + 2)) (E.2.2 (i + 3))
  have hD1 := h.d1 x3
  have b1 := h.b1 x3
  obtain ⟨G2, d1, d2, d3⟩ := dTell (E := E) (lv := 0) (N := n) (k := k) hD1 gs.1 (E.2.2 (i + 1)) (E.2.2 (i + 2)) (E.2.2 (i + 3))
  refine ⟨n, k, G2, _, _, _, _, l5, l6, l7, ?_, h.twoN (Nat.le_refl _) x2 x3 d2 d3 (gs) (gu) (hk), Nat.le_refl _, by omega, Nat.le_refl _, by omega⟩
  simp only [zr_L_law_730, zr_L_law_731, zr_L_law_731n, zr_L_law_732, zr_L_law_734, zr_L_law_735, zr_L_law_736, zr_L_law_737, zr_L_law_737n, zr_L_law_738, zr_L_law_740, zr_L_law_741, zr_L_law_742, zr_L_law_743, zr_L_law_743n, zr_L_law_744, zr_L_law_746, zr_L_law_747, zr_L_law_748, zr_L_law_749, zr_L_law_752, zr_L_law_753, zr_L_law_753n, zr_L_law_754, zr_L_law_756, zr_L_law_757, zr_L_law_758, zr_L_law_759, zr_L_law_759n, zr_L_law_760, zr_L_law_762, zr_L_law_763, zr_L_law_764, zr_L_law_765, zr_L_law_765n, zr_L_law_766, zr_L_law_768, zr_L_law_769, zr_L_law_770, zr_L_law_771, zr_L_law_774, zr_L_law_777, zr_L_law_778, z_rd1 hb hL hi, z_rd2 hb hL hi, z_rd3 hb hL hi, z_rd1 b1 hL hi, z_rd2 b1 hL hi, z_rd3 b1 hL hi, hX.cls, hD1.cls, x1, d1, lg_cmp_self, eq_self, z_obs, z_pu_s, z_pu_n, z00, z10, ↓reduceIte, true_or, or_true, z_b_t, z_b_f]
theorem lw_19 (h : LW G x s ib u hs n E.1) (hL : E.2.1 < 2 ^ 31) {i : Nat} (hi : i + 6 ≤ E.2.1) (l5 l6 l7 : Option Value) : Nx E lv x i 779 n k G l5 l6 l7 := by
  unfold Nx
  obtain ⟨hX, hD, -, h134, hb, hlt, gs, gu, hk⟩ := id h
  have x1 := xOneDoor (E := E) (lv := 0) (N := n) (k := k) hX gs.1 (E.2.2 (i + 1))
  have x2 := hX
  have x3 : XF x G G := XF.rf
  have hD1 := h.d1 x3
  have b1 := h.b1 x3
  have d1 := dOneDoor (E := E) (lv := 0) (N := n) (k := k) hD1 gs.1 (E.2.2 (i + 1))
  have d2 := hD1
  have d3 : FR (x + 118) 15 G G := FR.rf
  refine ⟨n, k, G, _, _, _, _, l5, l6, l7, ?_, h.twoN (Nat.le_refl _) x2 x3 d2 d3 (gs) (gu) (hk), Nat.le_refl _, by omega, Nat.le_refl _, by omega⟩
  simp only [zr_L_law_779, zr_L_law_780, zr_L_law_780n, zr_L_law_781, zr_L_law_783, zr_L_law_784, zr_L_law_785, zr_L_law_786, zr_L_law_789, zr_L_law_790, zr_L_law_790n, zr_L_law_791, zr_L_law_793, zr_L_law_794, zr_L_law_795, zr_L_law_796, zr_L_law_799, zr_L_law_802, zr_L_law_803, z_rd1 hb hL hi, hX.cls, hD1.cls, x1, d1, lg_cmp_self, eq_self, z_obs, z_pu_s, z_pu_n, z00, z10, ↓reduceIte, true_or, or_true, z_b_t, z_b_f]
theorem lw_20 (h : LW G x s ib u hs n E.1) (hL : E.2.1 < 2 ^ 31) {i : Nat} (hi : i + 6 ≤ E.2.1) (l5 l6 l7 : Option Value) : Nx E lv x i 804 n k G l5 l6 l7 := by
  unfold Nx
  obtain ⟨hX, hD, -, h134, hb, hlt, gs, gu, hk⟩ := id h
  have x1 := xFeet (E := E) (lv := 0) (N := n) (k := k) (x := x) (G := G) (E.2.2 (i + 1)) (E.2.2 (i + 2)) (E.2.2 (i + 3))
  have x2 := hX
  have x3 : XF x G G := XF.rf
  have hD1 := h.d1 x3
  have b1 := h.b1 x3
  obtain ⟨G2, d1, d2, d3⟩ := dFeet (E := E) (lv := 0) (N := n) (k := k) hD1 (E.2.2 (i + 1)) (E.2.2 (i + 2)) (E.2.2 (i + 3))
  refine ⟨n, k, G2, _, _, _, _, l5, l6, l7, ?_, h.twoN (Nat.le_refl _) x2 x3 d2 d3 (gs) (gu) (hk), Nat.le_refl _, by omega, Nat.le_refl _, by omega⟩
  simp only [zr_L_law_804, zr_L_law_805, zr_L_law_805n, zr_L_law_806, zr_L_law_808, zr_L_law_809, zr_L_law_810, zr_L_law_811, zr_L_law_811n, zr_L_law_812, zr_L_law_814, zr_L_law_815, zr_L_law_816, zr_L_law_817, zr_L_law_817n, zr_L_law_818, zr_L_law_820, zr_L_law_821, zr_L_law_822, zr_L_law_823, zr_L_law_826, zr_L_law_827, zr_L_law_827n, zr_L_law_828, zr_L_law_830, zr_L_law_831, zr_L_law_832, zr_L_law_833, zr_L_law_833n, zr_L_law_834, zr_L_law_836, zr_L_law_837, zr_L_law_838, zr_L_law_839, zr_L_law_839n, zr_L_law_840, zr_L_law_842, zr_L_law_843, zr_L_law_844, zr_L_law_845, zr_L_law_848, zr_L_law_851, zr_L_law_852, z_rd1 hb hL hi, z_rd2 hb hL hi, z_rd3 hb hL hi, hX.cls, hD1.cls, x1, d1, lg_cmp_self, eq_self, z_obs, z_pu_s, z_pu_n, z00, z10, ↓reduceIte, true_or, or_true, z_b_t, z_b_f]
theorem lw_21 (h : LW G x s ib u hs n E.1) (hL : E.2.1 < 2 ^ 31) {i : Nat} (hi : i + 6 ≤ E.2.1) (l5 l6 l7 : Option Value) : Nx E lv x i 853 n k G l5 l6 l7 := by
  unfold Nx
  obtain ⟨hX, hD, -, h134, hb, hlt, gs, gu, hk⟩ := id h
  obtain ⟨G1, x1, x2, x3⟩ := xOdds (E := E) (lv := 0) (N := n) (k := k) hX gs.1 (E.2.2 (i + 1)) (E.2.2 (i + 2)) (E.2.2 (i + 3)) (E.2.2 (i + 4))
  have hD1 := h.d1 x3
  have b1 := h.b1 x3
  obtain ⟨G2, d1, d2, d3⟩ := dOdds (E := E) (lv := 0) (N := n) (k := k) hD1 gs.1 (E.2.2 (i + 1)) (E.2.2 (i + 2)) (E.2.2 (i + 3)) (E.2.2 (i + 4))
  refine ⟨n, k, G2, _, _, _, _, l5, l6, l7, ?_, h.twoN (Nat.le_refl _) x2 x3 d2 d3 (gs) (gu) (hk), Nat.le_refl _, by omega, Nat.le_refl _, by omega⟩
  simp only [zr_L_law_853, zr_L_law_854, zr_L_law_854n, zr_L_law_855, zr_L_law_857, zr_L_law_858, zr_L_law_859, zr_L_law_860, zr_L_law_860n, zr_L_law_861, zr_L_law_863, zr_L_law_864, zr_L_law_865, zr_L_law_866, zr_L_law_866n, zr_L_law_867, zr_L_law_869, zr_L_law_870, zr_L_law_871, zr_L_law_872, zr_L_law_872n, zr_L_law_873, zr_L_law_875, zr_L_law_876, zr_L_law_877, zr_L_law_878, zr_L_law_881, zr_L_law_882, zr_L_law_882n, zr_L_law_883, zr_L_law_885, zr_L_law_886, zr_L_law_887, zr_L_law_888, zr_L_law_888n, zr_L_law_889, zr_L_law_891, zr_L_law_892, zr_L_law_893, zr_L_law_894, zr_L_law_894n, zr_L_law_895, zr_L_law_897, zr_L_law_898, zr_L_law_899, zr_L_law_900, zr_L_law_900n, zr_L_law_901, zr_L_law_903, zr_L_law_904, zr_L_law_905, zr_L_law_906, zr_L_law_909, zr_L_law_910, zr_L_law_913, zr_L_law_914, z_rd1 hb hL hi, z_rd2 hb hL hi, z_rd3 hb hL hi, z_rd4 hb hL hi, z_rd1 b1 hL hi, z_rd2 b1 hL hi, z_rd3 b1 hL hi, z_rd4 b1 hL hi, hX.cls, hD1.cls, x1, d1, lg_cmp_self, eq_self, z_obs, z_pu_s, z_pu_n, z00, z10, ↓reduceIte, true_or, or_true, z_b_t, z_b_f]
theorem lw_22 (h : LW G x s ib u hs n E.1) (hL : E.2.1 < 2 ^ 31) {i : Nat} (hi : i + 6 ≤ E.2.1) (l5 l6 l7 : Option Value) : Nx E lv x i 915 n k G l5 l6 l7 := by
  unfold Nx
  obtain ⟨hX, hD, -, h134, hb, hlt, gs, gu, hk⟩ := id h
  obtain ⟨G1, x1, x2, x3⟩ := xRun (E := E) (lv := 0) (N := n) (k := k) hX gs.1 (E.2.2 (i + 1))
  have hD1 := h.d1 x3
  have b1 := h.b1 x3
  obtain ⟨G2, d1, d2, d3⟩ := dRun (E := E) (lv := 0) (N := n) (k := k) hD1 gs.1 (E.2.2 (i + 1))
  refine ⟨n, k, G2, _, _, _, _, l5, l6, l7, ?_, h.twoN (Nat.le_refl _) x2 x3 d2 d3 (gs) (gu) (hk), Nat.le_refl _, by omega, Nat.le_refl _, by omega⟩
  simp only [zr_L_law_915, zr_L_law_916, zr_L_law_916n, zr_L_law_917, zr_L_law_919, zr_L_law_920, zr_L_law_921, zr_L_law_922, zr_L_law_925, zr_L_law_926, zr_L_law_926n, zr_L_law_927, zr_L_law_929, zr_L_law_930, zr_L_law_931, zr_L_law_932, zr_L_law_935, zr_L_law_938, zr_L_law_939, z_rd1 hb hL hi, z_rd1 b1 hL hi, hX.cls, hD1.cls, x1, d1, lg_cmp_self, eq_self, z_obs, z_pu_s, z_pu_n, z00, z10, ↓reduceIte, true_or, or_true, z_b_t, z_b_f]
theorem lw_23 (h : LW G x s ib u hs n E.1) (hL : E.2.1 < 2 ^ 31) {i : Nat} (hi : i + 6 ≤ E.2.1) (l5 l6 l7 : Option Value) : Nx E lv x i 940 n k G l5 l6 l7 := by
  unfold Nx
  obtain ⟨hX, hD, -, h134, hb, hlt, gs, gu, hk⟩ := id h
  have x1 := xMean (E := E) (lv := 0) (N := n) (k := k) hX gs.1 (E.2.2 (i + 1))
  have x2 := hX
  have x3 : XF x G G := XF.rf
  have hD1 := h.d1 x3
  have b1 := h.b1 x3
  have d1 := dMean (E := E) (lv := 0) (N := n) (k := k) hD1 gs.1 (E.2.2 (i + 1))
  have d2 := hD1
  have d3 : FR (x + 118) 15 G G := FR.rf
  refine ⟨n, k, G, _, _, _, _, l5, l6, l7, ?_, h.twoN (Nat.le_refl _) x2 x3 d2 d3 (gs) (gu) (hk), Nat.le_refl _, by omega, Nat.le_refl _, by omega⟩
  simp only [zr_L_law_940, zr_L_law_941, zr_L_law_941n, zr_L_law_942, zr_L_law_944, zr_L_law_945, zr_L_law_946, zr_L_law_947, zr_L_law_950, zr_L_law_951, zr_L_law_951n, zr_L_law_952, zr_L_law_954, zr_L_law_955, zr_L_law_956, zr_L_law_957, zr_L_law_960, zr_L_law_961, zr_L_law_964, zr_L_law_965, z_rd1 hb hL hi, hX.cls, hD1.cls, x1, d1, lg_cmp_self, eq_self, z_obs, z_pu_s, z_pu_n, z00, z10, ↓reduceIte, true_or, or_true, z_b_t, z_b_f]
theorem lw_24 (h : LW G x s ib u hs n E.1) (hL : E.2.1 < 2 ^ 31) {i : Nat} (hi : i + 6 ≤ E.2.1) (l5 l6 l7 : Option Value) : Nx E lv x i 966 n k G l5 l6 l7 := by
  unfold Nx
  obtain ⟨hX, hD, -, h134, hb, hlt, gs, gu, hk⟩ := id h
  have x1 := xNearest (E := E) (lv := 0) (N := n) (k := k) hX gs.1 (E.2.2 (i + 1)) (E.2.2 (i + 2))
  have x2 := hX
  have x3 : XF x G G := XF.rf
  have hD1 := h.d1 x3
  have b1 := h.b1 x3
  have d1 := dNearest (E := E) (lv := 0) (N := n) (k := k) hD1 gs.1 (E.2.2 (i + 1)) (E.2.2 (i + 2))
  have d2 := hD1
  have d3 : FR (x + 118) 15 G G := FR.rf
  refine ⟨n, k, G, _, _, _, _, l5, l6, l7, ?_, h.twoN (Nat.le_refl _) x2 x3 d2 d3 (gs) (gu) (hk), Nat.le_refl _, by omega, Nat.le_refl _, by omega⟩
  simp only [zr_L_law_966, zr_L_law_967, zr_L_law_967n, zr_L_law_968, zr_L_law_970, zr_L_law_971, zr_L_law_972, zr_L_law_973, zr_L_law_973n, zr_L_law_974, zr_L_law_976, zr_L_law_977, zr_L_law_978, zr_L_law_979, zr_L_law_982, zr_L_law_983, zr_L_law_983n, zr_L_law_984, zr_L_law_986, zr_L_law_987, zr_L_law_988, zr_L_law_989, zr_L_law_989n, zr_L_law_990, zr_L_law_992, zr_L_law_993, zr_L_law_994, zr_L_law_995, zr_L_law_998, zr_L_law_1001, zr_L_law_1002, z_rd1 hb hL hi, z_rd2 hb hL hi, hX.cls, hD1.cls, x1, d1, lg_cmp_self, eq_self, z_obs, z_pu_s, z_pu_n, z00, z10, ↓reduceIte, true_or, or_true, z_b_t, z_b_f]
theorem lw_25 (h : LW G x s ib u hs n E.1) (hL : E.2.1 < 2 ^ 31) {i : Nat} (hi : i + 6 ≤ E.2.1) (l5 l6 l7 : Option Value) : Nx E lv x i 1003 n k G l5 l6 l7 := by
  unfold Nx
  obtain ⟨hX, hD, -, h134, hb, hlt, gs, gu, hk⟩ := id h
  obtain ⟨G1, x1, x2, x3⟩ := xForged (E := E) (lv := 0) (N := n) (k := k) hX gs.1 gs.2.2 (E.2.2 (i + 1))
  have hD1 := h.d1 x3
  have b1 := h.b1 x3
  obtain ⟨G2, d1, d2, d3⟩ := dForged (E := E) (lv := 0) (N := n) (k := k) hD1 gs.1 (E.2.2 (i + 1))
  refine ⟨n, k, G2, _, _, _, _, l5, l6, l7, ?_, h.twoN (Nat.le_refl _) x2 x3 d2 d3 (gs) (gu) (hk), Nat.le_refl _, by omega, Nat.le_refl _, by omega⟩
  simp only [zr_L_law_1003, zr_L_law_1004, zr_L_law_1004n, zr_L_law_1005, zr_L_law_1007, zr_L_law_1008, zr_L_law_1009, zr_L_law_1010, zr_L_law_1013, zr_L_law_1014, zr_L_law_1014n, zr_L_law_1015, zr_L_law_1017, zr_L_law_1018, zr_L_law_1019, zr_L_law_1020, zr_L_law_1023, zr_L_law_1026, zr_L_law_1027, z_rd1 hb hL hi, z_rd1 b1 hL hi, hX.cls, hD1.cls, x1, d1, lg_cmp_self, eq_self, z_obs, z_pu_s, z_pu_n, z00, z10, ↓reduceIte, true_or, or_true, z_b_t, z_b_f]
theorem lw_26 (h : LW G x s ib u hs n E.1) (hL : E.2.1 < 2 ^ 31) {i : Nat} (hi : i + 6 ≤ E.2.1) (l5 l6 l7 : Option Value) : Nx E lv x i 1028 n k G l5 l6 l7 := by
  unfold Nx
  obtain ⟨hX, hD, -, h134, hb, hlt, gs, gu, hk⟩ := id h
  have x1 := xJudge (E := E) (lv := 0) (N := n) (k := k) hX gs.1 (E.2.2 (i + 1))
  have x2 := hX
  have x3 : XF x G G := XF.rf
  have hD1 := h.d1 x3
  have b1 := h.b1 x3
  have d1 := dJudge (E := E) (lv := 0) (N := n) (k := k) hD1 gs.1 (E.2.2 (i + 1))
  have d2 := hD1
  have d3 : FR (x + 118) 15 G G := FR.rf
  refine ⟨n, k, G, _, _, _, _, l5, l6, l7, ?_, h.twoN (Nat.le_refl _) x2 x3 d2 d3 (gs) (gu) (hk), Nat.le_refl _, by omega, Nat.le_refl _, by omega⟩
  simp only [zr_L_law_1028, zr_L_law_1029, zr_L_law_1029n, zr_L_law_1030, zr_L_law_1032, zr_L_law_1033, zr_L_law_1034, zr_L_law_1035, zr_L_law_1038, zr_L_law_1039, zr_L_law_1039n, zr_L_law_1040, zr_L_law_1042, zr_L_law_1043, zr_L_law_1044, zr_L_law_1045, zr_L_law_1048, zr_L_law_1051, zr_L_law_1052, z_rd1 hb hL hi, hX.cls, hD1.cls, x1, d1, lg_cmp_self, eq_self, z_obs, z_pu_s, z_pu_n, z00, z10, ↓reduceIte, true_or, or_true, z_b_t, z_b_f]
theorem lw_27 (h : LW G x s ib u hs n E.1) (hL : E.2.1 < 2 ^ 31) {i : Nat} (hi : i + 6 ≤ E.2.1) (l5 l6 l7 : Option Value) : Nx E lv x i 1053 n k G l5 l6 l7 := by
  unfold Nx
  obtain ⟨hX, hD, -, h134, hb, hlt, gs, gu, hk⟩ := id h
  obtain ⟨G1, x1, x2, x3⟩ := xDays (E := E) (lv := 0) (N := n) (k := k) hX gs.1 gs.2.2 (E.2.2 (i + 1)) (E.2.2 (i + 2)) (E.2.2 (i + 3))
  have hD1 := h.d1 x3
  have b1 := h.b1 x3
  obtain ⟨G2, d1, d2, d3⟩ := dDays (E := E) (lv := 0) (N := n) (k := k) hD1 gs.1 (E.2.2 (i + 1)) (E.2.2 (i + 2)) (E.2.2 (i + 3))
  refine ⟨n, k, G2, _, _, _, _, l5, l6, l7, ?_, h.twoN (Nat.le_refl _) x2 x3 d2 d3 (gs) (gu) (hk), Nat.le_refl _, by omega, Nat.le_refl _, by omega⟩
  simp only [zr_L_law_1053, zr_L_law_1054, zr_L_law_1054n, zr_L_law_1055, zr_L_law_1057, zr_L_law_1058, zr_L_law_1059, zr_L_law_1060, zr_L_law_1060n, zr_L_law_1061, zr_L_law_1063, zr_L_law_1064, zr_L_law_1065, zr_L_law_1066, zr_L_law_1066n, zr_L_law_1067, zr_L_law_1069, zr_L_law_1070, zr_L_law_1071, zr_L_law_1072, zr_L_law_1075, zr_L_law_1076, zr_L_law_1076n, zr_L_law_1077, zr_L_law_1079, zr_L_law_1080, zr_L_law_1081, zr_L_law_1082, zr_L_law_1082n, zr_L_law_1083, zr_L_law_1085, zr_L_law_1086, zr_L_law_1087, zr_L_law_1088, zr_L_law_1088n, zr_L_law_1089, zr_L_law_1091, zr_L_law_1092, zr_L_law_1093, zr_L_law_1094, zr_L_law_1097, zr_L_law_1100, zr_L_law_1101, z_rd1 hb hL hi, z_rd2 hb hL hi, z_rd3 hb hL hi, z_rd1 b1 hL hi, z_rd2 b1 hL hi, z_rd3 b1 hL hi, hX.cls, hD1.cls, x1, d1, lg_cmp_self, eq_self, z_obs, z_pu_s, z_pu_n, z00, z10, ↓reduceIte, true_or, or_true, z_b_t, z_b_f]
theorem lw_28 (h : LW G x s ib u hs n E.1) (hL : E.2.1 < 2 ^ 31) {i : Nat} (hi : i + 6 ≤ E.2.1) (l5 l6 l7 : Option Value) : Nx E lv x i 1102 n k G l5 l6 l7 := by
  unfold Nx
  obtain ⟨hX, hD, -, h134, hb, hlt, gs, gu, hk⟩ := id h
  obtain ⟨G1, x1, x2, x3⟩ := xImage (E := E) (lv := 0) (N := n) (k := k) hX gs.1 
  have hD1 := h.d1 x3
  have b1 := h.b1 x3
  obtain ⟨G2, d1, d2, d3⟩ := dImage (E := E) (lv := 0) (N := n) (k := k) hD1 
  refine ⟨n, k, G2, _, _, _, _, l5, l6, l7, ?_, h.twoN (Nat.le_refl _) x2 x3 d2 d3 (gs) (gs) (hk), Nat.le_refl _, by omega, Nat.le_refl _, by omega⟩
  simp only [zr_L_law_1102, zr_L_law_1103, zr_L_law_1106, zr_L_law_1107, zr_L_law_1110, zr_L_law_1113, zr_L_law_1114, hX.cls, hD1.cls, x1, d1, lg_cmp_self, eq_self, z_obs, z_pu_s, z_pu_n, z00, z10, ↓reduceIte, true_or, or_true, z_b_t, z_b_f]
theorem lw_29 (h : LW G x s ib u hs n E.1) (hL : E.2.1 < 2 ^ 31) {i : Nat} (hi : i + 6 ≤ E.2.1) (l5 l6 l7 : Option Value) : Nx E lv x i 1115 n k G l5 l6 l7 := by
  unfold Nx
  obtain ⟨hX, hD, -, h134, hb, hlt, gs, gu, hk⟩ := id h
  obtain ⟨G1, x1, x2, x3⟩ := xRestore (E := E) (lv := 0) (N := n) (k := k) hX gu.1 
  have hD1 := h.d1 x3
  have b1 := h.b1 x3
  obtain ⟨G2, d1, d2, d3⟩ := dRestore (E := E) (lv := 0) (N := n) (k := k) hD1 
  refine ⟨n, k, G2, _, _, _, _, l5, l6, l7, ?_, h.twoN (Nat.le_refl _) x2 x3 d2 d3 ((by split <;> assumption)) (gu) (hk), Nat.le_refl _, by omega, Nat.le_refl _, by omega⟩
  simp only [zr_L_law_1115, zr_L_law_1116, zr_L_law_1119, zr_L_law_1120, zr_L_law_1123, zr_L_law_1126, zr_L_law_1127, hX.cls, hD1.cls, x1, d1, lg_cmp_self, eq_self, z_obs, z_pu_s, z_pu_n, z00, z10, ↓reduceIte, true_or, or_true, z_b_t, z_b_f]
theorem lw_30 (h : LW G x s ib u hs n E.1) (hL : E.2.1 < 2 ^ 31) {i : Nat} (hi : i + 6 ≤ E.2.1) (l5 l6 l7 : Option Value) : Nx E lv x i 1128 n k G l5 l6 l7 := by
  unfold Nx
  obtain ⟨hX, hD, -, h134, hb, hlt, gs, gu, hk⟩ := id h
  have x1 := xCount (E := E) (lv := 0) (N := n) (k := k) hX gs.1 (E.2.2 (i + 1))
  have x2 := hX
  have x3 : XF x G G := XF.rf
  have hD1 := h.d1 x3
  have b1 := h.b1 x3
  have d1 := dCount (E := E) (lv := 0) (N := n) (k := k) hD1 gs.1 (E.2.2 (i + 1))
  have d2 := hD1
  have d3 : FR (x + 118) 15 G G := FR.rf
  refine ⟨n, k, G, _, _, _, _, l5, l6, l7, ?_, h.twoN (Nat.le_refl _) x2 x3 d2 d3 (gs) (gu) (hk), Nat.le_refl _, by omega, Nat.le_refl _, by omega⟩
  simp only [zr_L_law_1128, zr_L_law_1129, zr_L_law_1129n, zr_L_law_1130, zr_L_law_1132, zr_L_law_1133, zr_L_law_1134, zr_L_law_1135, zr_L_law_1138, zr_L_law_1139, zr_L_law_1139n, zr_L_law_1140, zr_L_law_1142, zr_L_law_1143, zr_L_law_1144, zr_L_law_1145, zr_L_law_1148, zr_L_law_1151, zr_L_law_1152, z_rd1 hb hL hi, hX.cls, hD1.cls, x1, d1, lg_cmp_self, eq_self, z_obs, z_pu_s, z_pu_n, z00, z10, ↓reduceIte, true_or, or_true, z_b_t, z_b_f]
theorem lw_31 (h : LW G x s ib u hs n E.1) (hL : E.2.1 < 2 ^ 31) {i : Nat} (hi : i + 6 ≤ E.2.1) (l5 l6 l7 : Option Value) : Nx E lv x i 1153 n k G l5 l6 l7 := by
  unfold Nx
  obtain ⟨hX, hD, -, h134, hb, hlt, gs, gu, hk⟩ := id h
  obtain ⟨G1, x1, x2, x3⟩ := xKeep (E := E) (lv := 0) (N := n) (k := k) hX (E.2.2 (i + 1)) (E.2.2 (i + 2)) (E.2.2 (i + 3)) (E.2.2 (i + 4))
  have hD1 := h.d1 x3
  have b1 := h.b1 x3
  obtain ⟨G2, d1, d2, d3⟩ := dKeep (E := E) (lv := 0) (N := n) (k := k) hD1 (E.2.2 (i + 1)) (E.2.2 (i + 2)) (E.2.2 (i + 3)) (E.2.2 (i + 4))
  refine ⟨n, k, G2, _, _, _, _, l5, l6, l7, ?_, h.twoN (Nat.le_refl _) x2 x3 d2 d3 (gs) (gu) (aKeep_ok hk _ _ _ _), Nat.le_refl _, by omega, Nat.le_refl _, by omega⟩
  simp only [zr_L_law_1153, zr_L_law_1154, zr_L_law_1154n, zr_L_law_1155, zr_L_law_1157, zr_L_law_1158, zr_L_law_1159, zr_L_law_1160, zr_L_law_1160n, zr_L_law_1161, zr_L_law_1163, zr_L_law_1164, zr_L_law_1165, zr_L_law_1166, zr_L_law_1166n, zr_L_law_1167, zr_L_law_1169, zr_L_law_1170, zr_L_law_1171, zr_L_law_1172, zr_L_law_1172n, zr_L_law_1173, zr_L_law_1175, zr_L_law_1176, zr_L_law_1177, zr_L_law_1178, zr_L_law_1181, zr_L_law_1182, zr_L_law_1182n, zr_L_law_1183, zr_L_law_1185, zr_L_law_1186, zr_L_law_1187, zr_L_law_1188, zr_L_law_1188n, zr_L_law_1189, zr_L_law_1191, zr_L_law_1192, zr_L_law_1193, zr_L_law_1194, zr_L_law_1194n, zr_L_law_1195, zr_L_law_1197, zr_L_law_1198, zr_L_law_1199, zr_L_law_1200, zr_L_law_1200n, zr_L_law_1201, zr_L_law_1203, zr_L_law_1204, zr_L_law_1205, zr_L_law_1206, zr_L_law_1209, zr_L_law_1212, zr_L_law_1213, z_rd1 hb hL hi, z_rd2 hb hL hi, z_rd3 hb hL hi, z_rd4 hb hL hi, z_rd1 b1 hL hi, z_rd2 b1 hL hi, z_rd3 b1 hL hi, z_rd4 b1 hL hi, hX.cls, hD1.cls, x1, d1, lg_cmp_self, eq_self, z_obs, z_pu_s, z_pu_n, z00, z10, ↓reduceIte, true_or, or_true, z_b_t, z_b_f]
theorem lw_32 (h : LW G x s ib u hs n E.1) (hL : E.2.1 < 2 ^ 31) {i : Nat} (hi : i + 6 ≤ E.2.1) (l5 l6 l7 : Option Value) : Nx E lv x i 1214 n k G l5 l6 l7 := by
  unfold Nx
  obtain ⟨hX, hD, -, h134, hb, hlt, gs, gu, hk⟩ := id h
  obtain ⟨n1, k1, G1, x1, y1, y2, y3, y4, x2, x3⟩ := xRow (E := E) (lv := 0) (k := k) hX h134 (E.2.2 (i + 1)) (E.2.2 (i + 2)) (E.2.2 (i + 3))
  have hD1 := h.d1 x3
  have b1 := h.b1 x3
  obtain ⟨G2, d1, d2, d3⟩ := dRow (E := E) (lv := 0) (N := n1) (k := k1) hD1 (E.2.2 (i + 1)) (E.2.2 (i + 2)) (E.2.2 (i + 3))
  refine ⟨n1, k1, G2, _, _, _, _, l5, l6, l7, ?_, h.twoN (y1) x2 x3 d2 d3 (gs) (gu) (aRow_ok hk _ _ _), y1, by omega, y4, by omega⟩
  simp only [zr_L_law_1214, zr_L_law_1215, zr_L_law_1215n, zr_L_law_1216, zr_L_law_1218, zr_L_law_1219, zr_L_law_1220, zr_L_law_1221, zr_L_law_1221n, zr_L_law_1222, zr_L_law_1224, zr_L_law_1225, zr_L_law_1226, zr_L_law_1227, zr_L_law_1227n, zr_L_law_1228, zr_L_law_1230, zr_L_law_1231, zr_L_law_1232, zr_L_law_1233, zr_L_law_1236, zr_L_law_1237, zr_L_law_1237n, zr_L_law_1238, zr_L_law_1240, zr_L_law_1241, zr_L_law_1242, zr_L_law_1243, zr_L_law_1243n, zr_L_law_1244, zr_L_law_1246, zr_L_law_1247, zr_L_law_1248, zr_L_law_1249, zr_L_law_1249n, zr_L_law_1250, zr_L_law_1252, zr_L_law_1253, zr_L_law_1254, zr_L_law_1255, zr_L_law_1258, zr_L_law_1261, zr_L_law_1262, z_rd1 hb hL hi, z_rd2 hb hL hi, z_rd3 hb hL hi, z_rd1 b1 hL hi, z_rd2 b1 hL hi, z_rd3 b1 hL hi, hX.cls, hD1.cls, x1, d1, lg_cmp_self, eq_self, z_obs, z_pu_s, z_pu_n, z00, z10, ↓reduceIte, true_or, or_true, z_b_t, z_b_f]
theorem lw_33 (h : LW G x s ib u hs n E.1) (hL : E.2.1 < 2 ^ 31) {i : Nat} (hi : i + 6 ≤ E.2.1) (l5 l6 l7 : Option Value) : Nx E lv x i 1263 n k G l5 l6 l7 := by
  unfold Nx
  obtain ⟨hX, hD, -, h134, hb, hlt, gs, gu, hk⟩ := id h
  obtain ⟨G1, x1, x2, x3⟩ := xPut (E := E) (lv := 0) (N := n) (k := k) hX (E.2.2 (i + 1)) (E.2.2 (i + 2)) (E.2.2 (i + 3))
  have hD1 := h.d1 x3
  have b1 := h.b1 x3
  obtain ⟨G2, d1, d2, d3⟩ := dPut (E := E) (lv := 0) (N := n) (k := k) hD1 (E.2.2 (i + 1)) (E.2.2 (i + 2)) (E.2.2 (i + 3))
  refine ⟨n, k, G2, _, _, _, _, l5, l6, l7, ?_, h.twoN (Nat.le_refl _) x2 x3 d2 d3 (gs) (gu) (aPut_ok hk _ _ _), Nat.le_refl _, by omega, Nat.le_refl _, by omega⟩
  simp only [zr_L_law_1263, zr_L_law_1264, zr_L_law_1264n, zr_L_law_1265, zr_L_law_1267, zr_L_law_1268, zr_L_law_1269, zr_L_law_1270, zr_L_law_1270n, zr_L_law_1271, zr_L_law_1273, zr_L_law_1274, zr_L_law_1275, zr_L_law_1276, zr_L_law_1276n, zr_L_law_1277, zr_L_law_1279, zr_L_law_1280, zr_L_law_1281, zr_L_law_1282, zr_L_law_1285, zr_L_law_1286, zr_L_law_1286n, zr_L_law_1287, zr_L_law_1289, zr_L_law_1290, zr_L_law_1291, zr_L_law_1292, zr_L_law_1292n, zr_L_law_1293, zr_L_law_1295, zr_L_law_1296, zr_L_law_1297, zr_L_law_1298, zr_L_law_1298n, zr_L_law_1299, zr_L_law_1301, zr_L_law_1302, zr_L_law_1303, zr_L_law_1304, zr_L_law_1307, zr_L_law_1310, zr_L_law_1311, z_rd1 hb hL hi, z_rd2 hb hL hi, z_rd3 hb hL hi, z_rd1 b1 hL hi, z_rd2 b1 hL hi, z_rd3 b1 hL hi, hX.cls, hD1.cls, x1, d1, lg_cmp_self, eq_self, z_obs, z_pu_s, z_pu_n, z00, z10, ↓reduceIte, true_or, or_true, z_b_t, z_b_f]
theorem lw_35 (h : LW G x s ib u hs n E.1) (hL : E.2.1 < 2 ^ 31) {i : Nat} (hi : i + 6 ≤ E.2.1) (l5 l6 l7 : Option Value) : Nx E lv x i 1379 n k G l5 l6 l7 := by
  unfold Nx
  obtain ⟨hX, hD, -, h134, hb, hlt, gs, gu, hk⟩ := id h
  obtain ⟨G1, x1, x2, x3⟩ := xCopy (E := E) (lv := 0) (N := n) (k := k) hX (E.2.2 (i + 1)) (E.2.2 (i + 2)) (E.2.2 (i + 3)) (E.2.2 (i + 4)) (E.2.2 (i + 5))
  have hD1 := h.d1 x3
  have b1 := h.b1 x3
  obtain ⟨G2, d1, d2, d3⟩ := dCopy (E := E) (lv := 0) (N := n) (k := k) hD1 (E.2.2 (i + 1)) (E.2.2 (i + 2)) (E.2.2 (i + 3)) (E.2.2 (i + 4)) (E.2.2 (i + 5))
  refine ⟨n, k, G2, _, _, _, _, l5, l6, l7, ?_, h.twoN (Nat.le_refl _) x2 x3 d2 d3 (gs) (gu) (aCopy_ok hD hk _ _ _ _ _), Nat.le_refl _, by omega, Nat.le_refl _, by omega⟩
  simp only [zr_L_law_1379, zr_L_law_1380, zr_L_law_1380n, zr_L_law_1381, zr_L_law_1383, zr_L_law_1384, zr_L_law_1385, zr_L_law_1386, zr_L_law_1386n, zr_L_law_1387, zr_L_law_1389, zr_L_law_1390, zr_L_law_1391, zr_L_law_1392, zr_L_law_1392n, zr_L_law_1393, zr_L_law_1395, zr_L_law_1396, zr_L_law_1397, zr_L_law_1398, zr_L_law_1398n, zr_L_law_1399, zr_L_law_1401, zr_L_law_1402, zr_L_law_1403, zr_L_law_1404, zr_L_law_1404n, zr_L_law_1405, zr_L_law_1407, zr_L_law_1408, zr_L_law_1409, zr_L_law_1410, zr_L_law_1413, zr_L_law_1414, zr_L_law_1414n, zr_L_law_1415, zr_L_law_1417, zr_L_law_1418, zr_L_law_1419, zr_L_law_1420, zr_L_law_1420n, zr_L_law_1421, zr_L_law_1423, zr_L_law_1424, zr_L_law_1425, zr_L_law_1426, zr_L_law_1426n, zr_L_law_1427, zr_L_law_1429, zr_L_law_1430, zr_L_law_1431, zr_L_law_1432, zr_L_law_1432n, zr_L_law_1433, zr_L_law_1435, zr_L_law_1436, zr_L_law_1437, zr_L_law_1438, zr_L_law_1438n, zr_L_law_1439, zr_L_law_1441, zr_L_law_1442, zr_L_law_1443, zr_L_law_1444, zr_L_law_1447, zr_L_law_1450, zr_L_law_1451, z_rd1 hb hL hi, z_rd2 hb hL hi, z_rd3 hb hL hi, z_rd4 hb hL hi, z_rd5 hb hL hi, z_rd1 b1 hL hi, z_rd2 b1 hL hi, z_rd3 b1 hL hi, z_rd4 b1 hL hi, z_rd5 b1 hL hi, hX.cls, hD1.cls, x1, d1, lg_cmp_self, eq_self, z_obs, z_pu_s, z_pu_n, z00, z10, ↓reduceIte, true_or, or_true, z_b_t, z_b_f]
theorem lw_36 (h : LW G x s ib u hs n E.1) (hL : E.2.1 < 2 ^ 31) {i : Nat} (hi : i + 6 ≤ E.2.1) (l5 l6 l7 : Option Value) : Nx E lv x i 1452 n k G l5 l6 l7 := by
  unfold Nx
  obtain ⟨hX, hD, -, h134, hb, hlt, gs, gu, hk⟩ := id h
  have x1 := xCost (E := E) (lv := 0) (N := n) (k := k) hX (E.2.2 (i + 1))
  have x2 := hX
  have x3 : XF x G G := XF.rf
  have hD1 := h.d1 x3
  have b1 := h.b1 x3
  have d1 := dCost (E := E) (lv := 0) (N := n) (k := k) hD1 (E.2.2 (i + 1))
  have d2 := hD1
  have d3 : FR (x + 118) 15 G G := FR.rf
  refine ⟨n, k, G, _, _, _, _, l5, l6, l7, ?_, h.twoN (Nat.le_refl _) x2 x3 d2 d3 (gs) (gu) (hk), Nat.le_refl _, by omega, Nat.le_refl _, by omega⟩
  simp only [zr_L_law_1452, zr_L_law_1453, zr_L_law_1453n, zr_L_law_1454, zr_L_law_1456, zr_L_law_1457, zr_L_law_1458, zr_L_law_1459, zr_L_law_1462, zr_L_law_1463, zr_L_law_1463n, zr_L_law_1464, zr_L_law_1466, zr_L_law_1467, zr_L_law_1468, zr_L_law_1469, zr_L_law_1472, zr_L_law_1475, zr_L_law_1476, z_rd1 hb hL hi, hX.cls, hD1.cls, x1, d1, lg_cmp_self, eq_self, z_obs, z_pu_s, z_pu_n, z00, z10, ↓reduceIte, true_or, or_true, z_b_t, z_b_f]
theorem lw_37 (h : LW G x s ib u hs n E.1) (hL : E.2.1 < 2 ^ 31) {i : Nat} (hi : i + 6 ≤ E.2.1) (l5 l6 l7 : Option Value) : Nx E lv x i 1477 n k G l5 l6 l7 := by
  unfold Nx
  obtain ⟨hX, hD, -, h134, hb, hlt, gs, gu, hk⟩ := id h
  obtain ⟨n1, k1, x1, y1, y2, y3, y4⟩ := xToss (E := E) (lv := 0) (N := n) (k := k) hX (E.2.2 (i + 1))
  have x2 : XW G x s ib u hs n1 := hX.same y1 fun _ _ => rfl
  have x3 : XF x G G := XF.rf
  have hD1 := h.d1 x3
  have b1 := h.b1 x3
  have d1 := dToss (E := E) (lv := 0) (N := n1) (k := k1) hD1 (E.2.2 (i + 1))
  have d2 := hD1
  have d3 : FR (x + 118) 15 G G := FR.rf
  refine ⟨n1, k1, G, _, _, _, _, l5, l6, l7, ?_, h.twoN (y1) x2 x3 d2 d3 (gs) (gu) (hk), y1, by omega, y3, by omega⟩
  simp only [zr_L_law_1477, zr_L_law_1478, zr_L_law_1478n, zr_L_law_1479, zr_L_law_1481, zr_L_law_1482, zr_L_law_1483, zr_L_law_1484, zr_L_law_1487, zr_L_law_1488, zr_L_law_1488n, zr_L_law_1489, zr_L_law_1491, zr_L_law_1492, zr_L_law_1493, zr_L_law_1494, zr_L_law_1497, zr_L_law_1500, zr_L_law_1501, z_rd1 hb hL hi, hX.cls, hD1.cls, x1, d1, lg_cmp_self, eq_self, z_obs, z_pu_s, z_pu_n, z00, z10, ↓reduceIte, true_or, or_true, z_b_t, z_b_f]
end
theorem out_f {sz : Nat} (hz : sz ≤ 100) {i : Int32} (h : inR i sz = false) : z_out i sz = true := by
  unfold z_out
  by_cases h0 : i < 0
  · simp only [h0, decide_true, Bool.true_or]
  · obtain ⟨j, j1, rfl⟩ := nI_of h0
    have c : ¬ j < sz := fun c => by rw [inR_nI (by omega) c] at h; cases h
    rw [nI_clamp j1]
    simp only [show sz ≤ j by omega, decide_true, Bool.or_true]
theorem pr_elem {E : z_E} {G : z_H} {x : Nat} {s u : Nat → Nat} {ib : Bool} {hs : Nat → Sh} {n : Nat} (N k : Nat) (hX : XW G x s ib u hs n) {g0 : Nat → Int64} (ho : G (x + 133) = some (.inr (.long, 1, .inr (.inl g0)))) (d i : Int32) : ∃ N' k' G' g, z_evM E 1001 0 [.ref x, .int d, .int i, .ref (x + 133)] N k G = some (some (.int (elT hs d i)), N', k', G') ∧ N ≤ N' ∧ N' ≤ N + 1 ∧ k ≤ k' ∧ k' ≤ k + 6 ∧ (∀ q, q ≠ x + 133 → G' q = G q) ∧ G' (x + 133) = some (.inr (.long, 1, .inr (.inl g))) ∧ (elT hs d i = 0 → g 0 = elV hs d i) := by
  have hp : ∀ as, z_evM E 1001 0 as N k G = z_prim 1001 as N k G := by intro as; unfold z_evM; rfl
  have e1 : ((1001 : Nat) = 1000) = False := eq_false (by decide)
  have hcl : z_clsOf G x = some 11 := hX.cls
  obtain ⟨o, -, -, -, -, -, ⟨fB, fR, -, h30, sh, -⟩, -⟩ := id hX
  have bad : ∀ t : Int32, elT hs d i = t → t ≠ 0 → z_prim 1001 [.ref x, .int d, .int i, .ref (x + 133)] N k G = some (some (.int t), N + 1, k + 6, G) → ∃ N' k' G' g, z_evM E 1001 0 [.ref x, .int d, .int i, .ref (x + 133)] N k G = some (some (.int (elT hs d i)), N', k', G') ∧ N ≤ N' ∧ N' ≤ N + 1 ∧ k ≤ k' ∧ k' ≤ k + 6 ∧ (∀ q, q ≠ x + 133 → G' q = G q) ∧ G' (x + 133) = some (.inr (.long, 1, .inr (.inl g))) ∧ (elT hs d i = 0 → g 0 = elV hs d i) :=
    fun t e ne hz => ⟨N + 1, k + 6, G, g0, by rw [hp, hz, e], by omega, Nat.le_refl _, by omega, Nat.le_refl _, fun _ _ => rfl, ho, fun z => absurd (e.symm.trans z) ne⟩
  cases hd : inR d 8
  · refine bad 1 (by unfold elT; rw [hd]; rfl) (by decide) ?_
    have c : d < 0 ∨ 8 ≤ d := by
      by_cases h0 : d < 0
      · exact Or.inl h0
      · obtain ⟨j, j1, rfl⟩ := nI_of h0
        have c : ¬ j < 8 := fun c => by rw [inR_nI (by decide) c] at hd; cases hd
        exact Or.inr ((nI_leI (show 8 < 2 ^ 31 by decide) j1).mpr (by omega))
    unfold z_prim
    simp only [e1, hcl, eq_self, ↓reduceIte]
    rw [if_pos c]
  · obtain ⟨d, d8, rfl⟩ := inR_of (by decide) hd
    have nd : ¬ (nI d < 0 ∨ 8 ≤ nI d) := (by decide : ∀ d, d < 8 → ¬ (nI d < 0 ∨ 8 ≤ nI d)) d d8
    have g6 : z_gf G x [6, 11, 11, 0, 0] = some (.ref (x + 30)) := z_gfI o (by decide) (by decide) rfl
    have q : z_aq G (x + 30) (nI d) = some (va_rf (fR d)) := z_aqI h30 d8 (by decide)
    have sd := sh d d8
    rcases e : hs d with _ | ⟨kk, ff⟩ | ⟨so, sz, el⟩
    · rw [e] at sd
      obtain ⟨-, f2⟩ := sd
      refine bad 2 (by unfold elT; rw [if_pos hd, jN_nI (by omega), e]) (by decide) ?_
      unfold z_prim
      simp only [e1, hcl, eq_self, ↓reduceIte]
      rw [if_neg nd]
      simp only [g6, q, f2, va_rf]
    · rw [e] at sd
      obtain ⟨-, -, -, f2⟩ := sd
      refine bad 2 (by unfold elT; rw [if_pos hd, jN_nI (by omega), e]) (by decide) ?_
      unfold z_prim
      simp only [e1, hcl, eq_self, ↓reduceIte]
      rw [if_neg nd]
      simp only [g6, q, f2, va_rf]
    · rw [e] at sd
      obtain ⟨-, sz1, -, r, f2, -, -, ra, g, hg, hge⟩ := sd
      have r1 : z_gf G r [1, 9, 9, 0, 0] = some (.ref (r + 1)) := z_gfI ra (by decide) (by decide) rfl
      have hN : sz < 2147483648 := by omega
      cases hi : inR i sz
      · refine bad 2 (by unfold elT; rw [if_pos hd, jN_nI (by omega), e]; dsimp only; rw [hi]; rfl) (by decide) ?_
        unfold z_prim
        simp only [e1, hcl, eq_self, ↓reduceIte]
        rw [if_neg nd]
        simp only [g6, q, f2, va_rf, r1, hg, hN, out_f sz1 hi, ↓reduceIte]
      · obtain ⟨j, j1, rfl⟩ := inR_of (by omega) hi
        have zo := z_out_nI j1 (show sz < 2 ^ 31 by omega)
        have cl : (nI j).toNatClampNeg = j := nI_clamp (by omega)
        have pl : z_pl G (x + 133) 0 (g j).toInt64 = some (z_up G (x + 133) (.inr (.long, 1, .inr (.inl (vp_updL g0 0 (g j).toInt64))))) := z_plI (j := 0) (v := (g j).toInt64) ho (by decide) (by decide)
        refine ⟨N, k, z_up G (x + 133) (.inr (.long, 1, .inr (.inl (vp_updL g0 0 (g j).toInt64)))), vp_updL g0 0 (g j).toInt64, ?_, Nat.le_refl _, by omega, Nat.le_refl _, by omega, fun q hq => z_up_n _ _ hq, z_up_s _ _ _, fun _ => ?_⟩
        · rw [hp]
          unfold elT
          rw [if_pos hd, jN_nI (by omega), e]
          dsimp only
          rw [if_pos hi]
          unfold z_prim
          simp only [e1, hcl, eq_self, ↓reduceIte]
          rw [if_neg nd]
          simp only [g6, q, f2, va_rf, r1, hg, hN, zo, cl, pl, Bool.false_eq_true, ↓reduceIte]
        · rw [pk_uLs]
          unfold elV
          rw [jN_nI (show d < 2 ^ 31 by omega), e]
          dsimp only
          rw [jN_nI (show j < 2 ^ 31 by omega), hge j j1]
theorem lw_34 {E : z_E} {G : z_H} {x : Nat} {s u : Nat → Nat} {ib : Bool} {hs : Nat → Sh} {n : Nat} (lv k : Nat) (h : LW G x s ib u hs n E.1) (hL : E.2.1 < 2 ^ 31) {i : Nat} (hi : i + 6 ≤ E.2.1) (l5 l6 l7 : Option Value) : Nx E lv x i 1312 n k G l5 l6 l7 := by
  obtain ⟨hX, hD, ⟨g0, hg0⟩, h134, hb, hlt, gs, gu, hk⟩ := id h
  obtain ⟨n1, k1, G1, g, x1, y1, y2, y3, y4, y5, y6, y7⟩ := pr_elem (E := E) n k hX hg0 (E.2.2 (i + 1)) (E.2.2 (i + 2))
  have x2 : XW G1 x s ib u hs n1 := hX.same y1 fun q hq => y5 q (by omega)
  have hD1 : DW G1 (x + 118) s ib u hs := hD.same fun q q1 q2 => y5 q (by omega)
  have b1 : G1 E.1 = none := by rw [y5 _ (by omega)]; exact hb
  obtain ⟨G2, d1, d2, d3, d4⟩ := dElement (E := E) (lv := 0) (N := n1) (k := k1) hD1 (E.2.2 (i + 1)) (E.2.2 (i + 2))
  have t1 := dThrown (E := E) (lv := 0) (N := n1) (k := k1) d4
  have l1 : z_al G2 (x + 133) 0 = some (g 0) := z_alI (j := 0) (by rw [d3 _ (by omega)]; exact y6) (by decide) (by decide)
  have w2 : LW G2 x s ib u hs n1 E.1 := ⟨x2.same (Nat.le_refl _) fun q hq => d3 q (by omega), d2, ⟨g, by rw [d3 _ (by omega)]; exact y6⟩, by omega, by rw [d3 _ (by omega)]; exact b1, hlt, gs, gu, hk⟩
  unfold Nx
  refine ⟨n1, k1, G2, _, _, _, _, some (.int (elT hs (E.2.2 (i + 1)) (E.2.2 (i + 2)))), some (.long (if elT hs (E.2.2 (i + 1)) (E.2.2 (i + 2)) = 0 then elV hs (E.2.2 (i + 1)) (E.2.2 (i + 2)) else 0)), none, ?_, w2, y1, by omega, y3, by omega⟩
  by_cases c : elT hs (E.2.2 (i + 1)) (E.2.2 (i + 2)) = 0
  · have c2 : g 0 = elV hs (E.2.2 (i + 1)) (E.2.2 (i + 2)) := y7 c
    rw [c] at x1 d1 t1
    simp only [zr_L_law_1312, zr_L_law_1313, zr_L_law_1313n, zr_L_law_1314, zr_L_law_1316, zr_L_law_1317, zr_L_law_1318, zr_L_law_1319, zr_L_law_1319n, zr_L_law_1320, zr_L_law_1322, zr_L_law_1323, zr_L_law_1324, zr_L_law_1325, zr_L_law_1326, zr_L_law_1329, zr_L_law_1331, zr_L_law_1332, zr_L_law_1332n, zr_L_law_1333, zr_L_law_1335, zr_L_law_1336, zr_L_law_1337, zr_L_law_1338, zr_L_law_1338n, zr_L_law_1339, zr_L_law_1341, zr_L_law_1342, zr_L_law_1343, zr_L_law_1344, zr_L_law_1347, zr_L_law_1349, zr_L_law_1350, zr_L_law_1353, zr_L_law_1355, zr_L_law_1358, zr_L_law_1359, zr_L_law_1360, zr_L_law_1362, zr_L_law_1365, zr_L_law_1366, zr_L_law_1367, zr_L_law_1368, zr_L_law_1370, zr_L_law_1371, zr_L_law_1374, zr_L_law_1375, zr_L_law_1376, z_rd1 hb hL hi, z_rd2 hb hL hi, z_rd1 b1 hL hi, z_rd2 b1 hL hi, hD1.cls, d2.cls, x1, d1, t1, l1, c, c2, lg_cmp_self, eq_self, z_obs, z_pu_s, z_pu_n, z00, z10, ↓reduceIte, true_or, or_true, z_b_t, z_b_f]
  · simp only [zr_L_law_1312, zr_L_law_1313, zr_L_law_1313n, zr_L_law_1314, zr_L_law_1316, zr_L_law_1317, zr_L_law_1318, zr_L_law_1319, zr_L_law_1319n, zr_L_law_1320, zr_L_law_1322, zr_L_law_1323, zr_L_law_1324, zr_L_law_1325, zr_L_law_1326, zr_L_law_1329, zr_L_law_1331, zr_L_law_1332, zr_L_law_1332n, zr_L_law_1333, zr_L_law_1335, zr_L_law_1336, zr_L_law_1337, zr_L_law_1338, zr_L_law_1338n, zr_L_law_1339, zr_L_law_1341, zr_L_law_1342, zr_L_law_1343, zr_L_law_1344, zr_L_law_1347, zr_L_law_1349, zr_L_law_1350, zr_L_law_1353, zr_L_law_1355, zr_L_law_1358, zr_L_law_1359, zr_L_law_1360, zr_L_law_1362, zr_L_law_1365, zr_L_law_1366, zr_L_law_1367, zr_L_law_1368, zr_L_law_1370, zr_L_law_1371, zr_L_law_1374, zr_L_law_1375, zr_L_law_1376, z_rd1 hb hL hi, z_rd2 hb hL hi, z_rd1 b1 hL hi, z_rd2 b1 hL hi, hD1.cls, d2.cls, x1, d1, t1, l1, c, eq_self, z_obs, z_pu_s, z_pu_n, z00, z10, ↓reduceIte, true_or, or_true, z_b_t, z_b_f]
