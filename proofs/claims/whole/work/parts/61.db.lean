/-! THE MODEL: rings, hours, copies -/
theorem uR_K (s : Nat → Nat) (j v b : Nat) : sK (uN s (6 + 5 * j) v) b = sK s b := uN_n _ _ (by omega)
theorem uR_F (s : Nat → Nat) (j v b : Nat) : sF (uN s (6 + 5 * j) v) b = sF s b := uN_n _ _ (by omega)
theorem uR_P (s : Nat → Nat) (j v b : Nat) : sP (uN s (6 + 5 * j) v) b = sP s b := uN_n _ _ (by omega)
theorem uR_O (s : Nat → Nat) (j v b : Nat) : sO (uN s (6 + 5 * j) v) b = sO s b := uN_n _ _ (by omega)
theorem uR_R (s : Nat → Nat) (j v b : Nat) : sR (uN s (6 + 5 * j) v) b = if b = j then v else sR s b := by
  by_cases h : b = j
  · subst h; rw [if_pos rfl]; exact uN_s _ _ _
  · rw [if_neg h]; exact uN_n _ _ (by omega)
theorem uR_W (s : Nat → Nat) (j v b : Nat) : sW (uN s (6 + 5 * j) v) b = sW s b := by unfold sW; rw [uR_K, uR_F]
theorem uR_S (s : Nat → Nat) (j v b : Nat) : sS (uN s (6 + 5 * j) v) b = sS s b := by unfold sS; rw [uR_K, uR_F]
theorem uO_K (s : Nat → Nat) (j v b : Nat) : sK (uN s (7 + 5 * j) v) b = sK s b := uN_n _ _ (by omega)
theorem uO_F (s : Nat → Nat) (j v b : Nat) : sF (uN s (7 + 5 * j) v) b = sF s b := uN_n _ _ (by omega)
theorem uN_self (s : Nat → Nat) (i : Nat) : uN s i (s i) = s := by
  funext j; unfold uN; by_cases h : j = i
  · rw [if_pos h, h]
  · rw [if_neg h]
theorem uR_WF {s : Nat → Nat} (w : WF s) {j v : Nat} (hv : v < 10) : WF (uN s (6 + 5 * j) v) := by
  refine ⟨by rw [uN_n _ _ (by omega)]; exact w.1, by rw [uN_n _ _ (by omega)]; exact w.2.1, Nat.zero_le _, fun b hb => ?_⟩
  rw [uN_n _ _ (by omega)] at hb
  have q := w.2.2.2 b hb
  rw [uR_K, uR_F, uR_P, uR_O, uR_R]
  refine ⟨q.1, q.2.1, q.2.2.1, ?_, q.2.2.2.2⟩
  split
  · exact hv
  · exact q.2.2.2.1
/-- a ring, somebody home or nobody -/
def raH (s : Nat → Nat) (j : Nat) (o : Bool) : Nat := if o = true then (if sW s j ≤ sR s j + 1 then sS s j + 100 else sS s j * (sR s j + 1) / sW s j) else 0
def raS (s : Nat → Nat) (j : Nat) (o : Bool) : Nat → Nat := if o = true then (if sW s j ≤ sR s j + 1 then uN (uN s (6 + 5 * j) 0) (7 + 5 * j) (min 99 (sO s j + 1)) else uN s (6 + 5 * j) (sR s j + 1)) else uN s (6 + 5 * j) 0
theorem raH_rg (s : Nat → Nat) (j : Nat) : raH s j (sH s j (s 1)) = rgH s j := rfl
theorem raS_rg (s : Nat → Nat) (j : Nat) : raS s j (sH s j (s 1)) = rgS s j := rfl
section
variable {E : z_E} {G : z_H} {p : Nat} {s : Nat → Nat} (lv N k : Nat)
theorem sD_ringsAs (h : IA G p s) (w : WF s) {j : Nat} (hj : j < s 0) (o : Bool) : ∃ G', z_evM E i_D_ringsAs lv [.ref p, .int (nI j), .int (z_b o)] N k G = some (some (.int (nI (raH s j o))), N, k, G') ∧ IA G' p (raS s j o) ∧ FR p 1 G G' := by
  have hj6 : j < 6 := Nat.lt_of_lt_of_le hj w.1
  obtain ⟨q1, q2, q3, q4, q5⟩ := w.2.2.2 j hj
  have q6 := wt_le _ q1 _ q2
  have q6a : 1 ≤ sW s j := q6.1
  have q6b : sW s j ≤ 10 := q6.2.1
  have q6c : sS s j ≤ 25 := q6.2.2
  unfold raH raS
  cases o
  · obtain ⟨G1, p1, p2, p3⟩ := h.wr (j := 6 + 5 * j) 0 (by omega)
    rw [nI_0] at p1
    refine ⟨G1, ?_, p2, p3⟩
    simp only [zm_D_ringsAs, zr_D_ringsAs_0, zr_D_ringsAs_0n, zr_D_ringsAs_1, zr_D_ringsAs_2, zr_D_ringsAs_3, zr_D_ringsAs_6, zr_D_ringsAs_7, zr_D_ringsAs_10, zr_D_ringsAs_10n, zr_D_ringsAs_11, zr_D_ringsAs_12, zr_D_ringsAs_13, zr_D_ringsAs_16, zr_D_ringsAs_17, zr_D_ringsAs_18, zr_D_ringsAs_19, zr_D_ringsAs_22, zr_D_ringsAs_23, zr_D_ringsAs_24, zr_D_ringsAs_25, zr_D_ringsAs_28, zr_D_ringsAs_29, zr_D_ringsAs_30, zr_D_ringsAs_30n, zr_D_ringsAs_31, zr_D_ringsAs_32, zr_D_ringsAs_33, zr_D_ringsAs_36, zr_D_ringsAs_37, zr_D_ringsAs_37n, zr_D_ringsAs_38, zr_D_ringsAs_39, zr_D_ringsAs_42, zr_D_ringsAs_45, zr_D_ringsAs_45n, zr_D_ringsAs_46, zr_D_ringsAs_47, zr_D_ringsAs_50, zr_D_ringsAs_50n, zr_D_ringsAs_51, zr_D_ringsAs_52, zr_D_ringsAs_53, zr_D_ringsAs_56, zr_D_ringsAs_57, zr_D_ringsAs_58, zr_D_ringsAs_58n, zr_D_ringsAs_59, zr_D_ringsAs_60, zr_D_ringsAs_63, zr_D_ringsAs_64, zr_D_ringsAs_65, zr_D_ringsAs_65n, zr_D_ringsAs_66, zr_D_ringsAs_67, zr_D_ringsAs_68, zr_D_ringsAs_71, zr_D_ringsAs_72, zr_D_ringsAs_73, zr_D_ringsAs_73n, zr_D_ringsAs_74, zr_D_ringsAs_75, zr_D_ringsAs_76, zr_D_ringsAs_79, zr_D_ringsAs_81, zr_D_ringsAs_81n, zr_D_ringsAs_82, zr_D_ringsAs_83, zr_D_ringsAs_84, zr_D_ringsAs_87, zr_D_ringsAs_88, zr_D_ringsAs_89, zr_D_ringsAs_90, zr_D_ringsAs_93, zr_D_ringsAs_94, zr_D_ringsAs_94n, zr_D_ringsAs_95, zr_D_ringsAs_96, zr_D_ringsAs_99, zr_D_ringsAs_101, zr_D_ringsAs_102, sD_of3, p1, z_obs, z_pu_s, z_pu_n, z00, z10, ↓reduceIte, true_or, or_true, z_b_t, z_b_f, Bool.false_eq_true, nI_0]
  · obtain ⟨G1, p1, p2, p3⟩ := h.wr (j := 6 + 5 * j) (sR s j + 1) (by omega)
    have w1 : ∀ lv N k, z_evM E i_D_wantsOf lv [.ref p, .int (nI j)] N k G1 = some (some (.int (nI (sW s j))), N, k, G1) := by
      intro lv N k
      have hk := p2.k0 (E := E) hj6
      have hf := p2.k1 (E := E) hj6
      rw [uR_K] at hk
      rw [uR_F] at hf
      simp only [zm_D_wantsOf, zr_D_wantsOf_0, zr_D_wantsOf_0n, zr_D_wantsOf_1, zr_D_wantsOf_2, zr_D_wantsOf_3, zr_D_wantsOf_6, zr_D_wantsOf_7, zr_D_wantsOf_7n, zr_D_wantsOf_8, zr_D_wantsOf_9, zr_D_wantsOf_10, zr_D_wantsOf_13, zr_D_wantsOf_14, zr_D_wantsOf_17, sD_of0, sD_of1, hk, hf, sD_wants _ _ _ _ q1 q2, z_obs, z_pu_s, z_pu_n, z00, z10, ↓reduceIte, true_or, or_true, z_b_t, z_b_f]
      rfl
    have w2 : ∀ lv N k, z_evM E i_D_stepsOf lv [.ref p, .int (nI j)] N k G1 = some (some (.int (nI (sS s j))), N, k, G1) := by
      intro lv N k
      have hk := p2.k0 (E := E) hj6
      have hf := p2.k1 (E := E) hj6
      rw [uR_K] at hk
      rw [uR_F] at hf
      simp only [zm_D_stepsOf, zr_D_stepsOf_0, zr_D_stepsOf_0n, zr_D_stepsOf_1, zr_D_stepsOf_2, zr_D_stepsOf_3, zr_D_stepsOf_6, zr_D_stepsOf_7, zr_D_stepsOf_7n, zr_D_stepsOf_8, zr_D_stepsOf_9, zr_D_stepsOf_10, zr_D_stepsOf_13, zr_D_stepsOf_14, zr_D_stepsOf_17, sD_of0, sD_of1, hk, hf, sD_steps _ _ _ _ q1 q2, z_obs, z_pu_s, z_pu_n, z00, z10, ↓reduceIte, true_or, or_true, z_b_t, z_b_f]
      rfl
    have r3 := p2.k3 (E := E) hj6
    rw [uR_R, if_pos rfl] at r3
    by_cases hle : sW s j ≤ sR s j + 1
    · have c : nI (sW s j) ≤ nI (sR s j + 1) := nI_le hle (by omega)
      obtain ⟨G2, a1, a2, a3⟩ := p2.wr (j := 6 + 5 * j) 0 (by omega)
      rw [nI_0] at a1
      rw [uN_u] at a2
      have r4 := a2.k4 (E := E) hj6
      rw [uR_O] at r4
      obtain ⟨G3, b1, b2, b3⟩ := a2.wr (j := 7 + 5 * j) (min 99 (sO s j + 1)) (by omega)
      have w3 : ∀ lv N k, z_evM E i_D_stepsOf lv [.ref p, .int (nI j)] N k G3 = some (some (.int (nI (sS s j))), N, k, G3) := by
        intro lv N k
        have hk := b2.k0 (E := E) hj6
        have hf := b2.k1 (E := E) hj6
        rw [uO_K, uR_K] at hk
        rw [uO_F, uR_F] at hf
        simp only [zm_D_stepsOf, zr_D_stepsOf_0, zr_D_stepsOf_0n, zr_D_stepsOf_1, zr_D_stepsOf_2, zr_D_stepsOf_3, zr_D_stepsOf_6, zr_D_stepsOf_7, zr_D_stepsOf_7n, zr_D_stepsOf_8, zr_D_stepsOf_9, zr_D_stepsOf_10, zr_D_stepsOf_13, zr_D_stepsOf_14, zr_D_stepsOf_17, sD_of0, sD_of1, hk, hf, sD_steps _ _ _ _ q1 q2, z_obs, z_pu_s, z_pu_n, z00, z10, ↓reduceIte, true_or, or_true, z_b_t, z_b_f]
        rfl
      refine ⟨G3, ?_, by simpa [hle] using b2, (p3.tr a3).tr b3⟩
      simp only [zm_D_ringsAs, zr_D_ringsAs_0, zr_D_ringsAs_0n, zr_D_ringsAs_1, zr_D_ringsAs_2, zr_D_ringsAs_3, zr_D_ringsAs_6, zr_D_ringsAs_7, zr_D_ringsAs_10, zr_D_ringsAs_10n, zr_D_ringsAs_11, zr_D_ringsAs_12, zr_D_ringsAs_13, zr_D_ringsAs_16, zr_D_ringsAs_17, zr_D_ringsAs_18, zr_D_ringsAs_19, zr_D_ringsAs_22, zr_D_ringsAs_23, zr_D_ringsAs_24, zr_D_ringsAs_25, zr_D_ringsAs_28, zr_D_ringsAs_29, zr_D_ringsAs_30, zr_D_ringsAs_30n, zr_D_ringsAs_31, zr_D_ringsAs_32, zr_D_ringsAs_33, zr_D_ringsAs_36, zr_D_ringsAs_37, zr_D_ringsAs_37n, zr_D_ringsAs_38, zr_D_ringsAs_39, zr_D_ringsAs_42, zr_D_ringsAs_45, zr_D_ringsAs_45n, zr_D_ringsAs_46, zr_D_ringsAs_47, zr_D_ringsAs_50, zr_D_ringsAs_50n, zr_D_ringsAs_51, zr_D_ringsAs_52, zr_D_ringsAs_53, zr_D_ringsAs_56, zr_D_ringsAs_57, zr_D_ringsAs_58, zr_D_ringsAs_58n, zr_D_ringsAs_59, zr_D_ringsAs_60, zr_D_ringsAs_63, zr_D_ringsAs_64, zr_D_ringsAs_65, zr_D_ringsAs_65n, zr_D_ringsAs_66, zr_D_ringsAs_67, zr_D_ringsAs_68, zr_D_ringsAs_71, zr_D_ringsAs_72, zr_D_ringsAs_73, zr_D_ringsAs_73n, zr_D_ringsAs_74, zr_D_ringsAs_75, zr_D_ringsAs_76, zr_D_ringsAs_79, zr_D_ringsAs_81, zr_D_ringsAs_81n, zr_D_ringsAs_82, zr_D_ringsAs_83, zr_D_ringsAs_84, zr_D_ringsAs_87, zr_D_ringsAs_88, zr_D_ringsAs_89, zr_D_ringsAs_90, zr_D_ringsAs_93, zr_D_ringsAs_94, zr_D_ringsAs_94n, zr_D_ringsAs_95, zr_D_ringsAs_96, zr_D_ringsAs_99, zr_D_ringsAs_101, zr_D_ringsAs_102, sD_of3, sD_of4, h.k3 hj6, nI_1, p1, w1, r3, c, a1, r4, int_99, sD_least _ _ _ _ 99 (sO s j + 1) (by omega) (by omega), b1, w3, int_100, nI_add, z_obs, z_pu_s, z_pu_n, z00, z10, ↓reduceIte, true_or, or_true, z_b_t, z_b_f, hle]
    · have c : ¬ nI (sW s j) ≤ nI (sR s j + 1) := nI_ge (by omega) (by omega)
      have c3 : ¬ nI (sW s j) = 0 := nI_ne0 (by omega) (by omega)
      have hmul : sS s j * (sR s j + 1) < 2 ^ 31 := Nat.lt_of_le_of_lt (Nat.mul_le_mul q6c (show sR s j + 1 ≤ 10 by omega)) (by decide)
      refine ⟨G1, ?_, by simpa [hle] using p2, p3⟩
      simp only [zm_D_ringsAs, zr_D_ringsAs_0, zr_D_ringsAs_0n, zr_D_ringsAs_1, zr_D_ringsAs_2, zr_D_ringsAs_3, zr_D_ringsAs_6, zr_D_ringsAs_7, zr_D_ringsAs_10, zr_D_ringsAs_10n, zr_D_ringsAs_11, zr_D_ringsAs_12, zr_D_ringsAs_13, zr_D_ringsAs_16, zr_D_ringsAs_17, zr_D_ringsAs_18, zr_D_ringsAs_19, zr_D_ringsAs_22, zr_D_ringsAs_23, zr_D_ringsAs_24, zr_D_ringsAs_25, zr_D_ringsAs_28, zr_D_ringsAs_29, zr_D_ringsAs_30, zr_D_ringsAs_30n, zr_D_ringsAs_31, zr_D_ringsAs_32, zr_D_ringsAs_33, zr_D_ringsAs_36, zr_D_ringsAs_37, zr_D_ringsAs_37n, zr_D_ringsAs_38, zr_D_ringsAs_39, zr_D_ringsAs_42, zr_D_ringsAs_45, zr_D_ringsAs_45n, zr_D_ringsAs_46, zr_D_ringsAs_47, zr_D_ringsAs_50, zr_D_ringsAs_50n, zr_D_ringsAs_51, zr_D_ringsAs_52, zr_D_ringsAs_53, zr_D_ringsAs_56, zr_D_ringsAs_57, zr_D_ringsAs_58, zr_D_ringsAs_58n, zr_D_ringsAs_59, zr_D_ringsAs_60, zr_D_ringsAs_63, zr_D_ringsAs_64, zr_D_ringsAs_65, zr_D_ringsAs_65n, zr_D_ringsAs_66, zr_D_ringsAs_67, zr_D_ringsAs_68, zr_D_ringsAs_71, zr_D_ringsAs_72, zr_D_ringsAs_73, zr_D_ringsAs_73n, zr_D_ringsAs_74, zr_D_ringsAs_75, zr_D_ringsAs_76, zr_D_ringsAs_79, zr_D_ringsAs_81, zr_D_ringsAs_81n, zr_D_ringsAs_82, zr_D_ringsAs_83, zr_D_ringsAs_84, zr_D_ringsAs_87, zr_D_ringsAs_88, zr_D_ringsAs_89, zr_D_ringsAs_90, zr_D_ringsAs_93, zr_D_ringsAs_94, zr_D_ringsAs_94n, zr_D_ringsAs_95, zr_D_ringsAs_96, zr_D_ringsAs_99, zr_D_ringsAs_101, zr_D_ringsAs_102, sD_of3, h.k3 hj6, nI_1, p1, w1, w2, r3, c, z_obs, z_pu_s, z_pu_n, z00, z10, ↓reduceIte, true_or, or_true, z_b_t, z_b_f, hle, pk_mul, c3, not_false_eq_true, pk_div hmul (show 0 < sW s j by omega) (show sW s j < 2 ^ 31 by omega)]
theorem sD_ringsIn (h : IA G p s) (w : WF s) {j : Nat} (hj : j < s 0) : ∃ G', z_evM E i_D_ringsIn lv [.ref p, .int (nI j)] N k G = some (some (.int (nI (rgH s j))), N, k, G') ∧ IA G' p (rgS s j) ∧ FR p 1 G G' := by
  have w1 := w.2.1
  obtain ⟨G', g1, g2, g3⟩ := sD_ringsAs (E := E) 0 N k h w hj (sH s j (s 1))
  refine ⟨G', ?_, g2, g3⟩
  simp only [zm_D_ringsIn, zr_D_ringsIn_0, zr_D_ringsIn_0n, zr_D_ringsIn_1, zr_D_ringsIn_2, zr_D_ringsIn_2n, zr_D_ringsIn_3, zr_D_ringsIn_4, zr_D_ringsIn_4n, zr_D_ringsIn_5, zr_D_ringsIn_6, zr_D_ringsIn_7, zr_D_ringsIn_10, zr_D_ringsIn_13, h.r1, sD_isHome _ _ _ h w hj (show s 1 < 2 ^ 31 by omega), g1, z_obs, z_pu_s, z_pu_n, z00, z10, ↓reduceIte, true_or, or_true, z_b_t, z_b_f]
  rfl
theorem sD_hour (h : IA G p s) (w : WF s) : ∃ G', z_evM E i_D_hour lv [.ref p] N k G = some (none, N, k, G') ∧ IA G' p (hrS s) ∧ FR p 1 G G' := by
  have w1 := w.2.1
  have c24 : ¬ nI 24 = 0 := nI_ne0 (by omega) (by omega)
  have e24 : nI (s 1 + 1) - nI (s 1 + 1) / nI 24 * nI 24 = nI ((s 1 + 1) % 24) := by rw [pk_div (by omega) (by omega) (by omega), z_rem2 (by omega) (by omega) (by omega)]
  obtain ⟨G1, p1, p2, p3⟩ := h.wr (j := 1) ((s 1 + 1) % 24) (by omega)
  have r1 := p2.r1 (E := E)
  have r2 := p2.r2 (E := E)
  rw [uN_s] at r1
  rw [uN_n _ _ (by omega)] at r2
  have p1' : z_pi G p 1 (nI ((s 1 + 1) % 24)) = some G1 := p1
  unfold hrS
  by_cases hlt : s 1 + 1 < 24
  · have em : (s 1 + 1) % 24 = s 1 + 1 := Nat.mod_eq_of_lt hlt
    have c : ¬ nI ((s 1 + 1) % 24) = 0 := nI_ne0 (by omega) (by omega)
    obtain ⟨G2, a1, a2, a3⟩ := p2.wr (j := 2) (s 2 + 0) (by omega)
    have a1' : z_pi G1 p 2 (nI (s 2) + 0) = some G2 := by rw [int_0, nI_add]; exact a1
    refine ⟨G2, ?_, ?_, p3.tr a3⟩
    · simp only [zm_D_hour, zr_D_hour_0, zr_D_hour_0n, zr_D_hour_1, zr_D_hour_2, zr_D_hour_2n, zr_D_hour_3, zr_D_hour_4, zr_D_hour_5, zr_D_hour_6, zr_D_hour_7, zr_D_hour_9, zr_D_hour_10, zr_D_hour_11, zr_D_hour_11n, zr_D_hour_12, zr_D_hour_13, zr_D_hour_14, zr_D_hour_15, zr_D_hour_15n, zr_D_hour_16, zr_D_hour_17, zr_D_hour_18, zr_D_hour_21, zr_D_hour_22, zr_D_hour_25, zr_D_hour_26, zr_D_hour_27, zr_D_hour_28, h.r1, nI_1, int_24, c24, not_false_eq_true, e24, p1', r1, r2, c, a1', z_obs, z_pu_s, z_pu_n, z00, z10, ↓reduceIte, true_or, or_true, z_b_t, z_b_f]
    · rw [if_pos hlt]
      have e : uN (uN s 1 ((s 1 + 1) % 24)) 2 (s 2 + 0) = uN s 1 (s 1 + 1) := by
        rw [em, Nat.add_zero]
        have := uN_self (uN s 1 (s 1 + 1)) 2
        rw [uN_n _ _ (by omega)] at this
        exact this
      rw [← e]; exact a2
  · have em : (s 1 + 1) % 24 = 0 := by omega
    obtain ⟨G2, a1, a2, a3⟩ := p2.wr (j := 2) (s 2 + 1) (by omega)
    have a1' : z_pi G1 p 2 (nI (s 2 + 1)) = some G2 := a1
    refine ⟨G2, ?_, ?_, p3.tr a3⟩
    · rw [em] at e24 p1' r1
      simp only [zm_D_hour, zr_D_hour_0, zr_D_hour_0n, zr_D_hour_1, zr_D_hour_2, zr_D_hour_2n, zr_D_hour_3, zr_D_hour_4, zr_D_hour_5, zr_D_hour_6, zr_D_hour_7, zr_D_hour_9, zr_D_hour_10, zr_D_hour_11, zr_D_hour_11n, zr_D_hour_12, zr_D_hour_13, zr_D_hour_14, zr_D_hour_15, zr_D_hour_15n, zr_D_hour_16, zr_D_hour_17, zr_D_hour_18, zr_D_hour_21, zr_D_hour_22, zr_D_hour_25, zr_D_hour_26, zr_D_hour_27, zr_D_hour_28, h.r1, nI_1, int_24, c24, not_false_eq_true, e24, p1', r1, r2, show (nI 0 = 0) = True from eq_true rfl, a1', z_obs, z_pu_s, z_pu_n, z00, z10, ↓reduceIte, true_or, or_true, z_b_t, z_b_f]
    · rw [if_neg hlt]
      rw [em] at a2
      exact a2
theorem sD_copies {q : Nat} (h : IA G p s) (hq : IX G q 33) (hpq : p ≠ q) : ∃ G', z_evM E i_D_copies lv [.ref p, .ref q] N k G = some (none, N, k, G') ∧ IA G' q s ∧ FR q 1 G G' := by
  obtain ⟨G', _, e, P⟩ := z_loopG (fun i (_ : Unit) (_ : Unit) G => z_ev E i_D_copies lv 2 [some (.ref p), some (.ref q), some (.int (nI i))] [] N k G) (fun _ a => a) (fun i _ G' => FR q 1 G G' ∧ ∃ f, G' q = some (.inr (.int, 33, .inl f)) ∧ ∀ j, j < i → f j = nI (s j)) 33 (fun _ _ G => some (none, N, k, G)) (fun _ _ G1 hP => by
    have c : nI 33 ≤ nI 33 := nI_le (Nat.le_refl _) (by omega)
    simp only [zr_D_copies_0, zr_D_copies_1, zr_D_copies_2, zr_D_copies_3, zr_D_copies_5, zr_D_copies_8, zr_D_copies_8n, zr_D_copies_9, zr_D_copies_10, zr_D_copies_10n, zr_D_copies_11, zr_D_copies_12, zr_D_copies_13, zr_D_copies_14, zr_D_copies_17, zr_D_copies_20, show (33 : Int32) = nI 33 from rfl, c, z_obs, z_pu_s, z_pu_n, z00, z10, ↓reduceIte, true_or, or_true, z_b_t, z_b_f]) (fun i _ _ G1 hi hP => by
    obtain ⟨h1, f, h2, h3⟩ := hP
    have c : ¬ nI 33 ≤ nI i := nI_ge hi (by omega)
    have hr : z_ai E G1 p (nI i) = some (nI (s i)) := (h.mono (h1 p (by omega))).rd hi
    refine ⟨z_up G1 q (.inr (.int, 33, .inl (upd f i (nI (s i))))), (), ?_, h1.tr (fun x hx => z_up_n _ _ (by omega)), upd f i (nI (s i)), z_up_s _ _ _, fun j hj => ?_⟩
    · rw [zr_D_copies_2]
      simp only [zr_D_copies_0, zr_D_copies_1, zr_D_copies_3, zr_D_copies_5, zr_D_copies_8, zr_D_copies_8n, zr_D_copies_9, zr_D_copies_10, zr_D_copies_10n, zr_D_copies_11, zr_D_copies_12, zr_D_copies_13, zr_D_copies_14, zr_D_copies_17, zr_D_copies_20, show (33 : Int32) = nI 33 from rfl, c, hr, z_piI h2 hi (show 33 < 2 ^ 31 by omega), z_obs, z_pu_s, z_pu_n, z00, z10, ↓reduceIte, true_or, or_true, z_b_t, z_b_f, nI_1]
    · unfold upd
      by_cases e : j = i
      · rw [if_pos e, e]
      · rw [if_neg e]; exact h3 j (by omega)) 33 0 () () G (by omega) (by
    obtain ⟨f, hf⟩ := hq
    exact ⟨FR.rf, f, hf, fun j hj => absurd hj (Nat.not_lt_zero j)⟩)
  refine ⟨G', ?_, P.2, P.1⟩
  simp only [zm_D_copies, zr_D_copies_0, zr_D_copies_1]
  exact e
end
/-! its cells: the object at a, its rows behind it -/
def dFs (a : Nat) (ib : Int32) (q : Nat → Int32) : List Value := [.ref (a + 1), .ref (a + 2), .ref (a + 3), .ref (a + 4), .int ib, .int (q 5), .int (q 6), .int (q 7), .ref (a + 5), .ref (a + 6), .ref (a + 7), .int (q 11), .ref (a + 8), .int (q 13), .ref (a + 9), .ref (a + 10), .ref (a + 11), .ref (a + 12), .ref (a + 13), .ref (a + 14), .int (q 20)]
def DSh (c : Nat → Nat → Int32) (d : Nat) : Sh → Prop
  | .inl () => c 9 d = 0
  | .inr (.inl (k, f)) => c 9 d = 1 ∧ c 10 d = nI k ∧ c 11 d = nI f ∧ k < 8 ∧ f < 10
  | .inr (.inr (so, sz, el)) => c 9 d = 2 ∧ c 12 d = nI so ∧ c 13 d = nI sz ∧ so < 3 ∧ sz ≤ 100 ∧ ∀ i, i < sz → c 14 (100 * d + i) = el i
def DS (G : z_H) (a : Nat) (hs : Nat → Sh) : Prop := ∃ c : Nat → Nat → Int32, (G (a + 9) = some (.inr (.int, 8, .inl (c 9))) ∧ G (a + 10) = some (.inr (.int, 8, .inl (c 10))) ∧ G (a + 11) = some (.inr (.int, 8, .inl (c 11))) ∧ G (a + 12) = some (.inr (.int, 8, .inl (c 12))) ∧ G (a + 13) = some (.inr (.int, 8, .inl (c 13)))) ∧ G (a + 14) = some (.inr (.int, 800, .inl (c 14))) ∧ ∀ d, d < 8 → DSh c d (hs d)
def DW (G : z_H) (a : Nat) (s : Nat → Nat) (ib : Bool) (u : Nat → Nat) (hs : Nat → Sh) : Prop :=
  (∃ q, G a = some (.inl (12, dFs a (z_b ib) q))) ∧ IA G (a + 1) s ∧ IX G (a + 2) 33 ∧ (∃ t, IA G (a + 3) t ∧ (ib = true → t = u)) ∧ IX G (a + 4) 33 ∧ IX G (a + 5) 3 ∧ IX G (a + 6) 6 ∧ IX G (a + 7) 6 ∧ IX G (a + 8) 100 ∧ DS G a hs
theorem DS.mono {G G' : z_H} {a : Nat} {hs : Nat → Sh} (h : DS G a hs) (e : ∀ q, a + 9 ≤ q → q < a + 15 → G' q = G q) : DS G' a hs := by
  obtain ⟨c, ⟨h1, h2, h3, h4, h5⟩, h6, h7⟩ := h
  exact ⟨c, ⟨by rw [e _ (by omega) (by omega)]; exact h1, by rw [e _ (by omega) (by omega)]; exact h2, by rw [e _ (by omega) (by omega)]; exact h3, by rw [e _ (by omega) (by omega)]; exact h4, by rw [e _ (by omega) (by omega)]; exact h5⟩, by rw [e _ (by omega) (by omega)]; exact h6, h7⟩
section
variable {G G' : z_H} {a : Nat} {s u : Nat → Nat} {ib : Bool} {hs : Nat → Sh}
theorem DW.o (h : DW G a s ib u hs) : ∃ q, G a = some (.inl (12, dFs a (z_b ib) q)) := h.1
theorem DW.st (h : DW G a s ib u hs) : IA G (a + 1) s := h.2.1
theorem DW.m (h : DW G a s ib u hs) : IX G (a + 2) 33 := h.2.2.1
theorem DW.im (h : DW G a s ib u hs) : ∃ t, IA G (a + 3) t ∧ (ib = true → t = u) := h.2.2.2.1
theorem DW.was (h : DW G a s ib u hs) : IX G (a + 4) 33 := h.2.2.2.2.1
theorem DW.nu (h : DW G a s ib u hs) : IX G (a + 5) 3 := h.2.2.2.2.2.1
theorem DW.li (h : DW G a s ib u hs) : IX G (a + 6) 6 := h.2.2.2.2.2.2.1
theorem DW.be (h : DW G a s ib u hs) : IX G (a + 7) 6 := h.2.2.2.2.2.2.2.1
theorem DW.fe (h : DW G a s ib u hs) : IX G (a + 8) 100 := h.2.2.2.2.2.2.2.2.1
theorem DW.sh (h : DW G a s ib u hs) : DS G a hs := h.2.2.2.2.2.2.2.2.2
/-- nothing of it changes -/
theorem DW.same (h : DW G a s ib u hs) (e : ∀ q, a ≤ q → q < a + 15 → G' q = G q) : DW G' a s ib u hs := by
  obtain ⟨h0, h1, h2, ⟨t, h3, h3'⟩, h4, h5, h6, h7, h8, h9⟩ := h
  exact ⟨by rw [e _ (by omega) (by omega)]; exact h0, h1.mono (e _ (by omega) (by omega)), h2.mono (e _ (by omega) (by omega)), ⟨t, h3.mono (e _ (by omega) (by omega)), h3'⟩, h4.mono (e _ (by omega) (by omega)), h5.mono (e _ (by omega) (by omega)), h6.mono (e _ (by omega) (by omega)), h7.mono (e _ (by omega) (by omega)), h8.mono (e _ (by omega) (by omega)), h9.mono fun q q1 q2 => e q (by omega) (by omega)⟩
/-- its state changes -/
theorem DW.ns (h : DW G a s ib u hs) {t : Nat → Nat} (ht : IA G' (a + 1) t) (e : FR (a + 1) 1 G G') : DW G' a t ib u hs := by
  obtain ⟨h0, h1, h2, ⟨v, h3, h3'⟩, h4, h5, h6, h7, h8, h9⟩ := h
  exact ⟨by rw [e _ (by omega)]; exact h0, ht, h2.mono (e _ (by omega)), ⟨v, h3.mono (e _ (by omega)), h3'⟩, h4.mono (e _ (by omega)), h5.mono (e _ (by omega)), h6.mono (e _ (by omega)), h7.mono (e _ (by omega)), h8.mono (e _ (by omega)), h9.mono fun q q1 q2 => e q (by omega)⟩
/-- what is in mind changes -/
theorem DW.nm (h : DW G a s ib u hs) (ht : IX G' (a + 2) 33) (e : FR (a + 2) 1 G G') : DW G' a s ib u hs := by
  obtain ⟨h0, h1, h2, ⟨v, h3, h3'⟩, h4, h5, h6, h7, h8, h9⟩ := h
  exact ⟨by rw [e _ (by omega)]; exact h0, h1.mono (e _ (by omega)), ht, ⟨v, h3.mono (e _ (by omega)), h3'⟩, h4.mono (e _ (by omega)), h5.mono (e _ (by omega)), h6.mono (e _ (by omega)), h7.mono (e _ (by omega)), h8.mono (e _ (by omega)), h9.mono fun q q1 q2 => e q (by omega)⟩
end
section
variable {E : z_E} {G : z_H} {a : Nat} {s u : Nat → Nat} {ib : Bool} {hs : Nat → Sh}
theorem DW.cls (h : DW G a s ib u hs) : z_clsOf G a = some 12 := by obtain ⟨q, e⟩ := h.1; exact z_clsI e
theorem DW.f0 (h : DW G a s ib u hs) (t f : Nat) : z_gf G a [0, 12, 12, t, f] = some (.ref (a + 1)) := by obtain ⟨q, e⟩ := h.1; exact z_gfI e (by decide) (by decide) rfl
theorem DW.f1 (h : DW G a s ib u hs) (t f : Nat) : z_gf G a [1, 12, 12, t, f] = some (.ref (a + 2)) := by obtain ⟨q, e⟩ := h.1; exact z_gfI e (by decide) (by decide) rfl
theorem DW.f2 (h : DW G a s ib u hs) (t f : Nat) : z_gf G a [2, 12, 12, t, f] = some (.ref (a + 3)) := by obtain ⟨q, e⟩ := h.1; exact z_gfI e (by decide) (by decide) rfl
theorem DW.f3 (h : DW G a s ib u hs) (t f : Nat) : z_gf G a [3, 12, 12, t, f] = some (.ref (a + 4)) := by obtain ⟨q, e⟩ := h.1; exact z_gfI e (by decide) (by decide) rfl
theorem DW.f4 (h : DW G a s ib u hs) (t f : Nat) : z_gf G a [4, 12, 12, t, f] = some (.int (z_b ib)) := by obtain ⟨q, e⟩ := h.1; exact z_gfI e (by decide) (by decide) rfl
theorem DW.f8 (h : DW G a s ib u hs) (t f : Nat) : z_gf G a [8, 12, 12, t, f] = some (.ref (a + 5)) := by obtain ⟨q, e⟩ := h.1; exact z_gfI e (by decide) (by decide) rfl
theorem DW.f9 (h : DW G a s ib u hs) (t f : Nat) : z_gf G a [9, 12, 12, t, f] = some (.ref (a + 6)) := by obtain ⟨q, e⟩ := h.1; exact z_gfI e (by decide) (by decide) rfl
theorem DW.f10 (h : DW G a s ib u hs) (t f : Nat) : z_gf G a [10, 12, 12, t, f] = some (.ref (a + 7)) := by obtain ⟨q, e⟩ := h.1; exact z_gfI e (by decide) (by decide) rfl
theorem DW.f12 (h : DW G a s ib u hs) (t f : Nat) : z_gf G a [12, 12, 12, t, f] = some (.ref (a + 8)) := by obtain ⟨q, e⟩ := h.1; exact z_gfI e (by decide) (by decide) rfl
theorem DW.f14 (h : DW G a s ib u hs) (t f : Nat) : z_gf G a [14, 12, 12, t, f] = some (.ref (a + 9)) := by obtain ⟨q, e⟩ := h.1; exact z_gfI e (by decide) (by decide) rfl
theorem DW.f15 (h : DW G a s ib u hs) (t f : Nat) : z_gf G a [15, 12, 12, t, f] = some (.ref (a + 10)) := by obtain ⟨q, e⟩ := h.1; exact z_gfI e (by decide) (by decide) rfl
theorem DW.f16 (h : DW G a s ib u hs) (t f : Nat) : z_gf G a [16, 12, 12, t, f] = some (.ref (a + 11)) := by obtain ⟨q, e⟩ := h.1; exact z_gfI e (by decide) (by decide) rfl
theorem DW.f17 (h : DW G a s ib u hs) (t f : Nat) : z_gf G a [17, 12, 12, t, f] = some (.ref (a + 12)) := by obtain ⟨q, e⟩ := h.1; exact z_gfI e (by decide) (by decide) rfl
theorem DW.f18 (h : DW G a s ib u hs) (t f : Nat) : z_gf G a [18, 12, 12, t, f] = some (.ref (a + 13)) := by obtain ⟨q, e⟩ := h.1; exact z_gfI e (by decide) (by decide) rfl
theorem DW.f19 (h : DW G a s ib u hs) (t f : Nat) : z_gf G a [19, 12, 12, t, f] = some (.ref (a + 14)) := by obtain ⟨q, e⟩ := h.1; exact z_gfI e (by decide) (by decide) rfl
/-- a scratch number is put -/
def uI (q : Nat → Int32) (i : Nat) (v : Int32) : Nat → Int32 := fun j => if j = i then v else q j
theorem DW.pf {q : Nat → Int32} {b : Bool} (e : G a = some (.inl (12, dFs a (z_b ib) q))) (i : Nat) (hi : i = 5 ∨ i = 6 ∨ i = 7 ∨ i = 11 ∨ i = 13 ∨ i = 20) (v : Int32) : z_pf G a (.int v) b [i, 12, 12, 0, 0] = some (z_up G a (.inl (12, dFs a (z_b ib) (uI q i v)))) := by
  rcases hi with rfl | rfl | rfl | rfl | rfl | rfl <;> exact z_pfI e (Nat.le_refl _) (Nat.le_refl _) (Nat.le_of_ble_eq_true rfl) rfl (Or.inl rfl)
theorem DW.no (h : DW G a s ib u hs) {q : Nat → Int32} : DW (z_up G a (.inl (12, dFs a (z_b ib) q))) a s ib u hs := by
  obtain ⟨h0, h1, h2, ⟨v, h3, h3'⟩, h4, h5, h6, h7, h8, h9⟩ := h
  have e : ∀ x, x ≠ a → z_up G a (.inl (12, dFs a (z_b ib) q)) x = G x := fun x hx => z_up_n _ _ hx
  exact ⟨⟨q, z_up_s _ _ _⟩, h1.mono (e _ (by omega)), h2.mono (e _ (by omega)), ⟨v, h3.mono (e _ (by omega)), h3'⟩, h4.mono (e _ (by omega)), h5.mono (e _ (by omega)), h6.mono (e _ (by omega)), h7.mono (e _ (by omega)), h8.mono (e _ (by omega)), h9.mono fun q q1 q2 => e q (by omega)⟩
end
