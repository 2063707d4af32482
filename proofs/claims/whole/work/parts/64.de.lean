/-! THE MODEL: shelves -/
theorem cost_x : ∀ f, f < 10 → 3 + nI f = nI (3 + f) ∧ 6 + 2 * nI f = nI (6 + 2 * f) ∧ 7 + nI f = nI (7 + f) ∧ nI (7 + f) / 2 = nI ((7 + f) / 2) ∧ 6 + 3 * nI f = nI (6 + 3 * f) := by decide +kernel
theorem DSh.congr {c c' : Nat → Nat → Int32} {d : Nat} {v : Sh} (h : DSh c d v) (e : ∀ i, 9 ≤ i → i ≤ 13 → c' i d = c i d) (e4 : ∀ i, i < 100 → c' 14 (100 * d + i) = c 14 (100 * d + i)) : DSh c' d v := by
  rcases v with _ | ⟨k, f⟩ | ⟨so, sz, el⟩
  · show c' 9 d = 0; rw [e 9 (by omega) (by omega)]; exact h
  · obtain ⟨h1, h2, h3, h4, h5⟩ := h
    exact ⟨by rw [e 9 (by omega) (by omega)]; exact h1, by rw [e 10 (by omega) (by omega)]; exact h2, by rw [e 11 (by omega) (by omega)]; exact h3, h4, h5⟩
  · obtain ⟨h1, h2, h3, h4, h5, h6⟩ := h
    exact ⟨by rw [e 9 (by omega) (by omega)]; exact h1, by rw [e 12 (by omega) (by omega)]; exact h2, by rw [e 13 (by omega) (by omega)]; exact h3, h4, h5, fun i hi => by rw [e4 i (by omega)]; exact h6 i hi⟩
section
variable {E : z_E} {G G' : z_H} {a : Nat} {s u : Nat → Nat} {ib : Bool} {hs hs' : Nat → Sh} (lv N k : Nat)
theorem DW.shelf (h : DW G a s ib u hs) (e : ∀ q, a ≤ q → q < a + 9 → G' q = G q) (hD : DS G' a hs') : DW G' a s ib u hs' := by
  obtain ⟨h0, h1, h2, ⟨t, h3, h3'⟩, h4, h5, h6, h7, h8, h9⟩ := h
  exact ⟨by rw [e _ (by omega) (by omega)]; exact h0, h1.mono (e _ (by omega) (by omega)), h2.mono (e _ (by omega) (by omega)), ⟨t, h3.mono (e _ (by omega) (by omega)), h3'⟩, h4.mono (e _ (by omega) (by omega)), h5.mono (e _ (by omega) (by omega)), h6.mono (e _ (by omega) (by omega)), h7.mono (e _ (by omega) (by omega)), h8.mono (e _ (by omega) (by omega)), hD⟩
theorem sD_costBy {kd f : Nat} (hk : kd < 8) (hf : f < 10) : z_evM E i_D_costBy lv [.int (nI kd), .int (nI f)] N k G = some (some (.int (nI (prc kd f))), N, k, G) := by
  have c1 : (nI kd = 1) = (kd = 1) := nI_eqI' (b := 1) (by omega) (by omega)
  have c2 : (nI kd = 2) = (kd = 2) := nI_eqI' (b := 2) (by omega) (by omega)
  have c3 : (nI kd = 3) = (kd = 3) := nI_eqI' (b := 3) (by omega) (by omega)
  have c4 : (nI kd = 4) = (kd = 4) := nI_eqI' (b := 4) (by omega) (by omega)
  have c5 : (nI kd = 5) = (kd = 5) := nI_eqI' (b := 5) (by omega) (by omega)
  have c6 : (nI kd = 6) = (kd = 6) := nI_eqI' (b := 6) (by omega) (by omega)
  have c7 : (nI kd = 7) = (kd = 7) := nI_eqI' (b := 7) (by omega) (by omega)
  obtain ⟨x1, x2, x3, x4, x5⟩ := cost_x f hf
  simp only [zm_D_costBy, zr_D_costBy_0, zr_D_costBy_1, zr_D_costBy_44, zr_D_costBy_45, zr_D_costBy_46, zr_D_costBy_47, zr_D_costBy_48, zr_D_costBy_49, zr_D_costBy_50, zr_D_costBy_52, zr_D_costBy_53, zr_D_costBy_54, zr_D_costBy_55, zr_D_costBy_56, zr_D_costBy_57, zr_D_costBy_59, zr_D_costBy_60, zr_D_costBy_61, zr_D_costBy_62, zr_D_costBy_64, zr_D_costBy_65, zr_D_costBy_66, zr_D_costBy_67, zr_D_costBy_68, zr_D_costBy_69, zr_D_costBy_71, zr_D_costBy_72, zr_D_costBy_73, zr_D_costBy_74, zr_D_costBy_75, zr_D_costBy_76, zr_D_costBy_77, c1, c2, c3, c4, c5, c6, c7, x1, x2, x3, x4, x5, show ¬ (2 : Int32) = 0 by decide, not_false_eq_true]
  have h8 : kd = 0 ∨ kd = 1 ∨ kd = 2 ∨ kd = 3 ∨ kd = 4 ∨ kd = 5 ∨ kd = 6 ∨ kd = 7 := by omega
  rcases h8 with rfl | rfl | rfl | rfl | rfl | rfl | rfl | rfl <;> rfl
theorem dCost (h : DW G a s ib u hs) (d : Int32) : z_evM E i_D_cost lv [.ref a, .int d] N k G = some (some (.int (aCost hs d)), N, k, G) := by
  unfold aCost
  by_cases hl : lkB hs d ≠ 0
  · rw [if_pos hl]
    simp only [zm_D_cost, zr_D_cost_0, zr_D_cost_1, zr_D_cost_2, zr_D_cost_5, zr_D_cost_6, zr_D_cost_7, zr_D_cost_10, zr_D_cost_11, zr_D_cost_14, zr_D_cost_15, zr_D_cost_18, zr_D_cost_19, zr_D_cost_20, zr_D_cost_21, zr_D_cost_24, zr_D_cost_25, zr_D_cost_26, zr_D_cost_29, h.cls, sD_wrongKept _ _ _ h, hl, z_obs, z_pu_s, z_pu_n, z00, z10, ↓reduceIte, true_or, or_true, z_b_t, z_b_f]
  · rw [if_neg hl]
    have hl0 : lkB hs d = 0 := by simpa using hl
    obtain ⟨d, kk, ff, hd, rfl, e⟩ := lkB_be hl
    rw [jN_nI (show d < 2 ^ 31 by omega), e]
    obtain ⟨c, ⟨h1, h2, h3, h4, h5⟩, h6, h7⟩ := h.sh
    have q := h7 d hd
    rw [e] at q
    have r1 := z_aiI (E := E) h2 hd (by decide)
    have r2 := z_aiI (E := E) h3 hd (by decide)
    rw [q.2.1] at r1
    rw [q.2.2.1] at r2
    simp only [zm_D_cost, zr_D_cost_0, zr_D_cost_1, zr_D_cost_2, zr_D_cost_5, zr_D_cost_6, zr_D_cost_7, zr_D_cost_10, zr_D_cost_11, zr_D_cost_14, zr_D_cost_15, zr_D_cost_18, zr_D_cost_19, zr_D_cost_20, zr_D_cost_21, zr_D_cost_24, zr_D_cost_25, zr_D_cost_26, zr_D_cost_29, h.cls, sD_wrongKept _ _ _ h, hl0, h.f15, h.f16, r1, r2, sD_costBy _ _ _ q.2.2.2.1 q.2.2.2.2, z_obs, z_pu_s, z_pu_n, z00, z10, ↓reduceIte, true_or, or_true, z_b_t, z_b_f]
theorem dToss (h : DW G a s ib u hs) (d : Int32) : z_evM E i_D_toss lv [.ref a, .int d] N k G = some (some (.int (aToss hs d)), N, k, G) := by
  unfold aToss
  by_cases hl : lkB hs d ≠ 0
  · rw [if_pos hl]
    simp only [zm_D_toss, zr_D_toss_0, zr_D_toss_1, zr_D_toss_2, zr_D_toss_5, zr_D_toss_6, zr_D_toss_7, zr_D_toss_10, zr_D_toss_11, zr_D_toss_12, zr_D_toss_13, zr_D_toss_16, zr_D_toss_17, zr_D_toss_18, zr_D_toss_19, zr_D_toss_20, zr_D_toss_23, zr_D_toss_24, zr_D_toss_25, zr_D_toss_27, zr_D_toss_28, zr_D_toss_29, zr_D_toss_32, zr_D_toss_33, zr_D_toss_35, zr_D_toss_38, zr_D_toss_40, zr_D_toss_43, zr_D_toss_45, zr_D_toss_46, zr_D_toss_47, zr_D_toss_49, zr_D_toss_52, zr_D_toss_55, zr_D_toss_56, zr_D_toss_58, zr_D_toss_61, zr_D_toss_62, zr_D_toss_65, zr_D_toss_66, zr_D_toss_67, zr_D_toss_70, zr_D_toss_71, zr_D_toss_72, zr_D_toss_75, zr_D_toss_76, zr_D_toss_77, zr_D_toss_80, zr_D_toss_81, zr_D_toss_82, zr_D_toss_85, zr_D_toss_87, zr_D_toss_89, zr_D_toss_90, zr_D_toss_93, zr_D_toss_95, h.cls, sD_wrongKept _ _ _ h, hl, z_obs, z_pu_s, z_pu_n, z00, z10, ↓reduceIte, true_or, or_true, z_b_t, z_b_f]
  · rw [if_neg hl]
    have hl0 : lkB hs d = 0 := by simpa using hl
    obtain ⟨d, kk, ff, hd, rfl, e⟩ := lkB_be hl
    rw [jN_nI (show d < 2 ^ 31 by omega), e]
    obtain ⟨c, ⟨h1, h2, h3, h4, h5⟩, h6, h7⟩ := h.sh
    have q := h7 d hd
    rw [e] at q
    have r1 := z_aiI (E := E) h2 hd (by decide)
    have r2 := z_aiI (E := E) h3 hd (by decide)
    rw [q.2.1] at r1
    rw [q.2.2.1] at r2
    have hk := q.2.2.2.1
    have hf := q.2.2.2.2
    dsimp only
    have h8 : kk = 0 ∨ kk = 1 ∨ kk = 2 ∨ kk = 3 ∨ kk = 4 ∨ kk = 5 ∨ kk = 6 ∨ kk = 7 := by omega
    have cf : (nI ff = 0) = (ff = 0) := nI_eqI' (b := 0) (by omega) (by omega)
    by_cases h0 : ff = 0
    · have hn : noF kk ff = true := by unfold noF; rw [h0]; rfl
      rw [hn]
      have c2 : (nI kk = 2) = (kk = 2) := nI_eqI' (b := 2) (by omega) (by omega)
      have c6 : (nI kk = 6) = (kk = 6) := nI_eqI' (b := 6) (by omega) (by omega)
      simp only [zm_D_toss, zr_D_toss_0, zr_D_toss_1, zr_D_toss_2, zr_D_toss_5, zr_D_toss_6, zr_D_toss_7, zr_D_toss_10, zr_D_toss_11, zr_D_toss_12, zr_D_toss_13, zr_D_toss_16, zr_D_toss_17, zr_D_toss_18, zr_D_toss_19, zr_D_toss_20, zr_D_toss_23, zr_D_toss_24, zr_D_toss_25, zr_D_toss_27, zr_D_toss_28, zr_D_toss_29, zr_D_toss_32, zr_D_toss_33, zr_D_toss_35, zr_D_toss_38, zr_D_toss_40, zr_D_toss_43, zr_D_toss_45, h.cls, sD_wrongKept _ _ _ h, hl0, h.f15, h.f16, r1, r2, cf, eq_true h0, c2, c6, z_obs, z_pu_s, z_pu_n, z00, z10, ↓reduceIte, true_or, or_true, z_b_t, z_b_f]
      rcases h8 with rfl | rfl | rfl | rfl | rfl | rfl | rfl | rfl <;> rfl
    · have c1 : (nI kk = 1) = (kk = 1) := nI_eqI' (b := 1) (by omega) (by omega)
      have c2 : (nI kk = 2) = (kk = 2) := nI_eqI' (b := 2) (by omega) (by omega)
      have c3 : (nI kk = 3) = (kk = 3) := nI_eqI' (b := 3) (by omega) (by omega)
      have c4 : (nI kk = 4) = (kk = 4) := nI_eqI' (b := 4) (by omega) (by omega)
      have c5 : (nI kk = 5) = (kk = 5) := nI_eqI' (b := 5) (by omega) (by omega)
      have c6 : (nI kk = 6) = (kk = 6) := nI_eqI' (b := 6) (by omega) (by omega)
      have c7 : (nI kk = 7) = (kk = 7) := nI_eqI' (b := 7) (by omega) (by omega)
      have e2 : (200 : Int32) + nI (prc kk ff) = nI (prc kk ff + 200) := by rw [show (200 : Int32) = nI 200 from rfl, nI_add, Nat.add_comm]
      have e3 : (100 : Int32) + nI ff = nI (ff + 100) := by rw [int_100, nI_add, Nat.add_comm]
      simp only [zm_D_toss, zr_D_toss_0, zr_D_toss_1, zr_D_toss_2, zr_D_toss_5, zr_D_toss_6, zr_D_toss_7, zr_D_toss_10, zr_D_toss_11, zr_D_toss_12, zr_D_toss_13, zr_D_toss_16, zr_D_toss_17, zr_D_toss_18, zr_D_toss_19, zr_D_toss_20, zr_D_toss_23, zr_D_toss_24, zr_D_toss_25, zr_D_toss_27, zr_D_toss_28, zr_D_toss_29, zr_D_toss_32, zr_D_toss_33, zr_D_toss_35, zr_D_toss_38, zr_D_toss_40, zr_D_toss_43, zr_D_toss_45, zr_D_toss_46, zr_D_toss_47, zr_D_toss_49, zr_D_toss_52, zr_D_toss_55, zr_D_toss_56, zr_D_toss_58, zr_D_toss_61, zr_D_toss_62, zr_D_toss_65, zr_D_toss_66, zr_D_toss_67, zr_D_toss_70, zr_D_toss_71, zr_D_toss_72, zr_D_toss_75, zr_D_toss_76, zr_D_toss_77, zr_D_toss_80, zr_D_toss_81, zr_D_toss_82, zr_D_toss_85, zr_D_toss_87, zr_D_toss_89, zr_D_toss_90, zr_D_toss_93, zr_D_toss_95, h.cls, sD_wrongKept _ _ _ h, hl0, h.f15, h.f16, r1, r2, cf, eq_false h0, c1, c2, c3, c4, c5, c6, c7, sD_costBy _ _ _ hk hf, e2, e3, z_obs, z_pu_s, z_pu_n, z00, z10, ↓reduceIte, true_or, or_true, z_b_t, z_b_f]
      have hn : noF kk ff = (decide (kk = 2) || decide (kk = 6)) := by unfold noF; rw [decide_eq_false h0]; rfl
      rw [hn]
      rcases h8 with rfl | rfl | rfl | rfl | rfl | rfl | rfl | rfl <;> rfl
theorem dKeep (h : DW G a s ib u hs) (d y kd f : Int32) : ∃ G', z_evM E i_D_keep lv [.ref a, .int d, .int y, .int kd, .int f] N k G = some (some (.int (aKeep hs d y kd f).1), N, k, G') ∧ DW G' a s ib u (aKeep hs d y kd f).2 ∧ FR a 15 G G' := by
  unfold aKeep
  cases hd : inR d 8
  · refine ⟨G, ?_, by simpa using h, FR.rf⟩
    simp only [zm_D_keep, zr_D_keep_0, zr_D_keep_1, zr_D_keep_4, zr_D_keep_7, zr_D_keep_8, zr_D_keep_9, zr_D_keep_10, zr_D_keep_13, zr_D_keep_16, zr_D_keep_17, zr_D_keep_18, zr_D_keep_21, zr_D_keep_22, zr_D_keep_23, zr_D_keep_25, zr_D_keep_28, zr_D_keep_31, zr_D_keep_33, zr_D_keep_34, zr_D_keep_36, zr_D_keep_39, zr_D_keep_42, zr_D_keep_43, sD_isShelf, hd, z_obs, z_pu_s, z_pu_n, z00, z10, ↓reduceIte, true_or, or_true, z_b_t, z_b_f, Bool.false_eq_true, false_and]
  · cases hy : is01 y
    · refine ⟨G, ?_, by simpa using h, FR.rf⟩
      simp only [zm_D_keep, zr_D_keep_0, zr_D_keep_1, zr_D_keep_4, zr_D_keep_7, zr_D_keep_8, zr_D_keep_9, zr_D_keep_10, zr_D_keep_13, zr_D_keep_16, zr_D_keep_17, zr_D_keep_18, zr_D_keep_21, zr_D_keep_22, zr_D_keep_23, zr_D_keep_25, zr_D_keep_28, zr_D_keep_31, zr_D_keep_33, zr_D_keep_34, zr_D_keep_36, zr_D_keep_39, zr_D_keep_42, zr_D_keep_43, sD_isShelf, hd, sD_isIn, il_01, hy, z_obs, z_pu_s, z_pu_n, z00, z10, ↓reduceIte, true_or, or_true, z_b_t, z_b_f, Bool.false_eq_true, false_and, and_false]
    · obtain ⟨d, hd8, rfl⟩ := inR_of (by decide) hd
      rw [jN_nI (show d < 2 ^ 31 by omega)]
      have pre : z_evM E i_D_keep lv [.ref a, .int (nI d), .int y, .int kd, .int f] N k G = if y = 0 ∨ (inR kd 8 = true ∧ inR f 10 = true) then z_ev E i_D_keep lv 44 [some (.ref a), some (.int (nI d)), some (.int y), some (.int kd), some (.int f)] [] N k G else some (some (.int (-1)), N, k, G) := by
        rcases is01_of hy with rfl | rfl
        · simp only [zm_D_keep, zr_D_keep_0, zr_D_keep_1, zr_D_keep_4, zr_D_keep_7, zr_D_keep_8, zr_D_keep_9, zr_D_keep_10, zr_D_keep_13, zr_D_keep_16, zr_D_keep_17, zr_D_keep_18, zr_D_keep_21, zr_D_keep_22, zr_D_keep_23, zr_D_keep_25, zr_D_keep_28, zr_D_keep_31, zr_D_keep_33, zr_D_keep_34, zr_D_keep_36, zr_D_keep_39, zr_D_keep_42, zr_D_keep_43, sD_isShelf, hd, sD_isIn, il_01, hy, z_obs, z_pu_s, z_pu_n, z00, z10, ↓reduceIte, true_or, or_true, z_b_t, z_b_f, show ¬ (0 : Int32) = 1 by decide]
        · cases hk : inR kd 8
          · simp only [zm_D_keep, zr_D_keep_0, zr_D_keep_1, zr_D_keep_4, zr_D_keep_7, zr_D_keep_8, zr_D_keep_9, zr_D_keep_10, zr_D_keep_13, zr_D_keep_16, zr_D_keep_17, zr_D_keep_18, zr_D_keep_21, zr_D_keep_22, zr_D_keep_23, zr_D_keep_25, zr_D_keep_28, zr_D_keep_31, zr_D_keep_33, zr_D_keep_34, zr_D_keep_36, zr_D_keep_39, zr_D_keep_42, zr_D_keep_43, sD_isShelf, hd, sD_isIn, il_01, il_8, hk, hy, z_obs, z_pu_s, z_pu_n, z00, z10, ↓reduceIte, true_or, or_true, z_b_t, z_b_f, show ((1 : Int32) = 1) = True by simp, Bool.false_eq_true, false_and, or_self]
          · cases hf : inR f 10
            · simp only [zm_D_keep, zr_D_keep_0, zr_D_keep_1, zr_D_keep_4, zr_D_keep_7, zr_D_keep_8, zr_D_keep_9, zr_D_keep_10, zr_D_keep_13, zr_D_keep_16, zr_D_keep_17, zr_D_keep_18, zr_D_keep_21, zr_D_keep_22, zr_D_keep_23, zr_D_keep_25, zr_D_keep_28, zr_D_keep_31, zr_D_keep_33, zr_D_keep_34, zr_D_keep_36, zr_D_keep_39, zr_D_keep_42, zr_D_keep_43, sD_isShelf, hd, sD_isIn, il_01, il_8, il_10, hk, hf, hy, z_obs, z_pu_s, z_pu_n, z00, z10, ↓reduceIte, true_or, or_true, z_b_t, z_b_f, show ((1 : Int32) = 1) = True by simp, Bool.false_eq_true, and_false, or_self]
            · simp only [zm_D_keep, zr_D_keep_0, zr_D_keep_1, zr_D_keep_4, zr_D_keep_7, zr_D_keep_8, zr_D_keep_9, zr_D_keep_10, zr_D_keep_13, zr_D_keep_16, zr_D_keep_17, zr_D_keep_18, zr_D_keep_21, zr_D_keep_22, zr_D_keep_23, zr_D_keep_25, zr_D_keep_28, zr_D_keep_31, zr_D_keep_33, zr_D_keep_34, zr_D_keep_36, zr_D_keep_39, zr_D_keep_42, zr_D_keep_43, sD_isShelf, hd, sD_isIn, il_01, il_8, il_10, hk, hf, hy, z_obs, z_pu_s, z_pu_n, z00, z10, ↓reduceIte, true_or, or_true, z_b_t, z_b_f, show ((1 : Int32) = 1) = True by simp, and_self]
      rw [pre]
      by_cases hc : y = 0 ∨ (inR kd 8 = true ∧ inR f 10 = true)
      · simp only [hc, ↓reduceIte, and_self]
        obtain ⟨c, ⟨h1, h2, h3, h4, h5⟩, h6, h7⟩ := h.sh
        have p1 := z_piI (x := y) h1 hd8 (show 8 < 2 ^ 31 by decide)
        have p2 := z_piI (x := kd) (show z_up G (a + 9) (.inr (.int, 8, .inl (upd (c 9) d y))) (a + 10) = some (.inr (.int, 8, .inl (c 10))) by rw [z_up_n _ _ (by omega)]; exact h2) hd8 (show 8 < 2 ^ 31 by decide)
        have p3 := z_piI (x := f) (show z_up (z_up G (a + 9) (.inr (.int, 8, .inl (upd (c 9) d y)))) (a + 10) (.inr (.int, 8, .inl (upd (c 10) d kd))) (a + 11) = some (.inr (.int, 8, .inl (c 11))) by rw [z_up_n _ _ (by omega), z_up_n _ _ (by omega)]; exact h3) hd8 (show 8 < 2 ^ 31 by decide)
        have d1 : DW (z_up G (a + 9) (.inr (.int, 8, .inl (upd (c 9) d y)))) a s ib u (fun _ => Sh.no) → True := fun _ => trivial
        have g15 : ∀ G2 : z_H, (∀ q, a ≤ q → q < a + 9 → G2 q = G q) → ∀ t f, z_gf G2 a [15, 12, 12, t, f] = some (.ref (a + 10)) ∧ z_gf G2 a [16, 12, 12, t, f] = some (.ref (a + 11)) := by
          intro G2 hG t f
          obtain ⟨q, e⟩ := h.o
          have e2 : G2 a = some (.inl (12, dFs a (z_b ib) q)) := by rw [hG a (by omega) (by omega)]; exact e
          exact ⟨z_gfI e2 (by decide) (by decide) rfl, z_gfI e2 (by decide) (by decide) rfl⟩
        have q1 := (g15 (z_up G (a + 9) (.inr (.int, 8, .inl (upd (c 9) d y)))) (fun q q1 q2 => z_up_n _ _ (by omega)) 3 1).1
        have q2 := (g15 (z_up (z_up G (a + 9) (.inr (.int, 8, .inl (upd (c 9) d y)))) (a + 10) (.inr (.int, 8, .inl (upd (c 10) d kd)))) (fun q q1 q2 => by rw [z_up_n _ _ (by omega), z_up_n _ _ (by omega)]) 3 1).2
        refine ⟨_, by simp only [zr_D_keep_44, zr_D_keep_45, zr_D_keep_48, zr_D_keep_49, zr_D_keep_50, zr_D_keep_51, zr_D_keep_52, zr_D_keep_55, zr_D_keep_56, zr_D_keep_57, zr_D_keep_58, zr_D_keep_59, zr_D_keep_62, zr_D_keep_63, zr_D_keep_65, zr_D_keep_66, zr_D_keep_67, h.f14, p1, q1, p2, q2, p3, z_obs, z_pu_s, z_pu_n, z00, z10, ↓reduceIte, true_or, or_true, z_b_t, z_b_f]; rfl, h.shelf (fun q q1 q2 => by rw [z_up_n _ _ (by omega), z_up_n _ _ (by omega), z_up_n _ _ (by omega)]) ⟨fun i => if i = 9 then upd (c 9) d y else if i = 10 then upd (c 10) d kd else if i = 11 then upd (c 11) d f else c i, ⟨?_, ?_, ?_, ?_, ?_⟩, ?_, fun j hj => ?_⟩, fun q hq => by rw [z_up_n _ _ (by omega), z_up_n _ _ (by omega), z_up_n _ _ (by omega)]⟩
        · rw [z_up_n _ _ (by omega), z_up_n _ _ (by omega), z_up_s]; rfl
        · rw [z_up_n _ _ (by omega), z_up_s]; rfl
        · rw [z_up_s]; rfl
        · rw [z_up_n _ _ (by omega), z_up_n _ _ (by omega), z_up_n _ _ (by omega)]; exact h4
        · rw [z_up_n _ _ (by omega), z_up_n _ _ (by omega), z_up_n _ _ (by omega)]; exact h5
        · rw [z_up_n _ _ (by omega), z_up_n _ _ (by omega), z_up_n _ _ (by omega)]; exact h6
        · by_cases ej : j = d
          · subst ej
            rw [upS_s]
            rcases is01_of hy with rfl | rfl
            · exact pk_us
            · have hc2 : inR kd 8 = true ∧ inR f 10 = true := hc.resolve_left (by decide)
              obtain ⟨kd, k1, rfl⟩ := inR_of (by decide) hc2.1
              obtain ⟨f, f1, rfl⟩ := inR_of (by decide) hc2.2
              rw [if_neg (by decide), jN_nI (show kd < 2 ^ 31 by omega), jN_nI (show f < 2 ^ 31 by omega)]
              exact ⟨pk_us, pk_us, pk_us, k1, f1⟩
          · rw [upS_n _ _ ej]
            refine (h7 j hj).congr (fun i i1 i2 => ?_) (fun i _ => rfl)
            show (if i = 9 then upd (c 9) d y else if i = 10 then upd (c 10) d kd else if i = 11 then upd (c 11) d f else c i) j = c i j
            split
            · next e => subst e; exact pk_un ej
            · split
              · next e => subst e; exact pk_un ej
              · split
                · next e => subst e; exact pk_un ej
                · rfl
      · simp only [hc, ↓reduceIte, and_false]
        exact ⟨G, rfl, h, FR.rf⟩
end
