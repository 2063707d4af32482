/-! MARSH: searches, sums -/
section
variable {E : z_E} {G : z_H} {a : Nat} {s : Nat → Nat} (lv n k : Nat)
theorem sM_soonestOf (h : MA G a s) (w : WF s) (ws : WS s) {j : Nat} (hj : j < s 0) : z_evM E i_M_soonestOf lv [.ref a, .int (nI j)] n k G = some (some (.int (oI (opn (fun i => sH s j (s 1 + i)) 48 0 (sW s j - sR s j)))), n, k, G) := by
  have w1 := w.2.1
  obtain ⟨q1, q2, q3, q4', q5⟩ := w.2.2.2 j hj
  have q4 := ws j hj
  have q6 := wt_le _ q1 _ q2
  have q6b : sW s j ≤ 10 := q6.2.1
  have c24 : ¬ nI 24 = 0 := nI_ne0 (by omega) (by omega)
  have key : ∀ m i l, i + m = 48 → 1 ≤ l → l ≤ 10 → z_ev E i_M_soonestOf lv 8 [some (.ref a), some (.int (nI j)), some (.int (nI l)), some (.int (nI i))] [] n k G = some (some (.int (oI (opn (fun i => sH s j (s 1 + i)) m i l))), n, k, G) := by
    intro m
    induction m with
    | zero =>
      intro i l hi hl hl2
      have : i = 48 := by omega
      subst this
      have c : nI 48 ≤ nI 48 := nI_le (Nat.le_refl _) (by omega)
      simp only [zr_M_soonestOf_0, zr_M_soonestOf_1, zr_M_soonestOf_2, zr_M_soonestOf_5, zr_M_soonestOf_6, zr_M_soonestOf_7, zr_M_soonestOf_8, zr_M_soonestOf_9, zr_M_soonestOf_11, zr_M_soonestOf_14, zr_M_soonestOf_15, zr_M_soonestOf_16, zr_M_soonestOf_17, zr_M_soonestOf_18, zr_M_soonestOf_21, zr_M_soonestOf_22, zr_M_soonestOf_23, zr_M_soonestOf_25, zr_M_soonestOf_26, zr_M_soonestOf_29, zr_M_soonestOf_32, zr_M_soonestOf_33, zr_M_soonestOf_36, zr_M_soonestOf_37, zr_M_soonestOf_38, zr_M_soonestOf_39, zr_M_soonestOf_40, zr_M_soonestOf_43, zr_M_soonestOf_44, zr_M_soonestOf_45, zr_M_soonestOf_48, zr_M_soonestOf_51, zr_M_soonestOf_53, int_48, c, ↓reduceIte]; rfl
    | succ m ih =>
      intro i l hi hl hl2
      have c : ¬ nI 48 ≤ nI i := nI_ge (by omega) (by omega)
      have hlt : (s 1 + i) % 24 < 24 := Nat.mod_lt _ (by omega)
      simp only [opn]
      by_cases hb : sH s j (s 1 + i) = true
      · have hb' : hm (sK s j) (sF s j) ((s 1 + i) % 24) = true := hb
        have ih2 := ih (i + 1) (l - 1) (by omega)
        by_cases hl1 : l - 1 = 0
        · have c1 : nI (l - 1) ≤ 0 := by rw [int_0]; exact nI_le (by omega) (by omega)
          have c2 : ¬ 0 < nI (l - 1) := by rw [int_0]; exact nI_nlt (by omega) (by omega)
          simp only [zr_M_soonestOf_8, zr_M_soonestOf_0, zr_M_soonestOf_1, zr_M_soonestOf_2, zr_M_soonestOf_5, zr_M_soonestOf_6, zr_M_soonestOf_7, zr_M_soonestOf_9, zr_M_soonestOf_11, zr_M_soonestOf_14, zr_M_soonestOf_15, zr_M_soonestOf_16, zr_M_soonestOf_17, zr_M_soonestOf_18, zr_M_soonestOf_21, zr_M_soonestOf_22, zr_M_soonestOf_23, zr_M_soonestOf_25, zr_M_soonestOf_26, zr_M_soonestOf_29, zr_M_soonestOf_32, zr_M_soonestOf_33, zr_M_soonestOf_36, zr_M_soonestOf_37, zr_M_soonestOf_38, zr_M_soonestOf_39, zr_M_soonestOf_40, zr_M_soonestOf_43, zr_M_soonestOf_44, zr_M_soonestOf_45, zr_M_soonestOf_48, zr_M_soonestOf_51, zr_M_soonestOf_53, h.cls, h.f0, h.f1, h.f2, h.f3, h.f4, h.f5, h.f6, h.f7, h.f8, h.f9, h.f10, int_48, c, ↓reduceIte, z_obs, nI_add, int_24, c24, not_false_eq_true, pk_div (show s 1 + i < 2 ^ 31 by omega) (show 0 < 24 by omega) (show 24 < 2 ^ 31 by omega), z_rem2 (show s 1 + i < 2 ^ 31 by omega) (show 0 < 24 by omega) (show 24 < 2 ^ 31 by omega), sM_isHomeAt _ _ _ h w hj hlt, z_pu_s, hb', z_bz, nI_1, Bool.true_eq_false, pk_m1' hl, hb, c1, c2]
          rw [if_pos hl1]; rfl
        · have c1 : ¬ nI (l - 1) ≤ 0 := nI_nle (by omega) (by omega)
          have c2 : 0 < nI (l - 1) := by rw [int_0]; exact nI_lt (by omega) (by omega)
          simp only [zr_M_soonestOf_8, zr_M_soonestOf_0, zr_M_soonestOf_1, zr_M_soonestOf_2, zr_M_soonestOf_5, zr_M_soonestOf_6, zr_M_soonestOf_7, zr_M_soonestOf_9, zr_M_soonestOf_11, zr_M_soonestOf_14, zr_M_soonestOf_15, zr_M_soonestOf_16, zr_M_soonestOf_17, zr_M_soonestOf_18, zr_M_soonestOf_21, zr_M_soonestOf_22, zr_M_soonestOf_23, zr_M_soonestOf_25, zr_M_soonestOf_26, zr_M_soonestOf_29, zr_M_soonestOf_32, zr_M_soonestOf_33, zr_M_soonestOf_36, zr_M_soonestOf_37, zr_M_soonestOf_38, zr_M_soonestOf_39, zr_M_soonestOf_40, zr_M_soonestOf_43, zr_M_soonestOf_44, zr_M_soonestOf_45, zr_M_soonestOf_48, zr_M_soonestOf_51, zr_M_soonestOf_53, h.cls, h.f0, h.f1, h.f2, h.f3, h.f4, h.f5, h.f6, h.f7, h.f8, h.f9, h.f10, int_48, c, ↓reduceIte, z_obs, nI_add, int_24, c24, not_false_eq_true, pk_div (show s 1 + i < 2 ^ 31 by omega) (show 0 < 24 by omega) (show 24 < 2 ^ 31 by omega), z_rem2 (show s 1 + i < 2 ^ 31 by omega) (show 0 < 24 by omega) (show 24 < 2 ^ 31 by omega), sM_isHomeAt _ _ _ h w hj hlt, z_pu_s, hb', z_bz, nI_1, Bool.true_eq_false, pk_m1' hl, hb, hl1, c1, c2, ih2 (by omega) (by omega)]
      · have hb' : hm (sK s j) (sF s j) ((s 1 + i) % 24) = false := by simpa [sH] using hb
        have c0 : ¬ l = 0 := by omega
        have c1 : ¬ nI l ≤ 0 := nI_nle (by omega) (by omega)
        have c2 : 0 < nI l := by rw [int_0]; exact nI_lt (by omega) (by omega)
        have ih2 := ih (i + 1) l (by omega) hl hl2
        simp only [zr_M_soonestOf_8, zr_M_soonestOf_0, zr_M_soonestOf_1, zr_M_soonestOf_2, zr_M_soonestOf_5, zr_M_soonestOf_6, zr_M_soonestOf_7, zr_M_soonestOf_9, zr_M_soonestOf_11, zr_M_soonestOf_14, zr_M_soonestOf_15, zr_M_soonestOf_16, zr_M_soonestOf_17, zr_M_soonestOf_18, zr_M_soonestOf_21, zr_M_soonestOf_22, zr_M_soonestOf_23, zr_M_soonestOf_25, zr_M_soonestOf_26, zr_M_soonestOf_29, zr_M_soonestOf_32, zr_M_soonestOf_33, zr_M_soonestOf_36, zr_M_soonestOf_37, zr_M_soonestOf_38, zr_M_soonestOf_39, zr_M_soonestOf_40, zr_M_soonestOf_43, zr_M_soonestOf_44, zr_M_soonestOf_45, zr_M_soonestOf_48, zr_M_soonestOf_51, zr_M_soonestOf_53, h.cls, h.f0, h.f1, h.f2, h.f3, h.f4, h.f5, h.f6, h.f7, h.f8, h.f9, h.f10, int_48, c, ↓reduceIte, z_obs, nI_add, int_24, c24, not_false_eq_true, pk_div (show s 1 + i < 2 ^ 31 by omega) (show 0 < 24 by omega) (show 24 < 2 ^ 31 by omega), z_rem2 (show s 1 + i < 2 ^ 31 by omega) (show 0 < 24 by omega) (show 24 < 2 ^ 31 by omega), sM_isHomeAt _ _ _ h w hj hlt, z_pu_s, hb', z_bz, nI_1, Bool.false_eq_true, pk_m0, hb, c0, c1, c2, ih2]
  simp only [zm_M_soonestOf, zr_M_soonestOf_0, zr_M_soonestOf_1, zr_M_soonestOf_2, zr_M_soonestOf_5, zr_M_soonestOf_6, zr_M_soonestOf_7, h.cls, sM_ringsLacking _ _ _ h w ws hj, z_obs, z_pu_s]
  exact key 48 0 _ (by omega) (by omega) (by omega)
theorem sM_ringsTillOpen (h : MA G a s) (w : WF s) (ws : WS s) {j t : Nat} (hj : j < s 0) (ht : t < 24) : z_evM E i_M_ringsTillOpen lv [.ref a, .int (nI j), .int (nI t)] n k G = some (some (.int (oI (rto (fun i => sH s j (t + i)) (sW s j) 48 0 (sR s j)))), n, k, G) := by
  have w1 := w.2.1
  obtain ⟨q1, q2, q3, q4', q5⟩ := w.2.2.2 j hj
  have q4 := ws j hj
  have q6 := wt_le _ q1 _ q2
  have q6b : sW s j ≤ 10 := q6.2.1
  have c24 : ¬ nI 24 = 0 := nI_ne0 (by omega) (by omega)
  have key : ∀ m i r, i + m = 48 → r < sW s j → z_ev E i_M_ringsTillOpen lv 9 [some (.ref a), some (.int (nI j)), some (.int (nI t)), some (.int (nI r)), some (.int (nI i))] [] n k G = some (some (.int (oI (rto (fun i => sH s j (t + i)) (sW s j) m i r))), n, k, G) := by
    intro m
    induction m with
    | zero =>
      intro i r hi hr
      have : i = 48 := by omega
      subst this
      have c : nI 48 ≤ nI 48 := nI_le (Nat.le_refl _) (by omega)
      simp only [zr_M_ringsTillOpen_0, zr_M_ringsTillOpen_1, zr_M_ringsTillOpen_2, zr_M_ringsTillOpen_5, zr_M_ringsTillOpen_6, zr_M_ringsTillOpen_7, zr_M_ringsTillOpen_9, zr_M_ringsTillOpen_11, zr_M_ringsTillOpen_13, zr_M_ringsTillOpen_16, zr_M_ringsTillOpen_17, zr_M_ringsTillOpen_18, zr_M_ringsTillOpen_19, zr_M_ringsTillOpen_21, zr_M_ringsTillOpen_22, zr_M_ringsTillOpen_24, zr_M_ringsTillOpen_25, zr_M_ringsTillOpen_26, zr_M_ringsTillOpen_29, zr_M_ringsTillOpen_30, zr_M_ringsTillOpen_31, zr_M_ringsTillOpen_32, zr_M_ringsTillOpen_33, zr_M_ringsTillOpen_36, zr_M_ringsTillOpen_39, zr_M_ringsTillOpen_41, zr_M_ringsTillOpen_42, zr_M_ringsTillOpen_43, zr_M_ringsTillOpen_44, zr_M_ringsTillOpen_47, zr_M_ringsTillOpen_50, zr_M_ringsTillOpen_52, int_48, c, ↓reduceIte]; rfl
    | succ m ih =>
      intro i r hi hr
      have c : ¬ nI 48 ≤ nI i := nI_ge (by omega) (by omega)
      have hlt : (t + i) % 24 < 24 := Nat.mod_lt _ (by omega)
      simp only [rto]
      generalize hr' : (if sH s j (t + i) = true then r + 1 else 0) = r'
      have hr'' : (if hm (sK s j) (sF s j) ((t + i) % 24) = true then r + 1 else 0) = r' := hr'
      have hr10 : r' ≤ 10 := by rw [← hr']; split <;> omega
      have ih2 := ih (i + 1) r' (by omega)
      by_cases hle : sW s j ≤ r'
      · have c1 : nI (sW s j) ≤ nI r' := nI_le hle (by omega)
        have c2 : ¬ nI r' < nI (sW s j) := nI_nlt hle (by omega)
        simp only [zr_M_ringsTillOpen_9, zr_M_ringsTillOpen_0, zr_M_ringsTillOpen_1, zr_M_ringsTillOpen_2, zr_M_ringsTillOpen_5, zr_M_ringsTillOpen_6, zr_M_ringsTillOpen_7, zr_M_ringsTillOpen_11, zr_M_ringsTillOpen_13, zr_M_ringsTillOpen_16, zr_M_ringsTillOpen_17, zr_M_ringsTillOpen_18, zr_M_ringsTillOpen_19, zr_M_ringsTillOpen_21, zr_M_ringsTillOpen_22, zr_M_ringsTillOpen_24, zr_M_ringsTillOpen_25, zr_M_ringsTillOpen_26, zr_M_ringsTillOpen_29, zr_M_ringsTillOpen_30, zr_M_ringsTillOpen_31, zr_M_ringsTillOpen_32, zr_M_ringsTillOpen_33, zr_M_ringsTillOpen_36, zr_M_ringsTillOpen_39, zr_M_ringsTillOpen_41, zr_M_ringsTillOpen_42, zr_M_ringsTillOpen_43, zr_M_ringsTillOpen_44, zr_M_ringsTillOpen_47, zr_M_ringsTillOpen_50, zr_M_ringsTillOpen_52, h.cls, h.f0, h.f1, h.f2, h.f3, h.f4, h.f5, h.f6, h.f7, h.f8, h.f9, h.f10, int_48, c, ↓reduceIte, z_obs, nI_add, int_24, c24, not_false_eq_true, pk_div (show t + i < 2 ^ 31 by omega) (show 0 < 24 by omega) (show 24 < 2 ^ 31 by omega), z_rem2 (show t + i < 2 ^ 31 by omega) (show 0 < 24 by omega) (show 24 < 2 ^ 31 by omega), sM_rung1 _ _ _ h w hj hlt, z_pu_s, hr'', sM_wantsOf _ _ _ h w hj, c1, c2, nI_1, hle, oI]
      · have c1 : ¬ nI (sW s j) ≤ nI r' := nI_ge (by omega) (by omega)
        have c2 : nI r' < nI (sW s j) := nI_lt (by omega) (by omega)
        simp only [zr_M_ringsTillOpen_9, zr_M_ringsTillOpen_0, zr_M_ringsTillOpen_1, zr_M_ringsTillOpen_2, zr_M_ringsTillOpen_5, zr_M_ringsTillOpen_6, zr_M_ringsTillOpen_7, zr_M_ringsTillOpen_11, zr_M_ringsTillOpen_13, zr_M_ringsTillOpen_16, zr_M_ringsTillOpen_17, zr_M_ringsTillOpen_18, zr_M_ringsTillOpen_19, zr_M_ringsTillOpen_21, zr_M_ringsTillOpen_22, zr_M_ringsTillOpen_24, zr_M_ringsTillOpen_25, zr_M_ringsTillOpen_26, zr_M_ringsTillOpen_29, zr_M_ringsTillOpen_30, zr_M_ringsTillOpen_31, zr_M_ringsTillOpen_32, zr_M_ringsTillOpen_33, zr_M_ringsTillOpen_36, zr_M_ringsTillOpen_39, zr_M_ringsTillOpen_41, zr_M_ringsTillOpen_42, zr_M_ringsTillOpen_43, zr_M_ringsTillOpen_44, zr_M_ringsTillOpen_47, zr_M_ringsTillOpen_50, zr_M_ringsTillOpen_52, h.cls, h.f0, h.f1, h.f2, h.f3, h.f4, h.f5, h.f6, h.f7, h.f8, h.f9, h.f10, int_48, c, ↓reduceIte, z_obs, nI_add, int_24, c24, not_false_eq_true, pk_div (show t + i < 2 ^ 31 by omega) (show 0 < 24 by omega) (show 24 < 2 ^ 31 by omega), z_rem2 (show t + i < 2 ^ 31 by omega) (show 0 < 24 by omega) (show 24 < 2 ^ 31 by omega), sM_rung1 _ _ _ h w hj hlt, z_pu_s, hr'', sM_wantsOf _ _ _ h w hj, c1, c2, nI_1, hle, ih2 (by omega)]
  simp only [zm_M_ringsTillOpen, zr_M_ringsTillOpen_0, zr_M_ringsTillOpen_1, zr_M_ringsTillOpen_2, zr_M_ringsTillOpen_5, zr_M_ringsTillOpen_6, zr_M_ringsTillOpen_7, h.cls, sM_rungOf _ _ _ h w hj, z_obs, z_pu_s]
  exact key 48 0 _ (by omega) q4
theorem sM_sumOf (h : MA G a s) (w : WF s) {q : Nat} {g : Nat → Nat} {ff : Nat → Int32} (hq : G q = some (.inr (.int, 6, .inl ff))) (hf : ∀ b, b < s 0 → ff b = nI (g b)) : z_evM E i_M_sumOf lv [.ref a, .ref q] n k G = some (some (.int (sumI s g)), n, k, G) := by
  have h6 := w.1
  have hn : z_an E G q = some (nI 6) := by unfold z_an; simp only [hq]
  simp only [zm_M_sumOf, zr_M_sumOf_0, zr_M_sumOf_1, zr_M_sumOf_2, zr_M_sumOf_3]
  refine z_loop (fun i acc => z_ev E i_M_sumOf lv 4 [some (.ref a), some (.ref q), some (.int acc), some (.int (nI i))] [] n k G) (fun b acc => acc + nI (g b)) (s 0) (fun acc => some (some (.int acc), n, k, G)) ?_ ?_ (s 0) 0 0 (by omega)
  · intro acc
    have c : nI (s 0) ≤ nI (s 0) := nI_le (Nat.le_refl _) (by omega)
    simp only [zr_M_sumOf_0, zr_M_sumOf_1, zr_M_sumOf_2, zr_M_sumOf_3, zr_M_sumOf_4, zr_M_sumOf_5, zr_M_sumOf_6, zr_M_sumOf_9, zr_M_sumOf_12, zr_M_sumOf_13, zr_M_sumOf_13n, zr_M_sumOf_14, zr_M_sumOf_15, zr_M_sumOf_18, zr_M_sumOf_19, zr_M_sumOf_19n, zr_M_sumOf_20, zr_M_sumOf_21, zr_M_sumOf_22, zr_M_sumOf_23, zr_M_sumOf_24, zr_M_sumOf_27, zr_M_sumOf_30, zr_M_sumOf_31, h.f8, c, z_obs, ↓reduceIte]
  · intro i acc hi
    have c : ¬ nI (s 0) ≤ nI i := nI_ge hi (by omega)
    have c2 : ¬ nI 6 ≤ nI i := nI_ge (by omega) (by omega)
    have e1 : z_ai E G q (nI i) = some (nI (g i)) := by rw [z_aiI hq (by omega) (by decide), hf i hi]
    rw [zr_M_sumOf_4]
    simp only [zr_M_sumOf_0, zr_M_sumOf_1, zr_M_sumOf_2, zr_M_sumOf_3, zr_M_sumOf_5, zr_M_sumOf_6, zr_M_sumOf_9, zr_M_sumOf_12, zr_M_sumOf_13, zr_M_sumOf_13n, zr_M_sumOf_14, zr_M_sumOf_15, zr_M_sumOf_18, zr_M_sumOf_19, zr_M_sumOf_19n, zr_M_sumOf_20, zr_M_sumOf_21, zr_M_sumOf_22, zr_M_sumOf_23, zr_M_sumOf_24, zr_M_sumOf_27, zr_M_sumOf_30, zr_M_sumOf_31, h.f8, c, c2, hn, z_obs, ↓reduceIte, e1, nI_1]
theorem sM_allRung (h : MA G a s) (w : WF s) : z_evM E i_M_allRung lv [.ref a] n k G = some (some (.int (sumI s (sR s))), n, k, G) := by
  obtain ⟨f, e, q⟩ := h.2.2.2.2.1
  simp only [zm_M_allRung, zr_M_allRung_0, zr_M_allRung_1, zr_M_allRung_2, zr_M_allRung_5, zr_M_allRung_8, h.cls, h.f0, h.f1, h.f2, h.f3, h.f4, h.f5, h.f6, h.f7, h.f8, h.f9, h.f10, z_obs, z_pu_s, sM_sumOf (g := sR s) _ _ _ h w e (fun b hb => q b (Nat.lt_of_lt_of_le hb w.1))]
theorem sM_allOpened (h : MA G a s) (w : WF s) : z_evM E i_M_allOpened lv [.ref a] n k G = some (some (.int (sumI s (sO s))), n, k, G) := by
  obtain ⟨f, e, q⟩ := h.2.2.2.2.2.1
  simp only [zm_M_allOpened, zr_M_allOpened_0, zr_M_allOpened_1, zr_M_allOpened_2, zr_M_allOpened_5, zr_M_allOpened_8, h.cls, h.f0, h.f1, h.f2, h.f3, h.f4, h.f5, h.f6, h.f7, h.f8, h.f9, h.f10, z_obs, z_pu_s, sM_sumOf (g := sO s) _ _ _ h w e (fun b hb => q b (Nat.lt_of_lt_of_le hb w.1))]
theorem sM_allSteps (h : MA G a s) (w : WF s) : z_evM E i_M_allSteps lv [.ref a] n k G = some (some (.int (sumI s (sS s))), n, k, G) := by
  obtain ⟨f, e, q⟩ := h.2.2.2.2.2.2.2.2
  simp only [zm_M_allSteps, zr_M_allSteps_0, zr_M_allSteps_1, zr_M_allSteps_2, zr_M_allSteps_5, zr_M_allSteps_8, h.cls, h.f0, h.f1, h.f2, h.f3, h.f4, h.f5, h.f6, h.f7, h.f8, h.f9, h.f10, z_obs, z_pu_s, sM_sumOf (g := sS s) _ _ _ h w e (fun b hb => q b hb)]
end
