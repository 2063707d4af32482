/-! THE MODEL: who opens when; counts, the image -/
theorem opn_cut {p : Nat → Bool} : ∀ M m i l, m ≤ M → opn p m i l = (match opn p M i l with
  | some r => if r < i + m then some r else none
  | none => none) := by
  intro M
  induction M with
  | zero => intro m i l h; have : m = 0 := by omega
            subst this; rfl
  | succ M ih =>
    intro m i l h
    rcases m with _ | m
    · rcases e : opn p (M + 1) i l with _ | r
      · rfl
      · have := opn_lt _ _ _ _ e
        show none = if r < i + 0 then some r else none
        rw [if_neg (by omega)]
    · unfold opn
      generalize (if p i = true then l - 1 else l) = l'
      by_cases e : l' = 0
      · rw [if_pos e, if_pos e]
        show some i = if i < i + (m + 1) then some i else none
        rw [if_pos (by omega)]
      · rw [if_neg e, if_neg e, ih m (i + 1) l' (by omega), show i + 1 + m = i + (m + 1) by omega]
section
variable {E : z_E} {G : z_H} {a : Nat} {s u : Nat → Nat} {ib : Bool} {hs : Nat → Sh} (lv N k : Nat)
theorem sD_opens (h : DW G a s ib u hs) (w : WF s) (ws : WS s) {j m : Nat} (hj : j < s 0) (hm : m ≤ 48) : z_evM E i_D_opensWithin lv [.ref a, .int (nI j), .int (nI m)] N k G = some (some (.int (oI (opn (fun i => sH s j (s 1 + i)) m 0 (sW s j - sR s j)))), N, k, G) := by
  have hj6 : j < 6 := Nat.lt_of_lt_of_le hj w.1
  have w1 := w.2.1
  have q := w.2.2.2 j hj
  have hws := ws j hj
  have q6 : sW s j ≤ 10 := (wt_le _ q.1 _ q.2.1).2.1
  have key : ∀ d i l, i + d = m → 1 ≤ l → l ≤ 10 → z_ev E i_D_opensWithin lv 23 [some (.ref a), some (.int (nI j)), some (.int (nI m)), some (.int (nI l)), some (.int (nI i))] [] N k G = some (some (.int (oI (opn (fun i => sH s j (s 1 + i)) d i l))), N, k, G) := by
    intro d
    induction d with
    | zero =>
      intro i l hi h1 h2
      have : i = m := by omega
      subst this
      have c : nI i ≤ nI i := nI_le (Nat.le_refl _) (by omega)
      simp only [zr_D_opensWithin_0, zr_D_opensWithin_1, zr_D_opensWithin_4, zr_D_opensWithin_5, zr_D_opensWithin_8, zr_D_opensWithin_9, zr_D_opensWithin_12, zr_D_opensWithin_13, zr_D_opensWithin_14, zr_D_opensWithin_17, zr_D_opensWithin_18, zr_D_opensWithin_19, zr_D_opensWithin_20, zr_D_opensWithin_21, zr_D_opensWithin_23, zr_D_opensWithin_25, zr_D_opensWithin_26, zr_D_opensWithin_29, zr_D_opensWithin_30, zr_D_opensWithin_31, zr_D_opensWithin_34, zr_D_opensWithin_35, zr_D_opensWithin_36, zr_D_opensWithin_39, zr_D_opensWithin_40, zr_D_opensWithin_41, zr_D_opensWithin_43, zr_D_opensWithin_44, zr_D_opensWithin_47, zr_D_opensWithin_50, zr_D_opensWithin_51, zr_D_opensWithin_54, zr_D_opensWithin_55, zr_D_opensWithin_56, zr_D_opensWithin_57, zr_D_opensWithin_58, zr_D_opensWithin_61, zr_D_opensWithin_63, zr_D_opensWithin_64, zr_D_opensWithin_67, zr_D_opensWithin_70, zr_D_opensWithin_72, c, z_obs, z_pu_s, z_pu_n, z00, z10, ↓reduceIte, true_or, or_true, z_b_t, z_b_f]
      rfl
    | succ d ih =>
      intro i l hi h1 h2
      have c : ¬ nI m ≤ nI i := nI_ge (by omega) (by omega)
      have hh := sD_isHome (E := E) 0 N k h.st w hj (show s 1 + i < 2 ^ 31 by omega)
      unfold opn
      rw [zr_D_opensWithin_23]
      cases hb : sH s j (s 1 + i) <;> rw [hb] at hh
      · have cl : 0 < nI l := by rw [int_0]; exact nI_lt h1 (by omega)
        have e0 : ¬ l = 0 := by omega
        simp only [zr_D_opensWithin_0, zr_D_opensWithin_1, zr_D_opensWithin_4, zr_D_opensWithin_5, zr_D_opensWithin_8, zr_D_opensWithin_9, zr_D_opensWithin_12, zr_D_opensWithin_13, zr_D_opensWithin_14, zr_D_opensWithin_17, zr_D_opensWithin_18, zr_D_opensWithin_19, zr_D_opensWithin_20, zr_D_opensWithin_21, zr_D_opensWithin_25, zr_D_opensWithin_26, zr_D_opensWithin_29, zr_D_opensWithin_30, zr_D_opensWithin_31, zr_D_opensWithin_34, zr_D_opensWithin_35, zr_D_opensWithin_36, zr_D_opensWithin_39, zr_D_opensWithin_40, zr_D_opensWithin_41, zr_D_opensWithin_43, zr_D_opensWithin_44, zr_D_opensWithin_47, zr_D_opensWithin_50, zr_D_opensWithin_51, zr_D_opensWithin_54, zr_D_opensWithin_55, zr_D_opensWithin_56, zr_D_opensWithin_57, zr_D_opensWithin_58, zr_D_opensWithin_61, zr_D_opensWithin_63, zr_D_opensWithin_64, zr_D_opensWithin_67, zr_D_opensWithin_70, zr_D_opensWithin_72, c, h.f0, h.st.r1, nI_add, hh, pk_m0, cl, z_obs, z_pu_s, z_pu_n, z00, z10, ↓reduceIte, true_or, or_true, z_b_t, z_b_f, nI_1, Bool.false_eq_true, e0]
        exact ih (i + 1) l (by omega) h1 h2
      · by_cases e1 : l = 1
        · subst e1
          have cl : ¬ 0 < nI 1 - 1 := by decide
          simp only [zr_D_opensWithin_0, zr_D_opensWithin_1, zr_D_opensWithin_4, zr_D_opensWithin_5, zr_D_opensWithin_8, zr_D_opensWithin_9, zr_D_opensWithin_12, zr_D_opensWithin_13, zr_D_opensWithin_14, zr_D_opensWithin_17, zr_D_opensWithin_18, zr_D_opensWithin_19, zr_D_opensWithin_20, zr_D_opensWithin_21, zr_D_opensWithin_25, zr_D_opensWithin_26, zr_D_opensWithin_29, zr_D_opensWithin_30, zr_D_opensWithin_31, zr_D_opensWithin_34, zr_D_opensWithin_35, zr_D_opensWithin_36, zr_D_opensWithin_39, zr_D_opensWithin_40, zr_D_opensWithin_41, zr_D_opensWithin_43, zr_D_opensWithin_44, zr_D_opensWithin_47, zr_D_opensWithin_50, zr_D_opensWithin_51, zr_D_opensWithin_54, zr_D_opensWithin_55, zr_D_opensWithin_56, zr_D_opensWithin_57, zr_D_opensWithin_58, zr_D_opensWithin_61, zr_D_opensWithin_63, zr_D_opensWithin_64, zr_D_opensWithin_67, zr_D_opensWithin_70, zr_D_opensWithin_72, c, h.f0, h.st.r1, nI_add, hh, cl, z_obs, z_pu_s, z_pu_n, z00, z10, ↓reduceIte, true_or, or_true, z_b_t, z_b_f]
          rfl
        · have cl : 0 < nI (l - 1) := by rw [int_0]; exact nI_lt (by omega) (by omega)
          have e0 : ¬ l - 1 = 0 := by omega
          simp only [zr_D_opensWithin_0, zr_D_opensWithin_1, zr_D_opensWithin_4, zr_D_opensWithin_5, zr_D_opensWithin_8, zr_D_opensWithin_9, zr_D_opensWithin_12, zr_D_opensWithin_13, zr_D_opensWithin_14, zr_D_opensWithin_17, zr_D_opensWithin_18, zr_D_opensWithin_19, zr_D_opensWithin_20, zr_D_opensWithin_21, zr_D_opensWithin_25, zr_D_opensWithin_26, zr_D_opensWithin_29, zr_D_opensWithin_30, zr_D_opensWithin_31, zr_D_opensWithin_34, zr_D_opensWithin_35, zr_D_opensWithin_36, zr_D_opensWithin_39, zr_D_opensWithin_40, zr_D_opensWithin_41, zr_D_opensWithin_43, zr_D_opensWithin_44, zr_D_opensWithin_47, zr_D_opensWithin_50, zr_D_opensWithin_51, zr_D_opensWithin_54, zr_D_opensWithin_55, zr_D_opensWithin_56, zr_D_opensWithin_57, zr_D_opensWithin_58, zr_D_opensWithin_61, zr_D_opensWithin_63, zr_D_opensWithin_64, zr_D_opensWithin_67, zr_D_opensWithin_70, zr_D_opensWithin_72, c, h.f0, h.st.r1, nI_add, hh, pk_m1' h1, cl, z_obs, z_pu_s, z_pu_n, z00, z10, ↓reduceIte, true_or, or_true, z_b_t, z_b_f, nI_1, e0]
          exact ih (i + 1) (l - 1) (by omega) (by omega) (by omega)
  simp only [zm_D_opensWithin, zr_D_opensWithin_0, zr_D_opensWithin_1, zr_D_opensWithin_4, zr_D_opensWithin_5, zr_D_opensWithin_8, zr_D_opensWithin_9, zr_D_opensWithin_12, zr_D_opensWithin_13, zr_D_opensWithin_14, zr_D_opensWithin_17, zr_D_opensWithin_18, zr_D_opensWithin_19, zr_D_opensWithin_20, zr_D_opensWithin_21, h.f0, sD_wantsOf _ _ _ h.st w hj, sD_of3, h.st.k3 hj6, pk_sub (Nat.le_of_lt hws), z_obs, z_pu_s, z_pu_n, z00, z10, ↓reduceIte, true_or, or_true, z_b_t, z_b_f]
  exact key m 0 (sW s j - sR s j) (by omega) (by omega) (by omega)
theorem sD_opens48 (h : DW G a s ib u hs) (w : WF s) (ws : WS s) {j : Nat} (hj : j < s 0) : z_evM E i_D_opensWithin lv [.ref a, .int (nI j), .int 48] N k G = some (some (.int (oI (soN s j))), N, k, G) := sD_opens (m := 48) lv N k h w ws hj (by omega)
theorem dSoonest (h : DW G a s ib u hs) (w : WF s) (ws : WS s) (b : Int32) : z_evM E i_D_soonest lv [.ref a, .int b] N k G = some (some (.int (aSoonest s b)), N, k, G) := by
  unfold aSoonest
  cases hb : isB s b
  · simp only [zm_D_soonest, zr_D_soonest_0, zr_D_soonest_1, zr_D_soonest_2, zr_D_soonest_5, zr_D_soonest_8, zr_D_soonest_9, zr_D_soonest_10, zr_D_soonest_12, zr_D_soonest_15, zr_D_soonest_18, zr_D_soonest_19, h.cls, sD_isBell _ _ _ h w, hb, z_obs, z_pu_s, z_pu_n, z00, z10, ↓reduceIte, true_or, or_true, z_b_t, z_b_f, Bool.false_eq_true]
  · obtain ⟨j, hj, rfl⟩ := isB_of w hb
    simp only [zm_D_soonest, zr_D_soonest_0, zr_D_soonest_1, zr_D_soonest_2, zr_D_soonest_5, zr_D_soonest_8, zr_D_soonest_9, zr_D_soonest_10, zr_D_soonest_12, zr_D_soonest_15, zr_D_soonest_18, zr_D_soonest_19, h.cls, sD_isBell _ _ _ h w, hb, sD_opens48 _ _ _ h w ws hj, z_obs, z_pu_s, z_pu_n, z00, z10, ↓reduceIte, true_or, or_true, z_b_t, z_b_f, jNb w hj]
theorem dFewest (h : DW G a s ib u hs) (w : WF s) (ws : WS s) (b y : Int32) : z_evM E i_D_fewest lv [.ref a, .int b, .int y] N k G = some (some (.int (aFewest s b y)), N, k, G) := by
  unfold aFewest
  cases hb : isB s b
  · simp only [zm_D_fewest, zr_D_fewest_0, zr_D_fewest_1, zr_D_fewest_2, zr_D_fewest_5, zr_D_fewest_8, zr_D_fewest_9, zr_D_fewest_10, zr_D_fewest_12, zr_D_fewest_15, zr_D_fewest_18, zr_D_fewest_19, zr_D_fewest_20, zr_D_fewest_21, zr_D_fewest_22, zr_D_fewest_23, zr_D_fewest_26, zr_D_fewest_29, zr_D_fewest_31, zr_D_fewest_34, zr_D_fewest_35, zr_D_fewest_38, zr_D_fewest_39, zr_D_fewest_42, zr_D_fewest_43, zr_D_fewest_46, zr_D_fewest_47, zr_D_fewest_48, zr_D_fewest_51, zr_D_fewest_52, zr_D_fewest_53, h.cls, sD_isBell _ _ _ h w, hb, z_obs, z_pu_s, z_pu_n, z00, z10, ↓reduceIte, true_or, or_true, z_b_t, z_b_f, Bool.false_eq_true, false_and]
  · obtain ⟨j, hj, rfl⟩ := isB_of w hb
    have hj6 : j < 6 := Nat.lt_of_lt_of_le hj w.1
    have hws := ws j hj
    cases hy : inAB y 1 48
    · simp only [zm_D_fewest, zr_D_fewest_0, zr_D_fewest_1, zr_D_fewest_2, zr_D_fewest_5, zr_D_fewest_8, zr_D_fewest_9, zr_D_fewest_10, zr_D_fewest_12, zr_D_fewest_15, zr_D_fewest_18, zr_D_fewest_19, zr_D_fewest_20, zr_D_fewest_21, zr_D_fewest_22, zr_D_fewest_23, zr_D_fewest_26, zr_D_fewest_29, zr_D_fewest_31, zr_D_fewest_34, zr_D_fewest_35, zr_D_fewest_38, zr_D_fewest_39, zr_D_fewest_42, zr_D_fewest_43, zr_D_fewest_46, zr_D_fewest_47, zr_D_fewest_48, zr_D_fewest_51, zr_D_fewest_52, zr_D_fewest_53, h.cls, sD_isBell _ _ _ h w, hb, sD_isIn, show inL y 1 48 = inAB y 1 48 from rfl, hy, z_obs, z_pu_s, z_pu_n, z00, z10, ↓reduceIte, true_or, or_true, z_b_t, z_b_f, Bool.false_eq_true, and_false]
    · obtain ⟨m, m1, m2, rfl⟩ := inAB_of (by decide) (by decide) hy
      have ho := sD_opens (E := E) 0 N k h w ws hj m2
      rw [opn_cut 48 m 0 _ m2] at ho
      have hso : opn (fun i => sH s j (s 1 + i)) 48 0 (sW s j - sR s j) = soN s j := rfl
      rw [hso, Nat.zero_add] at ho
      rw [jNb w hj, jN_nI (show m < 2 ^ 31 by omega)]
      simp only [and_self, ↓reduceIte]
      rcases e : soN s j with _ | i
      · rw [e] at ho
        have ho : z_evM E i_D_opensWithin 0 [.ref a, .int (nI j), .int (nI m)] N k G = some (some (.int (-4)), N, k, G) := ho
        simp only [zm_D_fewest, zr_D_fewest_0, zr_D_fewest_1, zr_D_fewest_2, zr_D_fewest_5, zr_D_fewest_8, zr_D_fewest_9, zr_D_fewest_10, zr_D_fewest_12, zr_D_fewest_15, zr_D_fewest_18, zr_D_fewest_19, zr_D_fewest_20, zr_D_fewest_21, zr_D_fewest_22, zr_D_fewest_23, zr_D_fewest_26, zr_D_fewest_29, zr_D_fewest_31, zr_D_fewest_34, zr_D_fewest_35, zr_D_fewest_38, zr_D_fewest_39, zr_D_fewest_42, zr_D_fewest_43, zr_D_fewest_46, zr_D_fewest_47, zr_D_fewest_48, zr_D_fewest_51, zr_D_fewest_52, zr_D_fewest_53, h.cls, sD_isBell _ _ _ h w, hb, sD_isIn, show inL (nI m) 1 48 = inAB (nI m) 1 48 from rfl, hy, ho, show ¬ (0 : Int32) ≤ -4 by decide, z_obs, z_pu_s, z_pu_n, z00, z10, ↓reduceIte, true_or, or_true, z_b_t, z_b_f]
      · rw [e] at ho
        dsimp only at ho ⊢
        have hi := soN_lt e
        by_cases hlt : i < m
        · rw [if_pos hlt] at ho ⊢
          have ho : z_evM E i_D_opensWithin 0 [.ref a, .int (nI j), .int (nI m)] N k G = some (some (.int (nI i)), N, k, G) := ho
          simp only [zm_D_fewest, zr_D_fewest_0, zr_D_fewest_1, zr_D_fewest_2, zr_D_fewest_5, zr_D_fewest_8, zr_D_fewest_9, zr_D_fewest_10, zr_D_fewest_12, zr_D_fewest_15, zr_D_fewest_18, zr_D_fewest_19, zr_D_fewest_20, zr_D_fewest_21, zr_D_fewest_22, zr_D_fewest_23, zr_D_fewest_26, zr_D_fewest_29, zr_D_fewest_31, zr_D_fewest_34, zr_D_fewest_35, zr_D_fewest_38, zr_D_fewest_39, zr_D_fewest_42, zr_D_fewest_43, zr_D_fewest_46, zr_D_fewest_47, zr_D_fewest_48, zr_D_fewest_51, zr_D_fewest_52, zr_D_fewest_53, h.cls, sD_isBell _ _ _ h w, hb, sD_isIn, show inL (nI m) 1 48 = inAB (nI m) 1 48 from rfl, hy, ho, nI_pos' (show i < 2 ^ 31 by omega), h.f0, sD_wantsOf _ _ _ h.st w hj, sD_of3, h.st.k3 hj6, pk_sub (Nat.le_of_lt hws), z_obs, z_pu_s, z_pu_n, z00, z10, ↓reduceIte, true_or, or_true, z_b_t, z_b_f]
        · rw [if_neg hlt] at ho ⊢
          have ho : z_evM E i_D_opensWithin 0 [.ref a, .int (nI j), .int (nI m)] N k G = some (some (.int (-4)), N, k, G) := ho
          simp only [zm_D_fewest, zr_D_fewest_0, zr_D_fewest_1, zr_D_fewest_2, zr_D_fewest_5, zr_D_fewest_8, zr_D_fewest_9, zr_D_fewest_10, zr_D_fewest_12, zr_D_fewest_15, zr_D_fewest_18, zr_D_fewest_19, zr_D_fewest_20, zr_D_fewest_21, zr_D_fewest_22, zr_D_fewest_23, zr_D_fewest_26, zr_D_fewest_29, zr_D_fewest_31, zr_D_fewest_34, zr_D_fewest_35, zr_D_fewest_38, zr_D_fewest_39, zr_D_fewest_42, zr_D_fewest_43, zr_D_fewest_46, zr_D_fewest_47, zr_D_fewest_48, zr_D_fewest_51, zr_D_fewest_52, zr_D_fewest_53, h.cls, sD_isBell _ _ _ h w, hb, sD_isIn, show inL (nI m) 1 48 = inAB (nI m) 1 48 from rfl, hy, ho, show ¬ (0 : Int32) ≤ -4 by decide, z_obs, z_pu_s, z_pu_n, z00, z10, ↓reduceIte, true_or, or_true, z_b_t, z_b_f]
theorem dNever (h : DW G a s ib u hs) (w : WF s) (ws : WS s) : z_evM E i_D_never lv [.ref a] N k G = some (some (.int (aNever s)), N, k, G) := by
  have h6 := w.1
  simp only [zm_D_never, zr_D_never_0, zr_D_never_1, zr_D_never_2, zr_D_never_3]
  refine z_loop (fun i acc => z_ev E i_D_never lv 4 [some (.ref a), some (.int acc), some (.int (nI i))] [] N k G) (fun b acc => if soN s b = none then acc ||| (1 : Int32) <<< (nI b &&& 31) else acc) (s 0) (fun acc => some (some (.int acc), N, k, G)) ?_ ?_ (s 0) 0 0 (by omega)
  · intro acc
    have c : nI (s 0) ≤ nI (s 0) := nI_le (Nat.le_refl _) (by omega)
    simp only [zr_D_never_0, zr_D_never_1, zr_D_never_2, zr_D_never_3, zr_D_never_4, zr_D_never_5, zr_D_never_6, zr_D_never_9, zr_D_never_10, zr_D_never_11, zr_D_never_14, zr_D_never_15, zr_D_never_16, zr_D_never_17, zr_D_never_19, zr_D_never_22, zr_D_never_25, zr_D_never_26, zr_D_never_27, zr_D_never_28, zr_D_never_31, zr_D_never_32, zr_D_never_33, zr_D_never_34, zr_D_never_37, zr_D_never_40, zr_D_never_41, h.f0, h.st.r0, c, z_obs, z_pu_s, z_pu_n, z00, z10, ↓reduceIte, true_or, or_true, z_b_t, z_b_f]
  · intro i acc hi
    have c : ¬ nI (s 0) ≤ nI i := nI_ge hi (by omega)
    rw [zr_D_never_4]
    rcases e : soN s i with _ | r
    · simp only [zr_D_never_0, zr_D_never_1, zr_D_never_2, zr_D_never_3, zr_D_never_5, zr_D_never_6, zr_D_never_9, zr_D_never_10, zr_D_never_11, zr_D_never_14, zr_D_never_15, zr_D_never_16, zr_D_never_17, zr_D_never_19, zr_D_never_22, zr_D_never_25, zr_D_never_26, zr_D_never_27, zr_D_never_28, zr_D_never_31, zr_D_never_32, zr_D_never_33, zr_D_never_34, zr_D_never_37, zr_D_never_40, zr_D_never_41, h.f0, h.st.r0, h.cls, c, sD_opens48 _ _ _ h w ws hi, e, oI, show ¬ (0 : Int32) ≤ -4 by decide, z_obs, z_pu_s, z_pu_n, z00, z10, ↓reduceIte, true_or, or_true, z_b_t, z_b_f, nI_1]
    · have hr := soN_lt e
      simp only [zr_D_never_0, zr_D_never_1, zr_D_never_2, zr_D_never_3, zr_D_never_5, zr_D_never_6, zr_D_never_9, zr_D_never_10, zr_D_never_11, zr_D_never_14, zr_D_never_15, zr_D_never_16, zr_D_never_17, zr_D_never_19, zr_D_never_22, zr_D_never_25, zr_D_never_26, zr_D_never_27, zr_D_never_28, zr_D_never_31, zr_D_never_32, zr_D_never_33, zr_D_never_34, zr_D_never_37, zr_D_never_40, zr_D_never_41, h.f0, h.st.r0, h.cls, c, sD_opens48 _ _ _ h w ws hi, e, oI, nI_pos' (show r < 2 ^ 31 by omega), z_obs, z_pu_s, z_pu_n, z00, z10, ↓reduceIte, true_or, or_true, z_b_t, z_b_f, nI_1, Int32.or_zero, reduceCtorEq]
theorem dFirst (h : DW G a s ib u hs) (w : WF s) (ws : WS s) : z_evM E i_D_first lv [.ref a] N k G = some (some (.int (aFirst s)), N, k, G) := by
  have h6 := w.1
  have hsim := foldN_sim (f := frF s) (g := frF s) (R := fun _ (p q : Int32 × Nat) => p = q ∨ (p.1 = q.1 ∧ p.2 = 1000000000 ∧ q.2 = 48)) (s 0) 0 (-4, 1000000000) (-4, 48) (Or.inr ⟨rfl, rfl, rfl⟩) (by
    intro j p q _ _ hR
    rcases hR with rfl | ⟨r1, r2, r3⟩
    · exact Or.inl rfl
    · unfold frF
      rcases e : soN s j with _ | r
      · exact Or.inr ⟨r1, r2, r3⟩
      · have hr := soN_lt e
        dsimp only
        rw [if_pos (by omega), if_pos (by omega)]
        exact Or.inl rfl)
  have he : (foldN (frF s) (s 0) 0 (-4, 1000000000)).1 = aFirst s := by
    rcases hsim with e | e
    · exact congrArg Prod.fst e
    · exact e.1
  rw [← he]
  simp only [zm_D_first, zr_D_first_0, zr_D_first_2, zr_D_first_3, zr_D_first_5, zr_D_first_6, zr_D_first_7]
  refine z_loopP (fun i (acc : Int32 × Nat) (jk : Option Value) => z_ev E i_D_first lv 8 [some (.ref a), some (.int acc.1), some (.int (nI acc.2)), some (.int (nI i)), jk] [] N k G) (frF s) (fun _ acc => acc.2 ≤ 1000000000) (s 0) (fun acc => some (some (.int acc.1), N, k, G)) ?_ ?_ (s 0) 0 (-4, 1000000000) none (by omega) (Nat.le_refl _)
  · intro acc jk _
    have c : nI (s 0) ≤ nI (s 0) := nI_le (Nat.le_refl _) (by omega)
    simp only [zr_D_first_0, zr_D_first_2, zr_D_first_3, zr_D_first_5, zr_D_first_6, zr_D_first_7, zr_D_first_8, zr_D_first_9, zr_D_first_10, zr_D_first_13, zr_D_first_14, zr_D_first_15, zr_D_first_18, zr_D_first_19, zr_D_first_20, zr_D_first_22, zr_D_first_25, zr_D_first_27, zr_D_first_29, zr_D_first_32, zr_D_first_34, zr_D_first_35, zr_D_first_38, zr_D_first_41, zr_D_first_42, zr_D_first_43, zr_D_first_45, zr_D_first_46, zr_D_first_49, zr_D_first_52, zr_D_first_53, h.f0, h.st.r0, c, z_obs, z_pu_s, z_pu_n, z00, z10, ↓reduceIte, true_or, or_true, z_b_t, z_b_f]
  · intro i acc jk hi hP
    have c : ¬ nI (s 0) ≤ nI i := nI_ge hi (by omega)
    unfold frF
    rcases e : soN s i with _ | r
    · refine ⟨hP, some (.int (-4)), ?_⟩
      rw [zr_D_first_8]
      simp only [zr_D_first_0, zr_D_first_2, zr_D_first_3, zr_D_first_5, zr_D_first_6, zr_D_first_7, zr_D_first_9, zr_D_first_10, zr_D_first_13, zr_D_first_14, zr_D_first_15, zr_D_first_18, zr_D_first_19, zr_D_first_20, zr_D_first_22, zr_D_first_25, zr_D_first_27, zr_D_first_29, zr_D_first_32, zr_D_first_34, zr_D_first_35, zr_D_first_38, zr_D_first_41, zr_D_first_42, zr_D_first_43, zr_D_first_45, zr_D_first_46, zr_D_first_49, zr_D_first_52, zr_D_first_53, h.f0, h.st.r0, h.cls, c, sD_opens48 _ _ _ h w ws hi, e, oI, show ((-4 : Int32) < 0) = True from eq_true (by decide), z_obs, z_pu_s, z_pu_n, z00, z10, ↓reduceIte, true_or, or_true, z_b_t, z_b_f, nI_1]
    · have hr := soN_lt e
      have q : ¬ nI r < 0 := nI_pos (by omega)
      by_cases hlt : r < acc.2
      · have q1 : nI r < nI acc.2 := nI_lt hlt (by omega)
        simp only [hlt, ↓reduceIte]
        refine ⟨by omega, some (.int (nI r)), ?_⟩
        rw [zr_D_first_8]
        simp only [zr_D_first_0, zr_D_first_2, zr_D_first_3, zr_D_first_5, zr_D_first_6, zr_D_first_7, zr_D_first_9, zr_D_first_10, zr_D_first_13, zr_D_first_14, zr_D_first_15, zr_D_first_18, zr_D_first_19, zr_D_first_20, zr_D_first_22, zr_D_first_25, zr_D_first_27, zr_D_first_29, zr_D_first_32, zr_D_first_34, zr_D_first_35, zr_D_first_38, zr_D_first_41, zr_D_first_42, zr_D_first_43, zr_D_first_45, zr_D_first_46, zr_D_first_49, zr_D_first_52, zr_D_first_53, h.f0, h.st.r0, h.cls, c, sD_opens48 _ _ _ h w ws hi, e, oI, q, q1, z_obs, z_pu_s, z_pu_n, z00, z10, ↓reduceIte, true_or, or_true, z_b_t, z_b_f, nI_1]
      · have q1 : ¬ nI r < nI acc.2 := nI_nlt (by omega) (by omega)
        simp only [hlt, ↓reduceIte]
        refine ⟨hP, some (.int (nI r)), ?_⟩
        rw [zr_D_first_8]
        simp only [zr_D_first_0, zr_D_first_2, zr_D_first_3, zr_D_first_5, zr_D_first_6, zr_D_first_7, zr_D_first_9, zr_D_first_10, zr_D_first_13, zr_D_first_14, zr_D_first_15, zr_D_first_18, zr_D_first_19, zr_D_first_20, zr_D_first_22, zr_D_first_25, zr_D_first_27, zr_D_first_29, zr_D_first_32, zr_D_first_34, zr_D_first_35, zr_D_first_38, zr_D_first_41, zr_D_first_42, zr_D_first_43, zr_D_first_45, zr_D_first_46, zr_D_first_49, zr_D_first_52, zr_D_first_53, h.f0, h.st.r0, h.cls, c, sD_opens48 _ _ _ h w ws hi, e, oI, q, q1, z_obs, z_pu_s, z_pu_n, z00, z10, ↓reduceIte, true_or, or_true, z_b_t, z_b_f, nI_1]
theorem dImage (h : DW G a s ib u hs) : ∃ G', z_evM E i_D_image lv [.ref a] N k G = some (some (.int (nI (s 2))), N, k, G') ∧ DW G' a s true s hs ∧ FR a 15 G G' := by
  obtain ⟨t, h3, -⟩ := h.im
  obtain ⟨G1, g1, g2, g3⟩ := sD_copies (E := E) 0 N k h.st h3.x (by omega)
  obtain ⟨h0, h1, h2, -, h4, h5, h6, h7, h8, h9⟩ := h
  obtain ⟨q, hq⟩ := h0
  have hq1 : G1 a = some (.inl (12, dFs a (z_b ib) q)) := by rw [g3 _ (by omega)]; exact hq
  have p : z_pf G1 a (.int 1) false [4, 12, 12, 1, 0] = some (z_up G1 a (.inl (12, dFs a 1 q))) := z_pfI hq1 (Nat.le_refl _) (Nat.le_refl _) (Nat.le_of_ble_eq_true rfl) rfl (Or.inl rfl)
  have e : ∀ x, a < x → x ≠ a + 3 → z_up G1 a (.inl (12, dFs a 1 q)) x = G x := fun x x1 x2 => by rw [z_up_n _ _ (by omega), g3 _ (by omega)]
  have hD : DW (z_up G1 a (.inl (12, dFs a 1 q))) a s true s hs := ⟨⟨q, z_up_s _ _ _⟩, h1.mono (e _ (by omega) (by omega)), h2.mono (e _ (by omega) (by omega)), ⟨s, g2.mono (z_up_n _ _ (by omega)), fun _ => rfl⟩, h4.mono (e _ (by omega) (by omega)), h5.mono (e _ (by omega) (by omega)), h6.mono (e _ (by omega) (by omega)), h7.mono (e _ (by omega) (by omega)), h8.mono (e _ (by omega) (by omega)), h9.mono fun q q1 q2 => e q (by omega) (by omega)⟩
  refine ⟨_, ?_, hD, fun x hx => by rw [z_up_n _ _ (by omega), g3 _ (by omega)]⟩
  have f0 : z_gf G a [0, 12, 12, 3, 1] = some (.ref (a + 1)) := z_gfI hq (by decide) (by decide) rfl
  have f2 : z_gf G a [2, 12, 12, 3, 1] = some (.ref (a + 3)) := z_gfI hq (by decide) (by decide) rfl
  simp only [zm_D_image, zr_D_image_0, zr_D_image_1, zr_D_image_4, zr_D_image_5, zr_D_image_8, zr_D_image_11, zr_D_image_12, zr_D_image_13, zr_D_image_16, zr_D_image_17, zr_D_image_20, zr_D_image_21, zr_D_image_22, f0, f2, g1, p, hD.f0, hD.st.r2, z_obs, z_pu_s, z_pu_n, z00, z10, ↓reduceIte, true_or, or_true, z_b_t, z_b_f]
theorem dRestore (h : DW G a s ib u hs) : ∃ G', z_evM E i_D_restore lv [.ref a] N k G = some (some (.int (if ib = true then nI (u 2) else -3)), N, k, G') ∧ DW G' a (if ib = true then u else s) ib u hs ∧ FR a 15 G G' := by
  cases ib
  · refine ⟨G, ?_, h, FR.rf⟩
    simp only [zm_D_restore, zr_D_restore_0, zr_D_restore_1, zr_D_restore_4, zr_D_restore_7, zr_D_restore_9, zr_D_restore_10, zr_D_restore_11, zr_D_restore_14, zr_D_restore_15, zr_D_restore_18, zr_D_restore_21, zr_D_restore_22, zr_D_restore_25, zr_D_restore_26, zr_D_restore_27, h.f4, z_obs, z_pu_s, z_pu_n, z00, z10, ↓reduceIte, true_or, or_true, z_b_t, z_b_f, Bool.false_eq_true]
  · obtain ⟨t, h3, ht⟩ := h.im
    have ht := ht rfl
    subst ht
    obtain ⟨G1, g1, g2, g3⟩ := sD_copies (E := E) 0 N k h3 h.st.x (by omega)
    have hD := h.ns g2 g3
    refine ⟨G1, ?_, hD, fun q hq => g3 q (by omega)⟩
    simp only [zm_D_restore, zr_D_restore_0, zr_D_restore_1, zr_D_restore_4, zr_D_restore_7, zr_D_restore_9, zr_D_restore_10, zr_D_restore_11, zr_D_restore_14, zr_D_restore_15, zr_D_restore_18, zr_D_restore_21, zr_D_restore_22, zr_D_restore_25, zr_D_restore_26, zr_D_restore_27, h.f4, h.f0, h.f2, g1, hD.f0, hD.st.r2, z_obs, z_pu_s, z_pu_n, z00, z10, ↓reduceIte, true_or, or_true, z_b_t, z_b_f]
theorem sD_sum (h : DW G a s ib u hs) (w : WF s) {y : Int32} (g : Nat → Nat) (hy0 : inL y 0 2 = false) (hy : inL y 3 5 = true) (hg : ∀ i, i < s 0 → ∀ acc, z_ev E i_D_count lv 41 [some (.ref a), some (.int y), some (.int acc), some (.int (nI i))] [] N k G = z_ev E i_D_count lv 31 [some (.ref a), some (.int y), some (.int (acc + nI (g i))), some (.int (nI (i + 1)))] [] N k G) : z_evM E i_D_count lv [.ref a, .int y] N k G = some (some (.int (sumI s g)), N, k, G) := by
  have h6 := w.1
  simp only [zm_D_count, zr_D_count_0, zr_D_count_1, zr_D_count_2, zr_D_count_3, zr_D_count_6, zr_D_count_9, zr_D_count_10, zr_D_count_13, zr_D_count_14, zr_D_count_15, zr_D_count_16, zr_D_count_17, zr_D_count_18, zr_D_count_19, zr_D_count_22, zr_D_count_25, zr_D_count_26, zr_D_count_27, zr_D_count_28, zr_D_count_29, zr_D_count_30, sD_isIn, hy0, hy, z_obs, z_pu_s, z_pu_n, z00, z10, ↓reduceIte, true_or, or_true, z_b_t, z_b_f]
  refine z_loop (fun i acc => z_ev E i_D_count lv 31 [some (.ref a), some (.int y), some (.int acc), some (.int (nI i))] [] N k G) (fun b acc => acc + nI (g b)) (s 0) (fun acc => some (some (.int acc), N, k, G)) ?_ ?_ (s 0) 0 0 (by omega)
  · intro acc
    have c : nI (s 0) ≤ nI (s 0) := nI_le (Nat.le_refl _) (by omega)
    simp only [zr_D_count_31, zr_D_count_32, zr_D_count_33, zr_D_count_36, zr_D_count_37, zr_D_count_38, zr_D_count_76, zr_D_count_77, h.f0, h.st.r0, c, z_obs, z_pu_s, z_pu_n, z00, z10, ↓reduceIte, true_or, or_true, z_b_t, z_b_f]
  · intro i acc hi
    have c : ¬ nI (s 0) ≤ nI i := nI_ge hi (by omega)
    rw [← hg i hi, zr_D_count_31]
    simp only [zr_D_count_32, zr_D_count_33, zr_D_count_36, zr_D_count_37, zr_D_count_38, h.f0, h.st.r0, c, z_obs, z_pu_s, z_pu_n, z00, z10, ↓reduceIte, true_or, or_true, z_b_t, z_b_f]
theorem dCount (h : DW G a s ib u hs) (w : WF s) (y : Int32) : z_evM E i_D_count lv [.ref a, .int y] N k G = some (some (.int (aCount s y)), N, k, G) := by
  have h6 := w.1
  unfold aCount
  by_cases y0 : y = 0
  · subst y0
    simp only [zm_D_count, zr_D_count_0, zr_D_count_1, zr_D_count_2, zr_D_count_3, zr_D_count_6, zr_D_count_9, zr_D_count_10, zr_D_count_13, zr_D_count_14, zr_D_count_15, sD_isIn, show inL 0 0 2 = true by decide, h.f0, h.st.r0, z_obs, z_pu_s, z_pu_n, z00, z10, ↓reduceIte, true_or, or_true, z_b_t, z_b_f]
  · by_cases y1 : y = 1
    · subst y1
      simp only [zm_D_count, zr_D_count_0, zr_D_count_1, zr_D_count_2, zr_D_count_3, zr_D_count_6, zr_D_count_9, zr_D_count_10, zr_D_count_13, zr_D_count_14, zr_D_count_15, sD_isIn, show inL 1 0 2 = true by decide, h.f0, h.st.r1, z_obs, z_pu_s, z_pu_n, z00, z10, ↓reduceIte, true_or, or_true, z_b_t, z_b_f]
    · by_cases y2 : y = 2
      · subst y2
        simp only [zm_D_count, zr_D_count_0, zr_D_count_1, zr_D_count_2, zr_D_count_3, zr_D_count_6, zr_D_count_9, zr_D_count_10, zr_D_count_13, zr_D_count_14, zr_D_count_15, sD_isIn, show inL 2 0 2 = true by decide, h.f0, h.st.r2, z_obs, z_pu_s, z_pu_n, z00, z10, ↓reduceIte, true_or, or_true, z_b_t, z_b_f, show ¬ (2 : Int32) = 0 by decide, show ¬ (2 : Int32) = 1 by decide]
      · rw [if_neg y0, if_neg y1, if_neg y2]
        by_cases y3 : y = 3
        · subst y3
          rw [if_pos rfl]
          refine sD_sum lv N k h w (sR s) (by decide) (by decide) fun i hi acc => ?_
          simp only [zr_D_count_41, zr_D_count_42, zr_D_count_43, zr_D_count_44, zr_D_count_47, zr_D_count_48, zr_D_count_51, zr_D_count_52, zr_D_count_55, zr_D_count_58, zr_D_count_59, zr_D_count_62, zr_D_count_63, zr_D_count_64, zr_D_count_67, zr_D_count_68, zr_D_count_69, zr_D_count_70, zr_D_count_73, show ¬ (3 : Int32) = 5 by decide, h.f0, sD_of3, h.st.k3 (show i < 6 by omega), z_obs, z_pu_s, z_pu_n, z00, z10, ↓reduceIte, true_or, or_true, z_b_t, z_b_f, nI_1]
        · rw [if_neg y3]
          by_cases y4 : y = 4
          · subst y4
            rw [if_pos rfl]
            refine sD_sum lv N k h w (sO s) (by decide) (by decide) fun i hi acc => ?_
            simp only [zr_D_count_41, zr_D_count_42, zr_D_count_43, zr_D_count_44, zr_D_count_47, zr_D_count_48, zr_D_count_51, zr_D_count_52, zr_D_count_55, zr_D_count_58, zr_D_count_59, zr_D_count_62, zr_D_count_63, zr_D_count_64, zr_D_count_67, zr_D_count_68, zr_D_count_69, zr_D_count_70, zr_D_count_73, show ¬ (4 : Int32) = 5 by decide, h.f0, sD_of4, h.st.k4 (show i < 6 by omega), z_obs, z_pu_s, z_pu_n, z00, z10, ↓reduceIte, true_or, or_true, z_b_t, z_b_f, nI_1]
          · rw [if_neg y4]
            by_cases y5 : y = 5
            · subst y5
              rw [if_pos rfl]
              refine sD_sum lv N k h w (sS s) (by decide) (by decide) fun i hi acc => ?_
              simp only [zr_D_count_41, zr_D_count_42, zr_D_count_43, zr_D_count_44, zr_D_count_47, zr_D_count_48, zr_D_count_51, zr_D_count_52, zr_D_count_55, zr_D_count_58, zr_D_count_59, zr_D_count_62, zr_D_count_63, zr_D_count_64, zr_D_count_67, zr_D_count_68, zr_D_count_69, zr_D_count_70, zr_D_count_73, show ((5 : Int32) = 5) = True by simp, h.f0, sD_stepsOf _ _ _ h.st w hi, z_obs, z_pu_s, z_pu_n, z00, z10, ↓reduceIte, true_or, or_true, z_b_t, z_b_f, nI_1]
            · rw [if_neg y5]
              have a1 : inL y 0 2 = false := by
                rw [il_3]
                cases hh : inR y 3
                · rfl
                · obtain ⟨t, ht, rfl⟩ := inR_of (by decide) hh
                  have : t = 0 ∨ t = 1 ∨ t = 2 := by omega
                  rcases this with rfl | rfl | rfl
                  · exact absurd rfl y0
                  · exact absurd rfl y1
                  · exact absurd rfl y2
              have a2 : inL y 3 5 = false := by
                cases hh : inL y 3 5
                · rfl
                · obtain ⟨t, t1, t2, rfl⟩ := inAB_of (a := 3) (b := 5) (by decide) (by decide) hh
                  have : t = 3 ∨ t = 4 ∨ t = 5 := by omega
                  rcases this with rfl | rfl | rfl
                  · exact absurd rfl y3
                  · exact absurd rfl y4
                  · exact absurd rfl y5
              simp only [zm_D_count, zr_D_count_0, zr_D_count_1, zr_D_count_2, zr_D_count_3, zr_D_count_6, zr_D_count_9, zr_D_count_10, zr_D_count_13, zr_D_count_14, zr_D_count_15, zr_D_count_16, zr_D_count_17, zr_D_count_18, zr_D_count_19, zr_D_count_22, zr_D_count_25, zr_D_count_26, sD_isIn, a1, a2, z_obs, z_pu_s, z_pu_n, z00, z10, ↓reduceIte, true_or, or_true, z_b_t, z_b_f]
end
