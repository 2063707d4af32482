/-! THE CLASS: feet; parts of fractions -/
theorem lN_0 : (0 : Int64) = lN 0 := rfl
theorem lN_one : (1 : Int64) = lN 1 := rfl
def gdF : Nat → Nat → Nat → Nat
  | 0, a, _ => a
  | f + 1, a, b => if b = 0 then a else gdF f b (a % b)
theorem gdF_0 (f a : Nat) : gdF f a 0 = a := by cases f <;> simp [gdF]
theorem gdF_gcd : ∀ m f a b, b < 2 ^ m → 2 * m ≤ f → gdF f a b = Nat.gcd b a := by
  intro m
  induction m with
  | zero =>
    intro f a b hb _
    have : b = 0 := by omega
    subst this
    rw [gdF_0, Nat.gcd_zero_left]
  | succ m ih =>
    intro f a b hb hf
    by_cases h0 : b = 0
    · subst h0; rw [gdF_0, Nat.gcd_zero_left]
    · obtain ⟨f1, rfl⟩ : ∃ f1, f = f1 + 1 := ⟨f - 1, by omega⟩
      unfold gdF
      rw [if_neg h0]
      by_cases h1 : a % b = 0
      · rw [h1, gdF_0, Nat.gcd_rec, h1, Nat.gcd_zero_left]
      · obtain ⟨f2, rfl⟩ : ∃ f2, f1 = f2 + 1 := ⟨f1 - 1, by omega⟩
        unfold gdF
        rw [if_neg h1]
        have hlt : a % b < b := Nat.mod_lt _ (by omega)
        have hr : b % (a % b) < 2 ^ m := by
          have hp : 2 ^ (m + 1) = 2 * 2 ^ m := by rw [Nat.pow_succ, Nat.mul_comm]
          have h2 : b % (a % b) < a % b := Nat.mod_lt _ (by omega)
          have h3 := Nat.div_add_mod b (a % b)
          have h4 : 1 ≤ b / (a % b) := Nat.div_pos (by omega) (by omega)
          have h5 : a % b * 1 ≤ a % b * (b / (a % b)) := Nat.mul_le_mul_left _ h4
          omega
        rw [ih f2 (a % b) _ hr (by omega), ← Nat.gcd_rec, ← Nat.gcd_rec]
def prF (a b : Nat) (y : Int32) : Int64 := lN ((if y = 0 then a else b) / Nat.gcd b a)
section
variable {E : z_E} (lv N k : Nat) (G : z_H)
theorem sX_greatest {a b : Nat} (ha : a < 2 ^ 62) (hb : b < 2 ^ 48) : z_evM E i_X_greatestDivisor lv [.long (lN a), .long (lN b)] N k G = some (some (.long (lN (Nat.gcd b a))), N, k, G) := by
  have key : ∀ m i a b (j1 j2 j3 j4 j5 j6 : Option Value), i + m = 100 → a < 2 ^ 62 → b < 2 ^ 62 → z_ev E i_X_greatestDivisor lv 9 [j1, j2, j3, j4, some (.long (lN a)), none, some (.long (lN b)), none, some (.int (nI i)), j5, j6] [] N k G = some (some (.long (lN (gdF m a b))), N, k, G) := by
    intro m
    induction m with
    | zero =>
      intro i a b j1 j2 j3 j4 j5 j6 hi ha hb
      have : i = 100 := by omega
      subst this
      have c : nI 100 ≤ nI 100 := nI_le (Nat.le_refl _) (by omega)
      simp only [zr_X_greatestDivisor_0, zr_X_greatestDivisor_1, zr_X_greatestDivisor_3, zr_X_greatestDivisor_4, zr_X_greatestDivisor_6, zr_X_greatestDivisor_7, zr_X_greatestDivisor_9, zr_X_greatestDivisor_11, zr_X_greatestDivisor_13, zr_X_greatestDivisor_16, zr_X_greatestDivisor_18, zr_X_greatestDivisor_19, zr_X_greatestDivisor_20, zr_X_greatestDivisor_23, zr_X_greatestDivisor_25, zr_X_greatestDivisor_27, zr_X_greatestDivisor_28, zr_X_greatestDivisor_30, zr_X_greatestDivisor_32, zr_X_greatestDivisor_34, zr_X_greatestDivisor_36, zr_X_greatestDivisor_38, zr_X_greatestDivisor_41, zr_X_greatestDivisor_44, zr_X_greatestDivisor_46, int_100, c, z_obs, z_pu_s, z_pu_n, z00, z10, ↓reduceIte, true_or, or_true, z_b_t, z_b_f, gdF]
    | succ m ih =>
      intro i a b j1 j2 j3 j4 j5 j6 hi ha hb
      have c : ¬ nI 100 ≤ nI i := nI_ge (by omega) (by omega)
      unfold gdF
      by_cases h0 : b = 0
      · subst h0
        have cc : (lg_cmp (lN 0) 0 ≤ 0) = True := eq_true ((lg_cmp_le _ _).mpr (by rw [lN_0]; exact (pk_lLE (by omega) (by omega)).mpr (Nat.le_refl _)))
        simp only [zr_X_greatestDivisor_0, zr_X_greatestDivisor_1, zr_X_greatestDivisor_3, zr_X_greatestDivisor_4, zr_X_greatestDivisor_6, zr_X_greatestDivisor_7, zr_X_greatestDivisor_9, zr_X_greatestDivisor_11, zr_X_greatestDivisor_13, zr_X_greatestDivisor_16, zr_X_greatestDivisor_18, zr_X_greatestDivisor_19, zr_X_greatestDivisor_20, zr_X_greatestDivisor_23, zr_X_greatestDivisor_25, zr_X_greatestDivisor_27, zr_X_greatestDivisor_28, zr_X_greatestDivisor_30, zr_X_greatestDivisor_32, zr_X_greatestDivisor_34, zr_X_greatestDivisor_36, zr_X_greatestDivisor_38, zr_X_greatestDivisor_41, zr_X_greatestDivisor_44, zr_X_greatestDivisor_46, int_100, c, cc, z_obs, z_pu_s, z_pu_n, z00, z10, ↓reduceIte, true_or, or_true, z_b_t, z_b_f]
      · have cc : (lg_cmp (lN b) 0 ≤ 0) = False := eq_false (fun z => by
          have := (lg_cmp_le _ _).mp z
          rw [lN_0] at this
          have := (pk_lLE (by omega) (by omega)).mp this
          omega)
        have cb : ¬ lN b = 0 := fun z => by
          rw [lN_0] at z
          have := (pk_lEQ (by omega) (by omega)).mp z
          omega
        have hlt : a % b < b := Nat.mod_lt _ (by omega)
        rw [if_neg h0, ← ih (i + 1) b (a % b) j1 j2 j3 j4 (some (.long (lN (a % b)))) none (by omega) hb (by omega), zr_X_greatestDivisor_9]
        simp only [zr_X_greatestDivisor_11, zr_X_greatestDivisor_13, zr_X_greatestDivisor_16, zr_X_greatestDivisor_18, zr_X_greatestDivisor_19, zr_X_greatestDivisor_20, zr_X_greatestDivisor_23, zr_X_greatestDivisor_25, zr_X_greatestDivisor_27, zr_X_greatestDivisor_28, zr_X_greatestDivisor_30, zr_X_greatestDivisor_32, zr_X_greatestDivisor_34, zr_X_greatestDivisor_36, zr_X_greatestDivisor_38, zr_X_greatestDivisor_41, int_100, c, cc, cb, not_false_eq_true, pk_lRem (show a < 2 ^ 63 by omega) (show 0 < b by omega) (show b < 2 ^ 63 by omega), z_obs, z_pu_s, z_pu_n, z00, z10, ↓reduceIte, true_or, or_true, z_b_t, z_b_f, nI_1]
  rw [← gdF_gcd 48 100 a b hb (by omega)]
  simp only [zm_X_greatestDivisor, zr_X_greatestDivisor_0, zr_X_greatestDivisor_1, zr_X_greatestDivisor_3, zr_X_greatestDivisor_4, zr_X_greatestDivisor_6, zr_X_greatestDivisor_7]
  exact key 100 0 a b _ _ _ _ none none (by omega) ha (by omega)
theorem sX_partOf {a b : Nat} (ha : a < 2 ^ 48) (h0 : 0 < b) (hb : b < 2 ^ 48) (y : Int32) : z_evM E i_X_partOfFraction lv [.long (lN a), .long (lN b), .int y] N k G = some (some (.long (prF a b y)), N, k, G) := by
  have hg := sX_greatest (E := E) 0 N k G (a := a) (b := b) (by omega) hb
  have g0 : 0 < Nat.gcd b a := Nat.gcd_pos_of_pos_left _ h0
  have g1 : Nat.gcd b a ≤ b := Nat.gcd_le_left _ h0
  have c1 : (0 < lg_cmp (lN (Nat.gcd b a)) 0) = True := eq_true ((lg_cmp_gt _ _).mpr (by rw [lN_0]; exact (pk_lLT (by omega) (by omega)).mpr g0))
  have c2 : ¬ lN (Nat.gcd b a) = 0 := fun z => by
    rw [lN_0] at z
    have := (pk_lEQ (by omega) (by omega)).mp z
    omega
  unfold prF
  by_cases hy : y = 0
  · simp only [zm_X_partOfFraction, zr_X_partOfFraction_0, zr_X_partOfFraction_1, zr_X_partOfFraction_2, zr_X_partOfFraction_5, zr_X_partOfFraction_7, zr_X_partOfFraction_9, zr_X_partOfFraction_10, zr_X_partOfFraction_11, zr_X_partOfFraction_14, zr_X_partOfFraction_15, zr_X_partOfFraction_16, zr_X_partOfFraction_18, zr_X_partOfFraction_21, zr_X_partOfFraction_22, zr_X_partOfFraction_24, zr_X_partOfFraction_25, zr_X_partOfFraction_28, zr_X_partOfFraction_29, zr_X_partOfFraction_31, zr_X_partOfFraction_32, hg, c1, c2, not_false_eq_true, hy, pk_lDiv (show a < 2 ^ 63 by omega) g0 (show Nat.gcd b a < 2 ^ 63 by omega), z_obs, z_pu_s, z_pu_n, z00, z10, ↓reduceIte, true_or, or_true, z_b_t, z_b_f]
  · simp only [zm_X_partOfFraction, zr_X_partOfFraction_0, zr_X_partOfFraction_1, zr_X_partOfFraction_2, zr_X_partOfFraction_5, zr_X_partOfFraction_7, zr_X_partOfFraction_9, zr_X_partOfFraction_10, zr_X_partOfFraction_11, zr_X_partOfFraction_14, zr_X_partOfFraction_15, zr_X_partOfFraction_16, zr_X_partOfFraction_18, zr_X_partOfFraction_21, zr_X_partOfFraction_22, zr_X_partOfFraction_24, zr_X_partOfFraction_25, zr_X_partOfFraction_28, zr_X_partOfFraction_29, zr_X_partOfFraction_31, zr_X_partOfFraction_32, hg, c1, c2, not_false_eq_true, hy, pk_lDiv (show b < 2 ^ 63 by omega) g0 (show Nat.gcd b a < 2 ^ 63 by omega), z_obs, z_pu_s, z_pu_n, z00, z10, ↓reduceIte, true_or, or_true, z_b_t, z_b_f]
end
def sumN (s : Nat → Nat) (g : Nat → Nat) : Nat := foldN (fun b acc => acc + g b) (s 0) 0 0
theorem foldI_N (g : Nat → Nat) : ∀ m i a, foldN (fun b acc => acc + nI (g b)) m i (nI a) = nI (foldN (fun b acc => acc + g b) m i a) := by
  intro m
  induction m with
  | zero => intro i a; rfl
  | succ m ih => intro i a; unfold foldN; rw [nI_add]; exact ih (i + 1) _
theorem sumI_N (s g : Nat → Nat) : sumI s g = nI (sumN s g) := by unfold sumI sumN; rw [int_0]; exact foldI_N g _ _ _
theorem sum_le (g : Nat → Nat) (B : Nat) : ∀ m i a, (∀ j, i ≤ j → j < i + m → g j ≤ B) → foldN (fun b acc => acc + g b) m i a ≤ a + m * B := by
  intro m
  induction m with
  | zero => intro i a _; simp [foldN]
  | succ m ih =>
    intro i a h
    have h1 := h i (Nat.le_refl _) (by omega)
    have h2 := ih (i + 1) (a + g i) (fun j h1 h2 => h j (by omega) (by omega))
    unfold foldN
    rw [Nat.succ_mul]
    exact Nat.le_trans h2 (by omega)
theorem sumS_le {s : Nat → Nat} (w : WF s) : sumN s (sS s) ≤ 150 := by
  have := sum_le (sS s) 25 (s 0) 0 0 (fun j _ hj => (wt_le _ (w.2.2.2 j (by omega)).1 _ (w.2.2.2 j (by omega)).2.1).2.2)
  have h6 := w.1
  have : s 0 * 25 ≤ 6 * 25 := Nat.mul_le_mul_right _ h6
  unfold sumN
  omega
def aMean (s : Nat → Nat) (y : Int32) : Int64 := if is01 y = true then prF (sumN s (sS s)) (max 1 (s 0)) y else lN 1000000001
def aFeet (m q y : Int32) : Int32 := if inAB m 0 99 = true ∧ inAB q 1 9 = true ∧ is01 y = true then (let t := if jN m = 0 then 0 else (jN m - 1) % (jN q + 1)
  if y = 0 then (if jN m = 0 ∨ 0 < t then 1 else 0) else nI t) else -1
section
variable {E : z_E} {G : z_H} {x : Nat} {s u : Nat → Nat} {ib : Bool} {hs : Nat → Sh} {n : Nat} (lv N k : Nat)
theorem xMean (h : XW G x s ib u hs n) (w : WF s) (y : Int32) : z_evM E i_X_mean lv [.ref x, .int y] N k G = some (some (.long (aMean s y)), N, k, G) := by
  have h6 := w.1
  unfold aMean
  cases hy : is01 y
  · simp only [zm_X_mean, zr_X_mean_0, zr_X_mean_1, zr_X_mean_4, zr_X_mean_7, zr_X_mean_8, zr_X_mean_11, sX_is01, hy, sX_refused, z_obs, z_pu_s, z_pu_n, z00, z10, ↓reduceIte, true_or, or_true, z_b_t, z_b_f, Bool.false_eq_true]
    rfl
  · have hs := sumS_le w
    have hm : (if (1 : Int32) < nI (s 0) then nI (s 0) else 1) = nI (max 1 (s 0)) := by
      by_cases h1 : 1 < s 0
      · rw [if_pos (by rw [int_1]; exact nI_lt h1 (by omega)), Nat.max_eq_right (by omega)]
      · rw [if_neg (fun z => h1 (by rw [int_1] at z; exact (nI_ltI (by omega) (by omega)).mp z)), Nat.max_eq_left (by omega)]; rfl
    simp only [zm_X_mean, zr_X_mean_0, zr_X_mean_1, zr_X_mean_4, zr_X_mean_7, zr_X_mean_8, zr_X_mean_11, zr_X_mean_12, zr_X_mean_13, zr_X_mean_16, zr_X_mean_19, zr_X_mean_20, zr_X_mean_21, zr_X_mean_22, zr_X_mean_25, zr_X_mean_28, zr_X_mean_31, zr_X_mean_32, zr_X_mean_33, zr_X_mean_36, sX_is01, hy, h.f0, h.now.cls, h.now.f8, sM_allSteps _ _ _ h.now w, sumI_N, nI_l (show sumN s (sS s) < 2 ^ 31 by omega), hm, nI_l (show max 1 (s 0) < 2 ^ 31 by omega), sX_partOf _ _ _ _ (show sumN s (sS s) < 2 ^ 48 by omega) (show 0 < max 1 (s 0) by omega) (show max 1 (s 0) < 2 ^ 48 by omega), z_obs, z_pu_s, z_pu_n, z00, z10, ↓reduceIte, true_or, or_true, z_b_t, z_b_f]
theorem xFeet (m q y : Int32) : z_evM E i_X_feet lv [.ref x, .int m, .int q, .int y] N k G = some (some (.int (aFeet m q y)), N, k, G) := by
  unfold aFeet
  cases hm : inAB m 0 99
  · rcases inAB_f hm with c | ⟨c1, c2, c3, c4⟩
    · rw [nI_0] at c
      simp only [zm_X_feet, zr_X_feet_0, zr_X_feet_1, zr_X_feet_25, zr_X_feet_26, zr_X_feet_28, zr_X_feet_30, zr_X_feet_33, zr_X_feet_34, zr_X_feet_37, zr_X_feet_40, zr_X_feet_41, c, z_obs, z_pu_s, z_pu_n, z00, z10, ↓reduceIte, true_or, or_true, z_b_t, z_b_f, Bool.false_eq_true, false_and]
    · rw [nI_0] at c1
      simp only [zm_X_feet, zr_X_feet_0, zr_X_feet_1, zr_X_feet_4, zr_X_feet_5, zr_X_feet_7, zr_X_feet_25, zr_X_feet_26, zr_X_feet_28, zr_X_feet_30, zr_X_feet_33, zr_X_feet_34, zr_X_feet_37, zr_X_feet_40, zr_X_feet_41, int_99, c1, c4, z_obs, z_pu_s, z_pu_n, z00, z10, ↓reduceIte, true_or, or_true, z_b_t, z_b_f, Bool.false_eq_true, false_and]
  · obtain ⟨c1, c2, c3, c4⟩ := inAB_t hm
    rw [nI_0] at c1
    cases hq : inAB q 1 9
    · rcases inAB_f hq with d | ⟨d1, d2, d3, d4⟩
      · have d' : q < 1 := d
        simp only [zm_X_feet, zr_X_feet_0, zr_X_feet_1, zr_X_feet_4, zr_X_feet_5, zr_X_feet_7, zr_X_feet_10, zr_X_feet_11, zr_X_feet_12, zr_X_feet_25, zr_X_feet_26, zr_X_feet_28, zr_X_feet_30, zr_X_feet_33, zr_X_feet_34, zr_X_feet_37, zr_X_feet_40, zr_X_feet_41, int_99, c1, c4, d', z_obs, z_pu_s, z_pu_n, z00, z10, ↓reduceIte, true_or, or_true, z_b_t, z_b_f, Bool.false_eq_true, false_and, and_false]
      · have d1' : ¬ q < 1 := d1
        have d4' : 9 < q := d4
        simp only [zm_X_feet, zr_X_feet_0, zr_X_feet_1, zr_X_feet_4, zr_X_feet_5, zr_X_feet_7, zr_X_feet_10, zr_X_feet_11, zr_X_feet_12, zr_X_feet_15, zr_X_feet_16, zr_X_feet_18, zr_X_feet_25, zr_X_feet_26, zr_X_feet_28, zr_X_feet_30, zr_X_feet_33, zr_X_feet_34, zr_X_feet_37, zr_X_feet_40, zr_X_feet_41, int_99, c1, c4, d1', d4', z_obs, z_pu_s, z_pu_n, z00, z10, ↓reduceIte, true_or, or_true, z_b_t, z_b_f, Bool.false_eq_true, false_and, and_false]
    · obtain ⟨d1, d2, d3, d4⟩ := inAB_t hq
      have d1' : ¬ q < 1 := d1
      have d4' : ¬ 9 < q := d4
      cases hy : is01 y
      · simp only [zm_X_feet, zr_X_feet_0, zr_X_feet_1, zr_X_feet_4, zr_X_feet_5, zr_X_feet_7, zr_X_feet_10, zr_X_feet_11, zr_X_feet_12, zr_X_feet_15, zr_X_feet_16, zr_X_feet_18, zr_X_feet_21, zr_X_feet_22, zr_X_feet_25, zr_X_feet_26, zr_X_feet_28, zr_X_feet_30, zr_X_feet_33, zr_X_feet_34, zr_X_feet_37, zr_X_feet_40, zr_X_feet_41, int_99, c1, c4, d1', d4', sX_is01, hy, z_obs, z_pu_s, z_pu_n, z00, z10, ↓reduceIte, true_or, or_true, z_b_t, z_b_f, Bool.false_eq_true, and_false]
      · obtain ⟨m, m1, m2, rfl⟩ := inAB_of (by decide) (by decide) hm
        obtain ⟨q, q1, q2, rfl⟩ := inAB_of (by decide) (by decide) hq
        rw [jN_nI (show m < 2 ^ 31 by omega), jN_nI (show q < 2 ^ 31 by omega)]
        simp only [and_self, ↓reduceIte]
        simp only [zm_X_feet, zr_X_feet_0, zr_X_feet_1, zr_X_feet_4, zr_X_feet_5, zr_X_feet_7, zr_X_feet_10, zr_X_feet_11, zr_X_feet_12, zr_X_feet_15, zr_X_feet_16, zr_X_feet_18, zr_X_feet_21, zr_X_feet_22, zr_X_feet_25, zr_X_feet_26, zr_X_feet_28, zr_X_feet_30, zr_X_feet_33, zr_X_feet_34, zr_X_feet_37, zr_X_feet_40, zr_X_feet_41, zr_X_feet_42, zr_X_feet_43, int_99, c1, c4, d1', d4', sX_is01, hy, z_obs, z_pu_s, z_pu_n, z00, z10, ↓reduceIte, true_or, or_true, z_b_t, z_b_f]
        by_cases h0 : m = 0
        · subst h0
          have e0 : (nI 0 = 0) = True := eq_true rfl
          by_cases hy0 : y = 0
          · simp only [e0, hy0, zr_X_feet_46, zr_X_feet_47, zr_X_feet_50, zr_X_feet_51, zr_X_feet_52, zr_X_feet_53, zr_X_feet_54, zr_X_feet_55, zr_X_feet_56, zr_X_feet_57, zr_X_feet_59, zr_X_feet_60, zr_X_feet_63, zr_X_feet_65, zr_X_feet_68, zr_X_feet_69, zr_X_feet_72, zr_X_feet_73, zr_X_feet_75, zr_X_feet_76, zr_X_feet_79, zr_X_feet_81, zr_X_feet_84, zr_X_feet_86, z_obs, z_pu_s, z_pu_n, z00, z10, ↓reduceIte, true_or, or_true, z_b_t, z_b_f]
          · simp only [e0, hy0, zr_X_feet_46, zr_X_feet_47, zr_X_feet_50, zr_X_feet_51, zr_X_feet_52, zr_X_feet_53, zr_X_feet_54, zr_X_feet_55, zr_X_feet_56, zr_X_feet_57, zr_X_feet_59, zr_X_feet_60, zr_X_feet_63, zr_X_feet_65, zr_X_feet_68, zr_X_feet_69, zr_X_feet_72, zr_X_feet_73, zr_X_feet_75, zr_X_feet_76, zr_X_feet_79, zr_X_feet_81, zr_X_feet_84, zr_X_feet_86, z_obs, z_pu_s, z_pu_n, z00, z10, ↓reduceIte, true_or, or_true, z_b_t, z_b_f, true_or]
            rfl
        · have e0 : (nI m = 0) = False := eq_false (nI_ne0 (by omega) (by omega))
          have hlt : (m - 1) % (q + 1) < q + 1 := Nat.mod_lt _ (by omega)
          have cq : ¬ nI (q + 1) = 0 := nI_ne0 (by omega) (by omega)
          by_cases ht : 0 < (m - 1) % (q + 1)
          · have ct : ¬ nI ((m - 1) % (q + 1)) ≤ 0 := nI_nle ht (by omega)
            by_cases hy0 : y = 0
            · simp only [e0, hy0, h0, ht, or_true, zr_X_feet_46, zr_X_feet_47, zr_X_feet_50, zr_X_feet_51, zr_X_feet_52, zr_X_feet_53, zr_X_feet_54, zr_X_feet_55, zr_X_feet_56, zr_X_feet_57, zr_X_feet_59, zr_X_feet_60, zr_X_feet_63, zr_X_feet_65, zr_X_feet_68, zr_X_feet_69, zr_X_feet_72, zr_X_feet_73, zr_X_feet_75, zr_X_feet_76, zr_X_feet_79, zr_X_feet_81, zr_X_feet_84, zr_X_feet_86, z_obs, z_pu_s, z_pu_n, z00, z10, ↓reduceIte, true_or, or_true, z_b_t, z_b_f, pk_m1' (show 1 ≤ m by omega), nI_1, cq, not_false_eq_true, pk_div (show m - 1 < 2 ^ 31 by omega) (show 0 < q + 1 by omega) (show q + 1 < 2 ^ 31 by omega), z_rem2 (show m - 1 < 2 ^ 31 by omega) (show 0 < q + 1 by omega) (show q + 1 < 2 ^ 31 by omega), ct]
            · simp only [e0, hy0, h0, ht, or_true, zr_X_feet_46, zr_X_feet_47, zr_X_feet_50, zr_X_feet_51, zr_X_feet_52, zr_X_feet_53, zr_X_feet_54, zr_X_feet_55, zr_X_feet_56, zr_X_feet_57, zr_X_feet_59, zr_X_feet_60, zr_X_feet_63, zr_X_feet_65, zr_X_feet_68, zr_X_feet_69, zr_X_feet_72, zr_X_feet_73, zr_X_feet_75, zr_X_feet_76, zr_X_feet_79, zr_X_feet_81, zr_X_feet_84, zr_X_feet_86, z_obs, z_pu_s, z_pu_n, z00, z10, ↓reduceIte, true_or, or_true, z_b_t, z_b_f, pk_m1' (show 1 ≤ m by omega), nI_1, cq, not_false_eq_true, pk_div (show m - 1 < 2 ^ 31 by omega) (show 0 < q + 1 by omega) (show q + 1 < 2 ^ 31 by omega), z_rem2 (show m - 1 < 2 ^ 31 by omega) (show 0 < q + 1 by omega) (show q + 1 < 2 ^ 31 by omega), ct]
          · have ct : nI ((m - 1) % (q + 1)) ≤ 0 := by rw [int_0]; exact nI_le (by omega) (by omega)
            by_cases hy0 : y = 0
            · simp only [e0, hy0, h0, ht, or_self, zr_X_feet_46, zr_X_feet_47, zr_X_feet_50, zr_X_feet_51, zr_X_feet_52, zr_X_feet_53, zr_X_feet_54, zr_X_feet_55, zr_X_feet_56, zr_X_feet_57, zr_X_feet_59, zr_X_feet_60, zr_X_feet_63, zr_X_feet_65, zr_X_feet_68, zr_X_feet_69, zr_X_feet_72, zr_X_feet_73, zr_X_feet_75, zr_X_feet_76, zr_X_feet_79, zr_X_feet_81, zr_X_feet_84, zr_X_feet_86, z_obs, z_pu_s, z_pu_n, z00, z10, ↓reduceIte, true_or, or_true, z_b_t, z_b_f, pk_m1' (show 1 ≤ m by omega), nI_1, cq, not_false_eq_true, pk_div (show m - 1 < 2 ^ 31 by omega) (show 0 < q + 1 by omega) (show q + 1 < 2 ^ 31 by omega), z_rem2 (show m - 1 < 2 ^ 31 by omega) (show 0 < q + 1 by omega) (show q + 1 < 2 ^ 31 by omega), ct]
            · simp only [e0, hy0, h0, ht, or_self, zr_X_feet_46, zr_X_feet_47, zr_X_feet_50, zr_X_feet_51, zr_X_feet_52, zr_X_feet_53, zr_X_feet_54, zr_X_feet_55, zr_X_feet_56, zr_X_feet_57, zr_X_feet_59, zr_X_feet_60, zr_X_feet_63, zr_X_feet_65, zr_X_feet_68, zr_X_feet_69, zr_X_feet_72, zr_X_feet_73, zr_X_feet_75, zr_X_feet_76, zr_X_feet_79, zr_X_feet_81, zr_X_feet_84, zr_X_feet_86, z_obs, z_pu_s, z_pu_n, z00, z10, ↓reduceIte, true_or, or_true, z_b_t, z_b_f, pk_m1' (show 1 ≤ m by omega), nI_1, cq, not_false_eq_true, pk_div (show m - 1 < 2 ^ 31 by omega) (show 0 < q + 1 by omega) (show q + 1 < 2 ^ 31 by omega), z_rem2 (show m - 1 < 2 ^ 31 by omega) (show 0 < q + 1 by omega) (show q + 1 < 2 ^ 31 by omega), ct]
end
