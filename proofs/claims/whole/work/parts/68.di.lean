/-! THE MODEL: feet, parts of fractions; each rung once, a told list, days by seeds -/
section
variable {E : z_E} {G : z_H} {a : Nat} {s u : Nat → Nat} {ib : Bool} {hs : Nat → Sh} (lv N k : Nat)
theorem sD_gcd {p q : Nat} (hp : p < 2 ^ 62) (hq : q < 2 ^ 62) : z_evM E i_D_gcd lv [.long (lN p), .long (lN q)] N k G = some (some (.long (lN (Nat.gcd q p))), N, k, G) := by
  have key : ∀ m q p (j1 j2 j3 j4 j5 j6 : Option Value), q ≤ m → p < 2 ^ 62 → q < 2 ^ 62 → z_ev E i_D_gcd lv 6 [j1, j2, j3, j4, some (.long (lN p)), none, some (.long (lN q)), none, j5, j6] [] N k G = some (some (.long (lN (Nat.gcd q p))), N, k, G) := by
    intro m
    induction m with
    | zero =>
      intro q p j1 j2 j3 j4 j5 j6 hm hp hq
      have : q = 0 := by omega
      subst this
      have cc : (lg_cmp (lN 0) 0 = 0) = True := eq_true ((lg_cmp_eq _ _).mpr rfl)
      simp only [zr_D_gcd_6, zr_D_gcd_8, zr_D_gcd_9, zr_D_gcd_10, zr_D_gcd_13, zr_D_gcd_15, zr_D_gcd_17, zr_D_gcd_18, zr_D_gcd_20, zr_D_gcd_22, zr_D_gcd_24, zr_D_gcd_26, zr_D_gcd_28, zr_D_gcd_31, zr_D_gcd_33, cc, z_obs, z_pu_s, z_pu_n, z00, z10, ↓reduceIte, true_or, or_true, z_b_t, z_b_f, Nat.gcd_zero_left]
    | succ m ih =>
      intro q p j1 j2 j3 j4 j5 j6 hm hp hq
      by_cases h0 : q = 0
      · subst h0
        have cc : (lg_cmp (lN 0) 0 = 0) = True := eq_true ((lg_cmp_eq _ _).mpr rfl)
        simp only [zr_D_gcd_6, zr_D_gcd_8, zr_D_gcd_9, zr_D_gcd_10, zr_D_gcd_13, zr_D_gcd_15, zr_D_gcd_17, zr_D_gcd_18, zr_D_gcd_20, zr_D_gcd_22, zr_D_gcd_24, zr_D_gcd_26, zr_D_gcd_28, zr_D_gcd_31, zr_D_gcd_33, cc, z_obs, z_pu_s, z_pu_n, z00, z10, ↓reduceIte, true_or, or_true, z_b_t, z_b_f, Nat.gcd_zero_left]
      · have cb : ¬ lN q = 0 := fun z => by
          rw [lN_0] at z
          have := (pk_lEQ (by omega) (by omega)).mp z
          omega
        have cc : (lg_cmp (lN q) 0 = 0) = False := eq_false (fun z => cb ((lg_cmp_eq _ _).mp z))
        have hlt : p % q < q := Nat.mod_lt _ (by omega)
        rw [Nat.gcd_rec, ← ih (p % q) q j1 j2 j3 j4 (some (.long (lN (p % q)))) none (by omega) hq (by omega), zr_D_gcd_6]
        simp only [zr_D_gcd_8, zr_D_gcd_9, zr_D_gcd_10, zr_D_gcd_13, zr_D_gcd_15, zr_D_gcd_17, zr_D_gcd_18, zr_D_gcd_20, zr_D_gcd_22, zr_D_gcd_24, zr_D_gcd_26, zr_D_gcd_28, cc, cb, not_false_eq_true, pk_lRem (show p < 2 ^ 63 by omega) (show 0 < q by omega) (show q < 2 ^ 63 by omega), z_obs, z_pu_s, z_pu_n, z00, z10, ↓reduceIte, true_or, or_true, z_b_t, z_b_f]
  simp only [zm_D_gcd, zr_D_gcd_0, zr_D_gcd_1, zr_D_gcd_3, zr_D_gcd_4]
  exact key q q p _ _ _ _ none none (Nat.le_refl _) hp hq
theorem sD_partOf {p q : Nat} (hp : p < 2 ^ 62) (hq0 : 0 < q) (hq : q < 2 ^ 62) {y : Int32} (hy : is01 y = true) : z_evM E i_D_partOf lv [.long (lN p), .long (lN q), .int y] N k G = some (some (.long (prF p q y)), N, k, G) := by
  unfold prF
  by_cases h0 : p = 0
  · subst h0
    have cc : (lg_cmp (lN 0) 0 = 0) = True := eq_true ((lg_cmp_eq _ _).mpr rfl)
    rcases is01_of hy with rfl | rfl
    · simp only [zm_D_partOf, zr_D_partOf_0, zr_D_partOf_1, zr_D_partOf_2, zr_D_partOf_3, zr_D_partOf_6, zr_D_partOf_8, zr_D_partOf_9, cc, z_obs, z_pu_s, z_pu_n, z00, z10, ↓reduceIte, true_or, or_true, z_b_t, z_b_f, Nat.zero_div]
      rfl
    · rw [if_neg (by decide), Nat.gcd_zero_right, Nat.div_self hq0]
      simp only [zm_D_partOf, zr_D_partOf_0, zr_D_partOf_1, zr_D_partOf_2, zr_D_partOf_3, zr_D_partOf_6, zr_D_partOf_8, zr_D_partOf_9, cc, z_obs, z_pu_s, z_pu_n, z00, z10, ↓reduceIte, true_or, or_true, z_b_t, z_b_f]
      rfl
  · have hg := sD_gcd (E := E) (G := G) 0 N k hp hq
    have g0 : 0 < Nat.gcd q p := Nat.gcd_pos_of_pos_left _ hq0
    have g1 : Nat.gcd q p ≤ q := Nat.gcd_le_left _ hq0
    have c2 : ¬ lN (Nat.gcd q p) = 0 := fun z => by
      rw [lN_0] at z
      have := (pk_lEQ (by omega) (by omega)).mp z
      omega
    have cc : (lg_cmp (lN p) 0 = 0) = False := eq_false (fun z => by
      have := (lg_cmp_eq _ _).mp z
      rw [lN_0] at this
      have := (pk_lEQ (by omega) (by omega)).mp this
      omega)
    by_cases hy0 : y = 0
    · simp only [zm_D_partOf, zr_D_partOf_0, zr_D_partOf_1, zr_D_partOf_2, zr_D_partOf_3, zr_D_partOf_6, zr_D_partOf_8, zr_D_partOf_9, zr_D_partOf_10, zr_D_partOf_12, zr_D_partOf_15, zr_D_partOf_16, zr_D_partOf_19, zr_D_partOf_20, zr_D_partOf_21, zr_D_partOf_22, zr_D_partOf_25, zr_D_partOf_26, cc, hg, hy0, c2, not_false_eq_true, pk_lDiv (show p < 2 ^ 63 by omega) g0 (show Nat.gcd q p < 2 ^ 63 by omega), z_obs, z_pu_s, z_pu_n, z00, z10, ↓reduceIte, true_or, or_true, z_b_t, z_b_f]
    · simp only [zm_D_partOf, zr_D_partOf_0, zr_D_partOf_1, zr_D_partOf_2, zr_D_partOf_3, zr_D_partOf_6, zr_D_partOf_8, zr_D_partOf_9, zr_D_partOf_10, zr_D_partOf_12, zr_D_partOf_15, zr_D_partOf_16, zr_D_partOf_19, zr_D_partOf_20, zr_D_partOf_21, zr_D_partOf_22, zr_D_partOf_25, zr_D_partOf_26, cc, hg, hy0, c2, not_false_eq_true, pk_lDiv (show q < 2 ^ 63 by omega) g0 (show Nat.gcd q p < 2 ^ 63 by omega), z_obs, z_pu_s, z_pu_n, z00, z10, ↓reduceIte, true_or, or_true, z_b_t, z_b_f]
theorem sD_stepsAll (h : DW G a s ib u hs) (w : WF s) : z_evM E i_D_stepsAll lv [.ref a] N k G = some (some (.int (nI (sumN s (sS s)))), N, k, G) := by
  have h6 := w.1
  rw [← sumI_N]
  simp only [zm_D_stepsAll, zr_D_stepsAll_0, zr_D_stepsAll_1, zr_D_stepsAll_2, zr_D_stepsAll_3]
  refine z_loop (fun i acc => z_ev E i_D_stepsAll lv 4 [some (.ref a), some (.int acc), some (.int (nI i))] [] N k G) (fun b acc => acc + nI (sS s b)) (s 0) (fun acc => some (some (.int acc), N, k, G)) ?_ ?_ (s 0) 0 0 (by omega)
  · intro acc
    have c : nI (s 0) ≤ nI (s 0) := nI_le (Nat.le_refl _) (by omega)
    simp only [zr_D_stepsAll_0, zr_D_stepsAll_1, zr_D_stepsAll_2, zr_D_stepsAll_3, zr_D_stepsAll_4, zr_D_stepsAll_5, zr_D_stepsAll_6, zr_D_stepsAll_9, zr_D_stepsAll_10, zr_D_stepsAll_11, zr_D_stepsAll_14, zr_D_stepsAll_15, zr_D_stepsAll_16, zr_D_stepsAll_19, zr_D_stepsAll_20, zr_D_stepsAll_23, zr_D_stepsAll_24, zr_D_stepsAll_25, zr_D_stepsAll_28, zr_D_stepsAll_31, zr_D_stepsAll_32, h.f0, h.st.r0, c, z_obs, z_pu_s, z_pu_n, z00, z10, ↓reduceIte, true_or, or_true, z_b_t, z_b_f]
  · intro i acc hi
    have c : ¬ nI (s 0) ≤ nI i := nI_ge hi (by omega)
    rw [zr_D_stepsAll_4]
    simp only [zr_D_stepsAll_0, zr_D_stepsAll_1, zr_D_stepsAll_2, zr_D_stepsAll_3, zr_D_stepsAll_5, zr_D_stepsAll_6, zr_D_stepsAll_9, zr_D_stepsAll_10, zr_D_stepsAll_11, zr_D_stepsAll_14, zr_D_stepsAll_15, zr_D_stepsAll_16, zr_D_stepsAll_19, zr_D_stepsAll_20, zr_D_stepsAll_23, zr_D_stepsAll_24, zr_D_stepsAll_25, zr_D_stepsAll_28, zr_D_stepsAll_31, zr_D_stepsAll_32, h.f0, h.st.r0, c, sD_stepsOf _ _ _ h.st w hi, z_obs, z_pu_s, z_pu_n, z00, z10, ↓reduceIte, true_or, or_true, z_b_t, z_b_f, nI_1]
theorem dMean (h : DW G a s ib u hs) (w : WF s) (y : Int32) : z_evM E i_D_mean lv [.ref a, .int y] N k G = some (some (.long (aMean s y)), N, k, G) := by
  have h6 := w.1
  have hsl := sumS_le w
  unfold aMean
  cases hy : is01 y
  · simp only [zm_D_mean, zr_D_mean_0, zr_D_mean_1, zr_D_mean_2, zr_D_mean_3, zr_D_mean_6, zr_D_mean_9, zr_D_mean_10, zr_D_mean_13, zr_D_mean_14, zr_D_mean_15, zr_D_mean_18, zr_D_mean_19, zr_D_mean_20, zr_D_mean_21, zr_D_mean_22, zr_D_mean_25, zr_D_mean_28, zr_D_mean_31, sD_isIn, il_01, hy, z_obs, z_pu_s, z_pu_n, z00, z10, ↓reduceIte, true_or, or_true, z_b_t, z_b_f, Bool.false_eq_true]
    rfl
  · simp only [zm_D_mean, zr_D_mean_0, zr_D_mean_1, zr_D_mean_2, zr_D_mean_3, zr_D_mean_6, zr_D_mean_9, zr_D_mean_10, zr_D_mean_13, zr_D_mean_14, zr_D_mean_15, zr_D_mean_18, zr_D_mean_19, zr_D_mean_20, zr_D_mean_21, zr_D_mean_22, zr_D_mean_25, zr_D_mean_28, zr_D_mean_31, sD_isIn, il_01, hy, z_obs, z_pu_s, z_pu_n, z00, z10, ↓reduceIte, true_or, or_true, z_b_t, z_b_f, h.cls, sD_stepsAll _ _ _ h w, h.f0, h.st.r0, nI_l (show sumN s (sS s) < 2 ^ 31 by omega), nI_l (show s 0 < 2 ^ 31 by omega)]
    by_cases h0 : s 0 = 0
    · have e0 : sumN s (sS s) = 0 := by unfold sumN; rw [h0]; rfl
      have cc : (lg_cmp (lN 0) 0 = 0) = True := eq_true ((lg_cmp_eq _ _).mpr rfl)
      rw [e0, h0]
      unfold prF
      rcases is01_of hy with rfl | rfl
      · simp only [zm_D_partOf, zr_D_partOf_0, zr_D_partOf_1, zr_D_partOf_2, zr_D_partOf_3, zr_D_partOf_6, zr_D_partOf_8, zr_D_partOf_9, zr_D_mean_25, zr_D_mean_28, zr_D_mean_31, cc, z_obs, z_pu_s, z_pu_n, z00, z10, ↓reduceIte, true_or, or_true, z_b_t, z_b_f, Nat.zero_div]
        rfl
      · simp only [zm_D_partOf, zr_D_partOf_0, zr_D_partOf_1, zr_D_partOf_2, zr_D_partOf_3, zr_D_partOf_6, zr_D_partOf_8, zr_D_partOf_9, zr_D_mean_25, zr_D_mean_28, zr_D_mean_31, cc, z_obs, z_pu_s, z_pu_n, z00, z10, ↓reduceIte, true_or, or_true, z_b_t, z_b_f]
        rfl
    · simp only [sD_partOf _ _ _ (show sumN s (sS s) < 2 ^ 62 by omega) (show 0 < s 0 by omega) (show s 0 < 2 ^ 62 by omega) hy, Nat.max_eq_right (show 1 ≤ s 0 by omega), zr_D_mean_25, zr_D_mean_28, zr_D_mean_31, z_obs, z_pu_s, z_pu_n, z00, z10, ↓reduceIte, true_or, or_true, z_b_t, z_b_f]
theorem feet_r {v q i : Nat} (h1 : 1 ≤ i) (h2 : i ≤ q) (h3 : i ≤ v) (hv : 1 ≤ v) : (0 < v - i ∧ (v - i - 1) % (q + 1) = 0) ↔ i = (v - 1) % (q + 1) := by
  constructor
  · rintro ⟨a1, a2⟩
    have e : v - 1 = i + (q + 1) * ((v - i - 1) / (q + 1)) := by
      have := Nat.div_add_mod (v - i - 1) (q + 1)
      omega
    rw [e, Nat.add_mul_mod_self_left, Nat.mod_eq_of_lt (by omega)]
  · intro e
    have h4 := Nat.mod_le (v - 1) (q + 1)
    refine ⟨by omega, ?_⟩
    have e2 : v - i - 1 = (q + 1) * ((v - 1) / (q + 1)) := by
      have := Nat.div_add_mod (v - 1) (q + 1)
      omega
    rw [e2, Nat.mul_mod_right]
theorem dFeet (h : DW G a s ib u hs) (m q y : Int32) : ∃ G', z_evM E i_D_feet lv [.ref a, .int m, .int q, .int y] N k G = some (some (.int (aFeet m q y)), N, k, G') ∧ DW G' a s ib u hs ∧ FR a 15 G G' := by
  unfold aFeet
  cases hm : inAB m 0 99
  · refine ⟨G, ?_, h, FR.rf⟩
    simp only [zm_D_feet, zr_D_feet_0, zr_D_feet_1, zr_D_feet_2, zr_D_feet_4, zr_D_feet_7, zr_D_feet_10, zr_D_feet_11, zr_D_feet_12, zr_D_feet_14, zr_D_feet_17, zr_D_feet_20, zr_D_feet_21, zr_D_feet_22, zr_D_feet_23, zr_D_feet_26, zr_D_feet_29, zr_D_feet_30, sD_isIn, show inL m 0 99 = inAB m 0 99 from rfl, hm, z_obs, z_pu_s, z_pu_n, z00, z10, ↓reduceIte, true_or, or_true, z_b_t, z_b_f, Bool.false_eq_true, false_and]
  · cases hq : inAB q 1 9
    · refine ⟨G, ?_, h, FR.rf⟩
      simp only [zm_D_feet, zr_D_feet_0, zr_D_feet_1, zr_D_feet_2, zr_D_feet_4, zr_D_feet_7, zr_D_feet_10, zr_D_feet_11, zr_D_feet_12, zr_D_feet_14, zr_D_feet_17, zr_D_feet_20, zr_D_feet_21, zr_D_feet_22, zr_D_feet_23, zr_D_feet_26, zr_D_feet_29, zr_D_feet_30, sD_isIn, show inL m 0 99 = inAB m 0 99 from rfl, show inL q 1 9 = inAB q 1 9 from rfl, hm, hq, z_obs, z_pu_s, z_pu_n, z00, z10, ↓reduceIte, true_or, or_true, z_b_t, z_b_f, Bool.false_eq_true, false_and, and_false]
    · cases hy : is01 y
      · refine ⟨G, ?_, h, FR.rf⟩
        simp only [zm_D_feet, zr_D_feet_0, zr_D_feet_1, zr_D_feet_2, zr_D_feet_4, zr_D_feet_7, zr_D_feet_10, zr_D_feet_11, zr_D_feet_12, zr_D_feet_14, zr_D_feet_17, zr_D_feet_20, zr_D_feet_21, zr_D_feet_22, zr_D_feet_23, zr_D_feet_26, zr_D_feet_29, zr_D_feet_30, sD_isIn, show inL m 0 99 = inAB m 0 99 from rfl, show inL q 1 9 = inAB q 1 9 from rfl, il_01, hm, hq, hy, z_obs, z_pu_s, z_pu_n, z00, z10, ↓reduceIte, true_or, or_true, z_b_t, z_b_f, Bool.false_eq_true, and_false]
      · obtain ⟨m, -, m2, rfl⟩ := inAB_of (by decide) (by decide) hm
        obtain ⟨q, q1, q2, rfl⟩ := inAB_of (by decide) (by decide) hq
        rw [jN_nI (show m < 2 ^ 31 by omega), jN_nI (show q < 2 ^ 31 by omega)]
        simp only [and_self, ↓reduceIte]
        have hfe : ∀ G1, FR (a + 8) 1 G G1 → ∀ t f, z_gf G1 a [12, 12, 12, t, f] = some (.ref (a + 8)) := by
          intro G1 h1 t f
          obtain ⟨qq, eq⟩ := h.o
          have e2 : G1 a = some (.inl (12, dFs a (z_b ib) qq)) := by rw [h1 a (by omega)]; exact eq
          exact z_gfI e2 (by decide) (by decide) rfl
        -- the inner loop: from i downwards
        have inner : ∀ i v G1 f, i ≤ q → i ≤ v → 1 ≤ v → v ≤ m → FR (a + 8) 1 G G1 → G1 (a + 8) = some (.inr (.int, 100, .inl f)) → (∀ x, 1 ≤ x → x < v → f x = nI ((x - 1) % (q + 1))) → f v = (if i < (v - 1) % (q + 1) then nI ((v - 1) % (q + 1)) else 0) → ∃ G2 f2, z_ev E i_D_feet lv 56 [some (.ref a), some (.int (nI m)), some (.int (nI q)), some (.int y), some (.int (nI v)), some (.int (nI i))] [] N k G1 = z_ev E i_D_feet lv 34 [some (.ref a), some (.int (nI m)), some (.int (nI q)), some (.int y), some (.int (nI (v + 1))), some (.int 0)] [] N k G2 ∧ FR (a + 8) 1 G G2 ∧ G2 (a + 8) = some (.inr (.int, 100, .inl f2)) ∧ ∀ x, 1 ≤ x → x < v + 1 → f2 x = nI ((x - 1) % (q + 1)) := by
          intro i
          induction i with
          | zero =>
            intro v G1 f _ _ hv hvm hF hc hlo hfv
            have c : nI 0 < 1 := by decide
            refine ⟨G1, f, ?_, hF, hc, fun x x1 x2 => ?_⟩
            · simp only [zr_D_feet_56, zr_D_feet_58, zr_D_feet_59, zr_D_feet_98, zr_D_feet_101, c, z_obs, z_pu_s, z_pu_n, z00, z10, ↓reduceIte, true_or, or_true, z_b_t, z_b_f, nI_1]
              rfl
            · by_cases ex : x = v
              · subst ex
                rw [hfv]
                split
                · rfl
                · next hz => rw [show (x - 1) % (q + 1) = 0 by omega]; rfl
              · exact hlo x x1 (by omega)
          | succ i ih =>
            intro v G1 f hiq hiv hv hvm hF hc hlo hfv
            have c : ¬ nI (i + 1) < 1 := nI_nlt (b := 1) (by omega) (by omega)
            have hr := feet_r (v := v) (q := q) (i := i + 1) (by omega) hiq hiv hv
            have em : nI (i + 1) + (-1) = nI i := pk_m1 i
            have g12 := hfe G1 hF
            by_cases hpos : 0 < v - (i + 1)
            · have cp : ¬ nI (v - (i + 1)) ≤ 0 := nI_nle hpos (by omega)
              have rd := z_aiI (E := E) hc (show v - (i + 1) < 100 by omega) (show 100 < 2 ^ 31 by decide)
              rw [hlo _ (by omega) (by omega)] at rd
              have cz : (nI ((v - (i + 1) - 1) % (q + 1)) = 0) = ((v - (i + 1) - 1) % (q + 1) = 0) := nI_eqI' (b := 0) (Nat.lt_of_le_of_lt (Nat.mod_le _ _) (by omega)) (by omega)
              by_cases hz : (v - (i + 1) - 1) % (q + 1) = 0
              · have hi1 : i + 1 = (v - 1) % (q + 1) := hr.mp ⟨hpos, hz⟩
                have wr := z_piI (x := nI (i + 1)) hc (show v < 100 by omega) (show 100 < 2 ^ 31 by decide)
                obtain ⟨G2, f2, e1, e2, e3, e4⟩ := ih v (z_up G1 (a + 8) (.inr (.int, 100, .inl (upd f v (nI (i + 1)))))) (upd f v (nI (i + 1))) (by omega) (by omega) hv hvm (hF.tr fun x hx => z_up_n _ _ (by omega)) (z_up_s _ _ _) (fun x x1 x2 => by rw [pk_un (by omega)]; exact hlo x x1 x2) (by rw [pk_us, if_pos (by omega), hi1])
                refine ⟨G2, f2, ?_, e2, e3, e4⟩
                rw [← e1, zr_D_feet_56]
                simp only [zr_D_feet_58, zr_D_feet_59, zr_D_feet_62, zr_D_feet_64, zr_D_feet_66, zr_D_feet_67, zr_D_feet_70, zr_D_feet_71, zr_D_feet_74, zr_D_feet_76, zr_D_feet_78, zr_D_feet_79, zr_D_feet_80, zr_D_feet_83, zr_D_feet_84, zr_D_feet_87, zr_D_feet_89, zr_D_feet_91, zr_D_feet_92, zr_D_feet_95, c, pk_sub hiv, cp, g12, rd, cz, eq_true hz, wr, em, z_obs, z_pu_s, z_pu_n, z00, z10, ↓reduceIte, true_or, or_true, z_b_t, z_b_f]
              · obtain ⟨G2, f2, e1, e2, e3, e4⟩ := ih v G1 f (by omega) (by omega) hv hvm hF hc hlo (by
                  rw [hfv]
                  have : i + 1 ≠ (v - 1) % (q + 1) := fun z => hz (hr.mpr z).2
                  by_cases hlt : i + 1 < (v - 1) % (q + 1)
                  · rw [if_pos hlt, if_pos (by omega)]
                  · rw [if_neg hlt, if_neg (by omega)])
                refine ⟨G2, f2, ?_, e2, e3, e4⟩
                rw [← e1, zr_D_feet_56]
                simp only [zr_D_feet_58, zr_D_feet_59, zr_D_feet_62, zr_D_feet_64, zr_D_feet_66, zr_D_feet_67, zr_D_feet_70, zr_D_feet_71, zr_D_feet_74, zr_D_feet_76, zr_D_feet_78, zr_D_feet_79, zr_D_feet_80, zr_D_feet_83, zr_D_feet_84, zr_D_feet_87, zr_D_feet_89, zr_D_feet_91, zr_D_feet_92, zr_D_feet_95, c, pk_sub hiv, cp, g12, rd, cz, eq_false hz, em, z_obs, z_pu_s, z_pu_n, z00, z10, ↓reduceIte, true_or, or_true, z_b_t, z_b_f]
            · have e0 : v - (i + 1) = 0 := by omega
              have cp : nI 0 ≤ 0 := by decide
              obtain ⟨G2, f2, e1, e2, e3, e4⟩ := ih v G1 f (by omega) (by omega) hv hvm hF hc hlo (by
                rw [hfv]
                have : i + 1 ≠ (v - 1) % (q + 1) := fun z => hpos (hr.mpr z).1
                by_cases hlt : i + 1 < (v - 1) % (q + 1)
                · rw [if_pos hlt, if_pos (by omega)]
                · rw [if_neg hlt, if_neg (by omega)])
              refine ⟨G2, f2, ?_, e2, e3, e4⟩
              rw [← e1, zr_D_feet_56]
              simp only [zr_D_feet_58, zr_D_feet_59, zr_D_feet_62, zr_D_feet_64, zr_D_feet_66, zr_D_feet_67, zr_D_feet_70, zr_D_feet_71, zr_D_feet_74, zr_D_feet_76, zr_D_feet_78, zr_D_feet_79, zr_D_feet_80, zr_D_feet_83, zr_D_feet_84, zr_D_feet_87, zr_D_feet_89, zr_D_feet_91, zr_D_feet_92, zr_D_feet_95, c, pk_sub hiv, e0, cp, em, z_obs, z_pu_s, z_pu_n, z00, z10, ↓reduceIte, true_or, or_true, z_b_t, z_b_f]
        have outer : ∀ d v G1 f (jk : Option Value), v + d = m + 1 → 1 ≤ v → FR (a + 8) 1 G G1 → G1 (a + 8) = some (.inr (.int, 100, .inl f)) → (∀ x, 1 ≤ x → x < v → f x = nI ((x - 1) % (q + 1))) → ∃ G2 f2 jk', z_ev E i_D_feet lv 34 [some (.ref a), some (.int (nI m)), some (.int (nI q)), some (.int y), some (.int (nI v)), jk] [] N k G1 = z_ev E i_D_feet lv 104 [some (.ref a), some (.int (nI m)), some (.int (nI q)), some (.int y), some (.int (nI (m + 1))), jk'] [] N k G2 ∧ FR (a + 8) 1 G G2 ∧ G2 (a + 8) = some (.inr (.int, 100, .inl f2)) ∧ ∀ x, 1 ≤ x → x < m + 1 → f2 x = nI ((x - 1) % (q + 1)) := by
          intro d
          induction d with
          | zero =>
            intro v G1 f jk hv _ hF hc hlo
            have : v = m + 1 := by omega
            subst this
            have c : nI m < nI (m + 1) := nI_lt (by omega) (by omega)
            exact ⟨G1, f, jk, by simp only [zr_D_feet_34, zr_D_feet_36, zr_D_feet_37, c, z_obs, z_pu_s, z_pu_n, z00, z10, ↓reduceIte, true_or, or_true, z_b_t, z_b_f], hF, hc, hlo⟩
          | succ d ih =>
            intro v G1 f jk hv hv1 hF hc hlo
            have c : ¬ nI m < nI v := nI_nlt (by omega) (by omega)
            have wr := z_piI (x := 0) hc (show v < 100 by omega) (show 100 < 2 ^ 31 by decide)
            obtain ⟨G2, f2, e1, e2, e3, e4⟩ := inner (min q v) v (z_up G1 (a + 8) (.inr (.int, 100, .inl (upd f v 0)))) (upd f v 0) (Nat.min_le_left _ _) (Nat.min_le_right _ _) hv1 (by omega) (hF.tr fun x hx => z_up_n _ _ (by omega)) (z_up_s _ _ _) (fun x x1 x2 => by rw [pk_un (by omega)]; exact hlo x x1 x2) (by
              rw [pk_us, if_neg]
              have h4 := Nat.mod_le (v - 1) (q + 1)
              have h5 : (v - 1) % (q + 1) < q + 1 := Nat.mod_lt _ (by omega)
              omega)
            obtain ⟨G3, f3, jk', t1, t2⟩ := ih (v + 1) G2 f2 (some (.int 0)) (by omega) (by omega) e2 e3 e4
            refine ⟨G3, f3, jk', ?_, t2⟩
            rw [← t1, ← e1, zr_D_feet_34]
            simp only [zr_D_feet_36, zr_D_feet_37, zr_D_feet_40, zr_D_feet_41, zr_D_feet_44, zr_D_feet_46, zr_D_feet_47, zr_D_feet_48, zr_D_feet_49, zr_D_feet_51, zr_D_feet_54, c, hfe G1 hF, wr, sD_least _ _ _ _ q v (show q < 2 ^ 31 by omega) (show v < 2 ^ 31 by omega), z_obs, z_pu_s, z_pu_n, z00, z10, ↓reduceIte, true_or, or_true, z_b_t, z_b_f]
        obtain ⟨f0, hf0⟩ := h.fe
        obtain ⟨G2, f2, jk', e1, e2, e3, e4⟩ := outer m 1 G f0 none (by omega) (Nat.le_refl _) FR.rf hf0 (fun x x1 x2 => by omega)
        refine ⟨G2, ?_, ?_, fun x hx => e2 x (by omega)⟩
        · have pre : z_evM E i_D_feet lv [.ref a, .int (nI m), .int (nI q), .int y] N k G = z_ev E i_D_feet lv 34 [some (.ref a), some (.int (nI m)), some (.int (nI q)), some (.int y), some (.int (nI 1)), none] [] N k G := by
            simp only [zm_D_feet, zr_D_feet_0, zr_D_feet_1, zr_D_feet_2, zr_D_feet_4, zr_D_feet_7, zr_D_feet_10, zr_D_feet_11, zr_D_feet_12, zr_D_feet_14, zr_D_feet_17, zr_D_feet_20, zr_D_feet_21, zr_D_feet_22, zr_D_feet_23, zr_D_feet_26, zr_D_feet_29, zr_D_feet_30, zr_D_feet_31, zr_D_feet_32, sD_isIn, show inL (nI m) 0 99 = inAB (nI m) 0 99 from rfl, show inL (nI q) 1 9 = inAB (nI q) 1 9 from rfl, il_01, hm, hq, hy, z_obs, z_pu_s, z_pu_n, z00, z10, ↓reduceIte, true_or, or_true, z_b_t, z_b_f]
            rfl
          rw [pre, e1]
          by_cases hm0 : m = 0
          · subst hm0
            rcases is01_of hy with rfl | rfl
            · simp only [zr_D_feet_104, zr_D_feet_105, zr_D_feet_106, zr_D_feet_109, zr_D_feet_110, zr_D_feet_113, zr_D_feet_114, zr_D_feet_117, zr_D_feet_118, zr_D_feet_121, zr_D_feet_122, zr_D_feet_123, zr_D_feet_126, zr_D_feet_127, zr_D_feet_130, zr_D_feet_131, zr_D_feet_134, zr_D_feet_135, zr_D_feet_136, zr_D_feet_139, zr_D_feet_140, zr_D_feet_143, zr_D_feet_144, show ¬ (0 : Int32) = 1 by decide, show (nI 0 = 0) = True from eq_true rfl, z_obs, z_pu_s, z_pu_n, z00, z10, ↓reduceIte, true_or, or_true, z_b_t, z_b_f, true_or]
            · simp only [zr_D_feet_104, zr_D_feet_105, zr_D_feet_106, zr_D_feet_109, zr_D_feet_110, zr_D_feet_113, zr_D_feet_114, zr_D_feet_117, zr_D_feet_118, zr_D_feet_121, zr_D_feet_122, zr_D_feet_123, zr_D_feet_126, zr_D_feet_127, zr_D_feet_130, zr_D_feet_131, zr_D_feet_134, zr_D_feet_135, zr_D_feet_136, zr_D_feet_139, zr_D_feet_140, zr_D_feet_143, zr_D_feet_144, show ((1 : Int32) = 1) = True by simp, show (nI 0 = 0) = True from eq_true rfl, z_obs, z_pu_s, z_pu_n, z00, z10, ↓reduceIte, true_or, or_true, z_b_t, z_b_f]
              rfl
          · have rd := z_aiI (E := E) e3 (show m < 100 by omega) (show 100 < 2 ^ 31 by decide)
            rw [e4 m (by omega) (by omega)] at rd
            have cm : ¬ nI m = 0 := nI_ne0 (by omega) (by omega)
            have hlt : (m - 1) % (q + 1) < 2 ^ 31 := Nat.lt_of_le_of_lt (Nat.mod_le _ _) (by omega)
            rcases is01_of hy with rfl | rfl
            · by_cases ht : 0 < (m - 1) % (q + 1)
              · have cp : ¬ nI ((m - 1) % (q + 1)) ≤ 0 := nI_nle ht hlt
                simp only [zr_D_feet_104, zr_D_feet_105, zr_D_feet_106, zr_D_feet_109, zr_D_feet_110, zr_D_feet_113, zr_D_feet_114, zr_D_feet_117, zr_D_feet_118, zr_D_feet_121, zr_D_feet_122, zr_D_feet_123, zr_D_feet_126, zr_D_feet_127, zr_D_feet_130, zr_D_feet_131, zr_D_feet_134, zr_D_feet_135, zr_D_feet_136, zr_D_feet_139, zr_D_feet_140, zr_D_feet_143, zr_D_feet_144, show ¬ (0 : Int32) = 1 by decide, cm, hfe G2 e2, rd, cp, ht, hm0, z_obs, z_pu_s, z_pu_n, z00, z10, ↓reduceIte, true_or, or_true, z_b_t, z_b_f, false_or]
              · have cp : nI ((m - 1) % (q + 1)) ≤ 0 := by rw [show (m - 1) % (q + 1) = 0 by omega]; decide
                simp only [zr_D_feet_104, zr_D_feet_105, zr_D_feet_106, zr_D_feet_109, zr_D_feet_110, zr_D_feet_113, zr_D_feet_114, zr_D_feet_117, zr_D_feet_118, zr_D_feet_121, zr_D_feet_122, zr_D_feet_123, zr_D_feet_126, zr_D_feet_127, zr_D_feet_130, zr_D_feet_131, zr_D_feet_134, zr_D_feet_135, zr_D_feet_136, zr_D_feet_139, zr_D_feet_140, zr_D_feet_143, zr_D_feet_144, show ¬ (0 : Int32) = 1 by decide, cm, hfe G2 e2, rd, cp, ht, hm0, z_obs, z_pu_s, z_pu_n, z00, z10, ↓reduceIte, true_or, or_true, z_b_t, z_b_f, false_or]
            · simp only [zr_D_feet_104, zr_D_feet_105, zr_D_feet_106, zr_D_feet_109, zr_D_feet_110, zr_D_feet_113, zr_D_feet_114, zr_D_feet_117, zr_D_feet_118, zr_D_feet_121, zr_D_feet_122, zr_D_feet_123, zr_D_feet_126, zr_D_feet_127, zr_D_feet_130, zr_D_feet_131, zr_D_feet_134, zr_D_feet_135, zr_D_feet_136, zr_D_feet_139, zr_D_feet_140, zr_D_feet_143, zr_D_feet_144, show ((1 : Int32) = 1) = True by simp, cm, hfe G2 e2, rd, hm0, z_obs, z_pu_s, z_pu_n, z00, z10, ↓reduceIte, true_or, or_true, z_b_t, z_b_f]
        · obtain ⟨h0, h1, h2, ⟨v, h3, h3'⟩, h4, h5, h6, h7, h8, h9⟩ := h
          exact ⟨by rw [e2 _ (by omega)]; exact h0, h1.mono (e2 _ (by omega)), h2.mono (e2 _ (by omega)), ⟨v, h3.mono (e2 _ (by omega)), h3'⟩, h4.mono (e2 _ (by omega)), h5.mono (e2 _ (by omega)), h6.mono (e2 _ (by omega)), h7.mono (e2 _ (by omega)), ⟨f2, e3⟩, h9.mono fun q q1 q2 => e2 q (by omega)⟩
end
