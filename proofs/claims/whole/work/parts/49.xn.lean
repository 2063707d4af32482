/-! THE CLASS: errands, as asked -/
theorem sh6 : ∀ m, m < 7 → (1 : Int32) <<< (nI m &&& 31) = nI (2 ^ m) := by decide +kernel
def isSt (s : Nat → Nat) (y : Int32) : Bool := decide (0 < y) && decide (y < nI (2 ^ s 0))
theorem isSt_of {s : Nat → Nat} (w : WF s) {y : Int32} (h : isSt s y = true) : ∃ v, 0 < v ∧ v < 2 ^ s 0 ∧ y = nI v := by
  have h6 := pow_le64 w.1
  unfold isSt at h
  simp only [Bool.and_eq_true, decide_eq_true_eq] at h
  obtain ⟨v, v1, rfl⟩ := nI_of (Int32.not_lt.mpr (Int32.le_of_lt h.1))
  have a := h.1
  rw [int_0] at a
  exact ⟨v, (nI_ltI (by omega) v1).mp a, (nI_ltI v1 (by omega)).mp h.2, rfl⟩
def aErrands (s : Nat → Nat) (p y i : Int32) : Int32 := if inR p 31 = true ∧ isSt s y = true ∧ -1 ≤ i then (let q := erO s 7 0 (jN y) (jN p) 0 (fun _ => 0) (201, fun _ => 0)
  if q.1 = 201 then -4 else if i = -1 then nI q.1 else if inR i (pop (jN y)) = true then nI (q.2 (jN i)) else -4) else -1
section
variable {E : z_E} {G : z_H} {x : Nat} {s u : Nat → Nat} {ib : Bool} {hs : Nat → Sh} {n : Nat} (lv N k : Nat)
theorem xErrands (h : XW G x s ib u hs n) (w : WF s) (ws : WS s) (p y i : Int32) : ∃ G', z_evM E i_X_errands lv [.ref x, .int p, .int y, .int i] N k G = some (some (.int (aErrands s p y i)), N, k, G') ∧ XW G' x s ib u hs n ∧ XF x G G' := by
  have w1 := w.1
  have hsh := sh6 (s 0) (by omega)
  have hpre : z_evM E i_X_errands lv [.ref x, .int p, .int y, .int i] N k G = z_ev E i_X_errands lv 24 [some (.ref x), some (.int p), some (.int y), some (.int i), some (.int (z_b (isSt s y)))] [] N k G := by
    unfold isSt
    by_cases c1 : y ≤ 0
    · have c2 : ¬ 0 < y := Int32.not_lt.mpr c1
      simp only [zm_X_errands, zr_X_errands_0, zr_X_errands_1, zr_X_errands_4, zr_X_errands_5, zr_X_errands_6, zr_X_errands_7, zr_X_errands_10, zr_X_errands_13, zr_X_errands_14, zr_X_errands_17, zr_X_errands_18, zr_X_errands_21, zr_X_errands_22, c1, c2, decide_false, Bool.false_and, z_obs, z_pu_s, z_pu_n, z00, z10, ↓reduceIte, true_or, or_true, z_b_t, z_b_f]
    · have c2 : 0 < y := Int32.not_le.mp c1
      by_cases c3 : nI (2 ^ s 0) ≤ y
      · have c4 : ¬ y < nI (2 ^ s 0) := Int32.not_lt.mpr c3
        simp only [zm_X_errands, zr_X_errands_0, zr_X_errands_1, zr_X_errands_4, zr_X_errands_5, zr_X_errands_6, zr_X_errands_7, zr_X_errands_10, zr_X_errands_13, zr_X_errands_14, zr_X_errands_17, zr_X_errands_18, zr_X_errands_21, zr_X_errands_22, c1, c2, c3, c4, hsh, h.f0, h.now.f8, decide_false, decide_true, Bool.true_and, z_obs, z_pu_s, z_pu_n, z00, z10, ↓reduceIte, true_or, or_true, z_b_t, z_b_f]
      · have c4 : y < nI (2 ^ s 0) := Int32.not_le.mp c3
        simp only [zm_X_errands, zr_X_errands_0, zr_X_errands_1, zr_X_errands_4, zr_X_errands_5, zr_X_errands_6, zr_X_errands_7, zr_X_errands_10, zr_X_errands_13, zr_X_errands_14, zr_X_errands_17, zr_X_errands_18, zr_X_errands_21, zr_X_errands_22, c1, c2, c3, c4, hsh, h.f0, h.now.f8, decide_false, decide_true, Bool.true_and, z_obs, z_pu_s, z_pu_n, z00, z10, ↓reduceIte, true_or, or_true, z_b_t, z_b_f]
  rw [hpre]
  unfold aErrands
  cases hp : inR p 31
  · refine ⟨G, ?_, h, XF.rf⟩
    simp only [zr_X_errands_24, zr_X_errands_25, zr_X_errands_28, zr_X_errands_31, zr_X_errands_33, zr_X_errands_36, zr_X_errands_37, zr_X_errands_38, zr_X_errands_41, zr_X_errands_42, sX_isPlace, hp, z_obs, z_pu_s, z_pu_n, z00, z10, ↓reduceIte, true_or, or_true, z_b_t, z_b_f, Bool.false_eq_true, false_and]
  · cases hy : isSt s y
    · refine ⟨G, ?_, h, XF.rf⟩
      simp only [zr_X_errands_24, zr_X_errands_25, zr_X_errands_28, zr_X_errands_31, zr_X_errands_33, zr_X_errands_36, zr_X_errands_37, zr_X_errands_38, zr_X_errands_41, zr_X_errands_42, sX_isPlace, hp, z_obs, z_pu_s, z_pu_n, z00, z10, ↓reduceIte, true_or, or_true, z_b_t, z_b_f, Bool.false_eq_true, false_and, and_false]
    · by_cases hi : -1 ≤ i
      · obtain ⟨p, hp', rfl⟩ := inR_of (by decide) hp
        obtain ⟨v, v0, v1, rfl⟩ := isSt_of w hy
        have h64 := pow_le64 w1
        rw [jN_nI (show p < 2 ^ 31 by omega), jN_nI (show v < 2 ^ 31 by omega)]
        obtain ⟨p0, q0, ho⟩ := h.er
        obtain ⟨rg, e1⟩ := h.e1
        obtain ⟨od, e2⟩ := h.e2
        obtain ⟨bs, e3⟩ := h.e3
        obtain ⟨G', g1, ⟨ln, mn, rg', od', bs', g2, c1, c2, c3, c4, c5⟩, g3⟩ := sE_seek (E := E) (e := x + 31) (a := x + 1) (fe := 0) (mn := 0) N k 0 w ws (by omega) h.now ho e1 e2 e3 (left := v) (at_ := p) (by omega) (fun b hb hbb => by
          rcases Nat.lt_or_ge b (s 0) with q | q
          · exact q
          · have : v / 2 ^ b = 0 := Nat.div_eq_of_lt (Nat.lt_of_lt_of_le v1 (Nat.pow_le_pow_right (by decide) q))
            unfold b6 at hbb
            rw [this] at hbb; cases hbb) hp'
        have e : ∀ q, (q < x + 31 ∨ x + 35 ≤ q) → G' q = G q := fun q hq => g3 q (by omega)
        have hX : XW G' x s ib u hs n := h.sc (fun q hq => e q (by omega)) ⟨_, _, g2.1⟩ ⟨_, g2.2.1⟩ ⟨_, g2.2.2.1⟩ ⟨_, g2.2.2.2⟩ (by rw [e _ (by omega)]; exact h.h1) (by rw [e _ (by omega)]; exact h.h2) (by rw [e _ (by omega)]; exact h.h3)
        refine ⟨G', ?_, hX, g3.xf (by omega) (by omega)⟩
        have ecls : z_clsOf G (x + 31) = some 10 := z_clsI ho
        simp only [true_and, hi, ↓reduceIte]
        have hpop := pop_le v
        have hK : 0 < pop v := by
          rcases Nat.eq_zero_or_pos (pop v) with z | z
          · have := (lf6d v (by omega)).mpr z; omega
          · exact z
        by_cases hi1 : i = -1
        · subst hi1
          by_cases h201 : (erO s 7 0 v p 0 (fun _ => 0) (201, fun _ => 0)).1 = 201
          · have hm := c2 h201
            subst hm
            rw [if_pos h201]
            simp only [zr_X_errands_24, zr_X_errands_25, zr_X_errands_28, zr_X_errands_31, zr_X_errands_33, zr_X_errands_36, zr_X_errands_37, zr_X_errands_38, zr_X_errands_41, zr_X_errands_42, zr_X_errands_43, zr_X_errands_44, zr_X_errands_47, zr_X_errands_48, zr_X_errands_51, zr_X_errands_52, zr_X_errands_53, zr_X_errands_56, zr_X_errands_57, zr_X_errands_58, zr_X_errands_61, zr_X_errands_62, zr_X_errands_65, zr_X_errands_68, sX_isPlace, hp, h.f7, h.f0, ecls, g1, hX.f7, g2.cls, zm_E_hoursNeeded, zr_E_hoursNeeded_0, zr_E_hoursNeeded_1, zr_E_hoursNeeded_4, zr_E_hoursNeeded_7, zr_E_hoursNeeded_9, zr_E_hoursNeeded_12, zr_E_hoursNeeded_13, zr_E_hoursNeeded_16, g2.f4, show (nI 0 = 0) = True from eq_true rfl, show ((-1 : Int32) ≤ -1) = True from eq_true (by decide), z_obs, z_pu_s, z_pu_n, z00, z10, ↓reduceIte, true_or, or_true, z_b_t, z_b_f]
            simp only [zr_X_errands_79]
          · obtain ⟨hm, -⟩ := c3 (by omega)
            have cm : ¬ nI mn = 0 := nI_ne0 (by omega) (by omega)
            rw [if_neg h201]
            simp only [zr_X_errands_24, zr_X_errands_25, zr_X_errands_28, zr_X_errands_31, zr_X_errands_33, zr_X_errands_36, zr_X_errands_37, zr_X_errands_38, zr_X_errands_41, zr_X_errands_42, zr_X_errands_43, zr_X_errands_44, zr_X_errands_47, zr_X_errands_48, zr_X_errands_51, zr_X_errands_52, zr_X_errands_53, zr_X_errands_56, zr_X_errands_57, zr_X_errands_58, zr_X_errands_61, zr_X_errands_62, zr_X_errands_65, zr_X_errands_68, sX_isPlace, hp, h.f7, h.f0, ecls, g1, hX.f7, g2.cls, zm_E_hoursNeeded, zr_E_hoursNeeded_0, zr_E_hoursNeeded_1, zr_E_hoursNeeded_4, zr_E_hoursNeeded_7, zr_E_hoursNeeded_9, zr_E_hoursNeeded_12, zr_E_hoursNeeded_13, zr_E_hoursNeeded_16, g2.f4, g2.f3, cm, show ((-1 : Int32) ≤ -1) = True from eq_true (by decide), z_obs, z_pu_s, z_pu_n, z00, z10, ↓reduceIte, true_or, or_true, z_b_t, z_b_f]
            simp only [zr_X_errands_79]
        · have hi0 : ¬ i < 0 := by
            intro hlt
            apply hi1
            have a1 := Int32.le_iff_toInt_le.mp hi
            have a2 := Int32.lt_iff_toInt_lt.mp hlt
            have a3 : (-1 : Int32).toInt = -1 := by decide
            have a4 : (0 : Int32).toInt = 0 := by decide
            exact Int32.toInt_inj.mp (by omega)
          obtain ⟨j, j1, rfl⟩ := nI_of hi0
          by_cases h201 : (erO s 7 0 v p 0 (fun _ => 0) (201, fun _ => 0)).1 = 201
          · have hm := c2 h201
            subst hm
            have cj : nI 0 ≤ nI j := nI_le (Nat.zero_le _) j1
            rw [if_pos h201]
            simp only [zr_X_errands_24, zr_X_errands_25, zr_X_errands_28, zr_X_errands_31, zr_X_errands_33, zr_X_errands_36, zr_X_errands_37, zr_X_errands_38, zr_X_errands_41, zr_X_errands_42, zr_X_errands_43, zr_X_errands_44, zr_X_errands_47, zr_X_errands_48, zr_X_errands_51, zr_X_errands_52, zr_X_errands_53, zr_X_errands_56, zr_X_errands_57, zr_X_errands_58, zr_X_errands_61, zr_X_errands_62, zr_X_errands_65, zr_X_errands_68, zr_X_errands_71, zr_X_errands_72, zr_X_errands_75, zr_X_errands_76, zr_X_errands_79, sX_isPlace, hp, hi, h.f7, h.f0, ecls, g1, hX.f7, g2.cls, zm_E_bellAt, zr_E_bellAt_0, zr_E_bellAt_1, zr_E_bellAt_4, zr_E_bellAt_5, zr_E_bellAt_6, zr_E_bellAt_9, zr_E_bellAt_12, zr_E_bellAt_13, zr_E_bellAt_16, zr_E_bellAt_17, zr_E_bellAt_18, zr_E_bellAt_21, zr_E_bellAt_23, g2.f4, hi1, hi0, cj, z_obs, z_pu_s, z_pu_n, z00, z10, ↓reduceIte, true_or, or_true, z_b_t, z_b_f]
          · obtain ⟨hm, hbs⟩ := c3 (by omega)
            subst hm
            rw [if_neg h201, if_neg hi1]
            by_cases hj : j < pop v
            · have cj : ¬ nI (pop v) ≤ nI j := nI_ge hj (by omega)
              rw [if_pos (inR_nI (by omega) hj), jN_nI j1, ← hbs j hj]
              simp only [zr_X_errands_24, zr_X_errands_25, zr_X_errands_28, zr_X_errands_31, zr_X_errands_33, zr_X_errands_36, zr_X_errands_37, zr_X_errands_38, zr_X_errands_41, zr_X_errands_42, zr_X_errands_43, zr_X_errands_44, zr_X_errands_47, zr_X_errands_48, zr_X_errands_51, zr_X_errands_52, zr_X_errands_53, zr_X_errands_56, zr_X_errands_57, zr_X_errands_58, zr_X_errands_61, zr_X_errands_62, zr_X_errands_65, zr_X_errands_68, zr_X_errands_71, zr_X_errands_72, zr_X_errands_75, zr_X_errands_76, zr_X_errands_79, sX_isPlace, hp, hi, h.f7, h.f0, ecls, g1, hX.f7, g2.cls, zm_E_bellAt, zr_E_bellAt_0, zr_E_bellAt_1, zr_E_bellAt_4, zr_E_bellAt_5, zr_E_bellAt_6, zr_E_bellAt_9, zr_E_bellAt_12, zr_E_bellAt_13, zr_E_bellAt_16, zr_E_bellAt_17, zr_E_bellAt_18, zr_E_bellAt_21, zr_E_bellAt_23, g2.f4, g2.f2, g2.r3 (show j < 6 by omega), hi1, hi0, cj, z_obs, z_pu_s, z_pu_n, z00, z10, ↓reduceIte, true_or, or_true, z_b_t, z_b_f]
            · have cj : nI (pop v) ≤ nI j := nI_le (by omega) j1
              have cr : ¬ inR (nI j) (pop v) = true := by
                intro z
                obtain ⟨j', a, b⟩ := inR_of (by omega) z
                have := (nI_eq j1 (by omega)).mp b
                omega
              rw [if_neg cr]
              simp only [zr_X_errands_24, zr_X_errands_25, zr_X_errands_28, zr_X_errands_31, zr_X_errands_33, zr_X_errands_36, zr_X_errands_37, zr_X_errands_38, zr_X_errands_41, zr_X_errands_42, zr_X_errands_43, zr_X_errands_44, zr_X_errands_47, zr_X_errands_48, zr_X_errands_51, zr_X_errands_52, zr_X_errands_53, zr_X_errands_56, zr_X_errands_57, zr_X_errands_58, zr_X_errands_61, zr_X_errands_62, zr_X_errands_65, zr_X_errands_68, zr_X_errands_71, zr_X_errands_72, zr_X_errands_75, zr_X_errands_76, zr_X_errands_79, sX_isPlace, hp, hi, h.f7, h.f0, ecls, g1, hX.f7, g2.cls, zm_E_bellAt, zr_E_bellAt_0, zr_E_bellAt_1, zr_E_bellAt_4, zr_E_bellAt_5, zr_E_bellAt_6, zr_E_bellAt_9, zr_E_bellAt_12, zr_E_bellAt_13, zr_E_bellAt_16, zr_E_bellAt_17, zr_E_bellAt_18, zr_E_bellAt_21, zr_E_bellAt_23, g2.f4, hi1, hi0, cj, z_obs, z_pu_s, z_pu_n, z00, z10, ↓reduceIte, true_or, or_true, z_b_t, z_b_f]
      · refine ⟨G, ?_, h, XF.rf⟩
        simp only [zr_X_errands_24, zr_X_errands_25, zr_X_errands_28, zr_X_errands_31, zr_X_errands_33, zr_X_errands_36, zr_X_errands_37, zr_X_errands_38, zr_X_errands_41, zr_X_errands_42, sX_isPlace, hp, hi, z_obs, z_pu_s, z_pu_n, z00, z10, ↓reduceIte, true_or, or_true, z_b_t, z_b_f, and_false]
end
