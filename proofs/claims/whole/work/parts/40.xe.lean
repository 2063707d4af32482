/-! THE CLASS: each rung once; a told list; days by seeds -/
theorem XW.mcls {G : z_H} {x : Nat} {s u : Nat → Nat} {ib : Bool} {hs : Nat → Sh} {n : Nat} (h : XW G x s ib u hs n) : z_clsOf G (x + 10) = some 8 := by obtain ⟨t, ht⟩ := h.mind; exact ht.cls
def ruF (y : Int32) (b : Nat) (a : (Nat → Nat) × Nat) : (Nat → Nat) × Nat := (rgS a.1 b, a.2 + ooN (rgH a.1 b) y)
def aRun (s : Nat → Nat) (y : Int32) : Int32 := if is01 y = true then nI (foldN (ruF y) (s 0) 0 (s, 0)).2 else -1
/-- the first told place at which no bell rings -/
def fgR (el : Nat → Int32) : Nat → Nat → (Nat → Nat) → Option Nat
  | 0, _, _ => none
  | m + 1, i, t => if isB t (el i) = true ∧ rgH t (jN (el i)) ≠ 0 then fgR el m (i + 1) (hrS (rgS t (jN (el i)))) else some i
def aForged (s : Nat → Nat) (hs : Nat → Sh) (d : Int32) : Int32 := if lkR hs d ≠ 0 then lkR hs d else match hs (jN d) with
  | .inr (.inr (_, sz, el)) => oI (fgR el sz 0 s)
  | _ => -1
def seN (z : Int32) : Int32 := z * 1103515245 + 12345
def drN (m : Nat) (z : Int32) : Nat := jN (z &&& 2147483647) / 65536 % m
theorem and_pos (z : Int32) : ¬ (z &&& 2147483647) < 0 := by
  intro h
  have h1 := Int32.lt_iff_toInt_lt.mp h
  have h2 : (z &&& 2147483647).toInt = (z.toBitVec &&& 2147483647#32).toInt := rfl
  rw [h2, BitVec.toInt_eq_msb_cond] at h1
  have h3 : (z.toBitVec &&& 2147483647#32).msb = false := by
    rw [BitVec.msb_and]
    have : (2147483647#32 : BitVec 32).msb = false := by decide
    rw [this, Bool.and_false]
  rw [h3] at h1
  simp only [Bool.false_eq_true, ↓reduceIte] at h1
  have h4 : (0 : Int32).toInt = 0 := by decide
  rw [h4] at h1
  omega
theorem and_num (z : Int32) : jN (z &&& 2147483647) < 2 ^ 31 ∧ (z &&& 2147483647) = nI (jN (z &&& 2147483647)) := by
  obtain ⟨j, h1, h2⟩ := nI_of (and_pos z)
  rw [h2, jN_nI h1]
  exact ⟨h1, rfl⟩
section
variable {E : z_E} (lv N k : Nat) (G : z_H)
theorem sX_nextSeed (z : Int32) : z_evM E i_X_nextSeed lv [.int z] N k G = some (some (.int (seN z)), N, k, G) := by
  simp only [zm_X_nextSeed, zr_X_nextSeed_0, zr_X_nextSeed_1, zr_X_nextSeed_4, zr_X_nextSeed_5, zr_X_nextSeed_8, zr_X_nextSeed_9]; rfl
theorem sX_drawBelow {m : Nat} (h1 : 1 ≤ m) (h2 : m ≤ 6) (z : Int32) : z_evM E i_X_drawBelow lv [.int (nI m), .int z] N k G = some (some (.int (nI (drN m z))), N, k, G) := by
  obtain ⟨a1, a2⟩ := and_num z
  have c : nI 1 ≤ nI m := nI_le h1 (by omega)
  have c1 : ¬ (65536 : Int32) = 0 := by decide
  have c2 : ¬ nI m = 0 := nI_ne0 (by omega) (by omega)
  have e1 : nI (jN (z &&& 2147483647)) / 65536 = nI (jN (z &&& 2147483647) / 65536) := pk_div a1 (show 0 < 65536 by decide) (by decide)
  have e2 : jN (z &&& 2147483647) / 65536 < 2 ^ 31 := Nat.lt_of_le_of_lt (Nat.div_le_self _ _) a1
  simp only [zm_X_drawBelow, zr_X_drawBelow_0, zr_X_drawBelow_1, zr_X_drawBelow_2, zr_X_drawBelow_5, zr_X_drawBelow_6, zr_X_drawBelow_9, zr_X_drawBelow_10, zr_X_drawBelow_13, zr_X_drawBelow_14, zr_X_drawBelow_17, zr_X_drawBelow_18, zr_X_drawBelow_19, zr_X_drawBelow_20, int_1, c, z_obs, z_pu_s, z_pu_n, z00, z10, ↓reduceIte, true_or, or_true, z_b_t, z_b_f, c1, c2, not_false_eq_true]
  rw [a2, e1]
  simp only [pk_div e2 (show 0 < m by omega) (show m < 2 ^ 31 by omega), z_rem2 e2 (show 0 < m by omega) (show m < 2 ^ 31 by omega)]
  rfl
end
def dyI (y : Int32) (_ : Nat) (a : (Nat → Nat) × Int32 × Nat) : (Nat → Nat) × Int32 × Nat := (hrS (rgS a.1 (drN (a.1 0) (seN a.2.1))), seN a.2.1, a.2.2 + ooN (rgH a.1 (drN (a.1 0) (seN a.2.1))) y)
def dyO (s : Nat → Nat) (y : Int32) (_ : Nat) (a : Int32 × Nat) : Int32 × Nat := (foldN (dyI y) 12 0 (s, a)).2
def aDays (s : Nat → Nat) (m z y : Int32) : Int32 := if inAB m 1 20 = true ∧ is01 y = true then (if s 0 = 0 then -3 else nI (foldN (dyO s y) (jN m) 0 (z, 0)).2) else -1
section
variable {E : z_E} {G : z_H} {x : Nat} {s u : Nat → Nat} {ib : Bool} {hs : Nat → Sh} {n : Nat} (lv N k : Nat)
theorem xRun (h : XW G x s ib u hs n) (w : WF s) (y : Int32) : ∃ G', z_evM E i_X_run lv [.ref x, .int y] N k G = some (some (.int (aRun s y)), N, k, G') ∧ XW G' x s ib u hs n ∧ XF x G G' := by
  have w1 := w.1
  unfold aRun
  cases hy : is01 y
  · refine ⟨G, ?_, h, XF.rf⟩
    simp only [zm_X_run, zr_X_run_0, zr_X_run_1, zr_X_run_4, zr_X_run_7, zr_X_run_8, sX_is01, hy, z_obs, z_pu_s, z_pu_n, z00, z10, ↓reduceIte, true_or, or_true, z_b_t, z_b_f, Bool.false_eq_true]
  · obtain ⟨G1, g1, g2⟩ := MI.take (E := E) N k h FR.rf w (Nat.le_refl (s 2))
    obtain ⟨G', _, e, p⟩ := z_loopG (fun i (a : (Nat → Nat) × Nat) (_ : Unit) G => z_ev E i_X_run lv 24 [some (.ref x), some (.int y), some (.int (nI a.2)), some (.int (nI i))] [] N k G) (ruF y) (fun i a G' => MI G x s ib u hs n (s 2) a.1 G') (s 0) (fun a _ G => some (some (.int (nI a.2)), N, k, G)) (fun a _ G1 hP => by
      have c : nI (s 0) ≤ nI (s 0) := nI_le (Nat.le_refl _) (by omega)
      have h0 := hP.2.2.2.2.1
      simp only [zr_X_run_0, zr_X_run_1, zr_X_run_4, zr_X_run_7, zr_X_run_8, zr_X_run_9, zr_X_run_10, zr_X_run_13, zr_X_run_14, zr_X_run_17, zr_X_run_20, zr_X_run_21, zr_X_run_22, zr_X_run_23, zr_X_run_24, zr_X_run_25, zr_X_run_26, zr_X_run_29, zr_X_run_32, zr_X_run_35, zr_X_run_36, zr_X_run_37, zr_X_run_40, zr_X_run_41, zr_X_run_44, zr_X_run_45, zr_X_run_48, zr_X_run_49, zr_X_run_50, zr_X_run_53, zr_X_run_56, zr_X_run_57, hP.1.f1, hP.2.2.1.f8, h0, c, z_obs, z_pu_s, z_pu_n, z00, z10, ↓reduceIte, true_or, or_true, z_b_t, z_b_f]) (fun i a _ G1 hi hP => by
      have c : ¬ nI (s 0) ≤ nI i := nI_ge hi (by omega)
      have h0 := hP.2.2.2.2.1
      obtain ⟨G2, a1, a2⟩ := hP.ring (E := E) N k hi
      have hv := hP.rgle hi
      refine ⟨G2, (), ?_, a2⟩
      rw [zr_X_run_24]
      simp only [zr_X_run_0, zr_X_run_1, zr_X_run_4, zr_X_run_7, zr_X_run_8, zr_X_run_9, zr_X_run_10, zr_X_run_13, zr_X_run_14, zr_X_run_17, zr_X_run_20, zr_X_run_21, zr_X_run_22, zr_X_run_23, zr_X_run_25, zr_X_run_26, zr_X_run_29, zr_X_run_32, zr_X_run_35, zr_X_run_36, zr_X_run_37, zr_X_run_40, zr_X_run_41, zr_X_run_44, zr_X_run_45, zr_X_run_48, zr_X_run_49, zr_X_run_50, zr_X_run_53, zr_X_run_56, zr_X_run_57, hP.1.f1, hP.2.2.1.f8, h0, hP.mcls, c, a1, sX_oo _ _ _ _ (show rgH a.1 i < 2 ^ 31 by omega), z_obs, z_pu_s, z_pu_n, z00, z10, ↓reduceIte, true_or, or_true, z_b_t, z_b_f, nI_1, nI_add, ruF]) (s 0) 0 (s, 0) () G1 (by omega) g2
    refine ⟨G', ?_, p.1, p.2.1.xf (by omega) (by omega)⟩
    simp only [↓reduceIte]
    rw [← e]
    simp only [zm_X_run, zr_X_run_0, zr_X_run_1, zr_X_run_4, zr_X_run_9, zr_X_run_10, zr_X_run_13, zr_X_run_14, zr_X_run_17, zr_X_run_20, zr_X_run_21, zr_X_run_22, zr_X_run_23, h.f0, h.f1, h.mcls, sX_is01, hy, g1, z_obs, z_pu_s, z_pu_n, z00, z10, ↓reduceIte, true_or, or_true, z_b_t, z_b_f]
    rfl
theorem xForged (h : XW G x s ib u hs n) (w : WF s) (h2 : s 2 ≤ 999) (d : Int32) : ∃ G', z_evM E i_X_forged lv [.ref x, .int d] N k G = some (some (.int (aForged s hs d)), N, k, G') ∧ XW G' x s ib u hs n ∧ XF x G G' := by
  unfold aForged
  by_cases hl : lkR hs d ≠ 0
  · rw [if_pos hl]
    refine ⟨G, ?_, h, XF.rf⟩
    simp only [zm_X_forged, zr_X_forged_0, zr_X_forged_1, zr_X_forged_2, zr_X_forged_5, zr_X_forged_5n, zr_X_forged_6, zr_X_forged_6n, zr_X_forged_7, zr_X_forged_7n, zr_X_forged_10, zr_X_forged_11, zr_X_forged_12, zr_X_forged_15, zr_X_forged_16, zr_X_forged_17, zr_X_forged_20, zr_X_forged_21, zr_X_forged_24, zr_X_forged_27, zr_X_forged_28, zr_X_forged_29, zr_X_forged_30, zr_X_forged_30n, zr_X_forged_31, zr_X_forged_34, zr_X_forged_37, zr_X_forged_38, zr_X_forged_41, zr_X_forged_41n, zr_X_forged_42, zr_X_forged_43, zr_X_forged_46, zr_X_forged_49, zr_X_forged_52, zr_X_forged_53, zr_X_forged_54, zr_X_forged_55, zr_X_forged_58, zr_X_forged_61, zr_X_forged_64, zr_X_forged_67, zr_X_forged_69, h.cls, rowOn_lk _ _ _ h hl, sX_lackOfRow _ _ _ h hl, z_obs, z_pu_s, z_pu_n, z00, z10, ↓reduceIte, true_or, or_true, z_b_t, z_b_f]
  · rw [if_neg hl]
    obtain ⟨d, so, sz, el, hd, rfl, e⟩ := lkR_ro hl
    obtain ⟨r, r1, r2, r3, r4, r5, r6⟩ := sX_rowOn_ro (E := E) h hd e
    rw [jN_nI (by omega), e]
    obtain ⟨G1, g1, g2⟩ := MI.take (E := E) N k h FR.rf w (Nat.le_refl (s 2))
    have hr : ∀ {D t G'}, MI G x s ib u hs n D t G' → RA G' r so sz el := fun {D t G'} hm => r2.mono (hm.2.1 _ (by omega)) (hm.2.1 _ (by omega))
    have key : ∀ m i t G1, i + m = sz → MI G x s ib u hs n (s 2 + i) t G1 → ∃ G', z_ev E i_X_forged lv 29 [some (.ref x), some (.int (nI d)), some (.ref r), some (.int (nI i))] [] N k G1 = some (some (.int (oI (fgR el m i t))), N, k, G') ∧ XW G' x s ib u hs n ∧ XF x G G' := by
      intro m
      induction m with
      | zero =>
        intro i t G1 hi hP
        have : i = sz := by omega
        subst this
        have c : nI i ≤ nI i := nI_le (Nat.le_refl _) (by omega)
        have q2 := hr hP
        refine ⟨G1, ?_, hP.1, hP.2.1.xf (by omega) (by omega)⟩
        simp only [zr_X_forged_0, zr_X_forged_1, zr_X_forged_2, zr_X_forged_5, zr_X_forged_5n, zr_X_forged_6, zr_X_forged_6n, zr_X_forged_7, zr_X_forged_7n, zr_X_forged_10, zr_X_forged_11, zr_X_forged_12, zr_X_forged_15, zr_X_forged_16, zr_X_forged_17, zr_X_forged_20, zr_X_forged_21, zr_X_forged_24, zr_X_forged_27, zr_X_forged_28, zr_X_forged_29, zr_X_forged_30, zr_X_forged_30n, zr_X_forged_31, zr_X_forged_34, zr_X_forged_37, zr_X_forged_38, zr_X_forged_41, zr_X_forged_41n, zr_X_forged_42, zr_X_forged_43, zr_X_forged_46, zr_X_forged_49, zr_X_forged_52, zr_X_forged_53, zr_X_forged_54, zr_X_forged_55, zr_X_forged_58, zr_X_forged_61, zr_X_forged_64, zr_X_forged_67, zr_X_forged_69, q2.cls, sR_length _ _ _ q2, c, z_obs, z_pu_s, z_pu_n, z00, z10, ↓reduceIte, true_or, or_true, z_b_t, z_b_f]
        rfl
      | succ m ih =>
        intro i t G1 hi hP
        have c : ¬ nI sz ≤ nI i := nI_ge (by omega) (by omega)
        have q2 := hr hP
        have h0 := hP.2.2.2.2.1
        have eat : rAt sz el (nI i) = el i := by unfold rAt; rw [inR_nI (by omega) (by omega), jN_nI (by omega)]; rfl
        unfold fgR
        cases hb : isB t (el i)
        · refine ⟨G1, ?_, hP.1, hP.2.1.xf (by omega) (by omega)⟩
          rw [zr_X_forged_29]
          simp only [zr_X_forged_0, zr_X_forged_1, zr_X_forged_2, zr_X_forged_5, zr_X_forged_5n, zr_X_forged_6, zr_X_forged_6n, zr_X_forged_7, zr_X_forged_7n, zr_X_forged_10, zr_X_forged_11, zr_X_forged_12, zr_X_forged_15, zr_X_forged_16, zr_X_forged_17, zr_X_forged_20, zr_X_forged_21, zr_X_forged_24, zr_X_forged_27, zr_X_forged_28, zr_X_forged_30, zr_X_forged_30n, zr_X_forged_31, zr_X_forged_34, zr_X_forged_37, zr_X_forged_38, zr_X_forged_41, zr_X_forged_41n, zr_X_forged_42, zr_X_forged_43, zr_X_forged_46, zr_X_forged_49, zr_X_forged_52, zr_X_forged_53, zr_X_forged_54, zr_X_forged_55, zr_X_forged_58, zr_X_forged_61, zr_X_forged_64, zr_X_forged_67, zr_X_forged_69, q2.cls, sR_length _ _ _ q2, c, hP.1.f1, hP.mcls, sR_at _ _ _ q2 r6, eat, sM_hear_f _ _ _ hP.2.2.1 hb, show ¬ (0 : Int32) < -1 by decide, z_obs, z_pu_s, z_pu_n, z00, z10, ↓reduceIte, true_or, or_true, z_b_t, z_b_f, Bool.false_eq_true, false_and, oI]
        · obtain ⟨j, hj, ej⟩ := isB_of hP.2.2.2.1 hb
          have hj' : j < s 0 := by omega
          have w1 := w.1
          rw [ej, jN_nI (by omega)]
          have hv := hP.rgle hj'
          obtain ⟨G2, a1, a2⟩ := hP.ring (E := E) N k hj'
          by_cases hz : rgH t j = 0
          · refine ⟨G2, ?_, a2.1, a2.2.1.xf (by omega) (by omega)⟩
            rw [zr_X_forged_29]
            simp only [zr_X_forged_0, zr_X_forged_1, zr_X_forged_2, zr_X_forged_5, zr_X_forged_5n, zr_X_forged_6, zr_X_forged_6n, zr_X_forged_7, zr_X_forged_7n, zr_X_forged_10, zr_X_forged_11, zr_X_forged_12, zr_X_forged_15, zr_X_forged_16, zr_X_forged_17, zr_X_forged_20, zr_X_forged_21, zr_X_forged_24, zr_X_forged_27, zr_X_forged_28, zr_X_forged_30, zr_X_forged_30n, zr_X_forged_31, zr_X_forged_34, zr_X_forged_37, zr_X_forged_38, zr_X_forged_41, zr_X_forged_41n, zr_X_forged_42, zr_X_forged_43, zr_X_forged_46, zr_X_forged_49, zr_X_forged_52, zr_X_forged_53, zr_X_forged_54, zr_X_forged_55, zr_X_forged_58, zr_X_forged_61, zr_X_forged_64, zr_X_forged_67, zr_X_forged_69, q2.cls, sR_length _ _ _ q2, c, hP.1.f1, hP.mcls, sR_at _ _ _ q2 r6, eat, ej, a1, hz, show ¬ 0 < nI 0 by decide, z_obs, z_pu_s, z_pu_n, z00, z10, ↓reduceIte, true_or, or_true, z_b_t, z_b_f, ne_eq, not_true_eq_false, and_false, oI]
          · obtain ⟨G3, b1, b2⟩ := a2.hour (E := E) N k
            have q3 := hr a2
            have cp : 0 < nI (rgH t j) := by rw [int_0]; exact nI_lt (by omega) (by omega)
            obtain ⟨G', g1, g2⟩ := ih (i + 1) _ G3 (by omega) b2
            refine ⟨G', ?_, g2⟩
            simp only [ne_eq, hz, not_false_eq_true, and_self, ↓reduceIte]
            rw [← g1, zr_X_forged_29]
            simp only [zr_X_forged_0, zr_X_forged_1, zr_X_forged_2, zr_X_forged_5, zr_X_forged_5n, zr_X_forged_6, zr_X_forged_6n, zr_X_forged_7, zr_X_forged_7n, zr_X_forged_10, zr_X_forged_11, zr_X_forged_12, zr_X_forged_15, zr_X_forged_16, zr_X_forged_17, zr_X_forged_20, zr_X_forged_21, zr_X_forged_24, zr_X_forged_27, zr_X_forged_28, zr_X_forged_30, zr_X_forged_30n, zr_X_forged_31, zr_X_forged_34, zr_X_forged_37, zr_X_forged_38, zr_X_forged_41, zr_X_forged_41n, zr_X_forged_42, zr_X_forged_43, zr_X_forged_46, zr_X_forged_49, zr_X_forged_52, zr_X_forged_53, zr_X_forged_54, zr_X_forged_55, zr_X_forged_58, zr_X_forged_61, zr_X_forged_64, zr_X_forged_67, zr_X_forged_69, q2.cls, q3.cls, sR_length _ _ _ q2, c, hP.1.f1, hP.mcls, a2.1.f1, a2.mcls, sR_at _ _ _ q2 r6, eat, ej, a1, b1, cp, z_obs, z_pu_s, z_pu_n, z00, z10, ↓reduceIte, true_or, or_true, z_b_t, z_b_f, nI_1]
    obtain ⟨G', k1, k2⟩ := key sz 0 s G1 (by omega) g2
    refine ⟨G', ?_, k2⟩
    simp only
    rw [← k1]
    rw [zm_X_forged, zr_X_forged_0, zr_X_forged_1, zr_X_forged_2 (hc := h.cls), r1]
    simp only [zr_X_forged_5, zr_X_forged_6, zr_X_forged_7, zr_X_forged_16, zr_X_forged_17, zr_X_forged_20, zr_X_forged_21, zr_X_forged_24, zr_X_forged_27, zr_X_forged_28, h.f0, h.f1, h.mcls, g1, z_obs, z_pu_s, z_pu_n, z00, z10, ↓reduceIte, true_or, or_true, z_b_t, z_b_f]
    rfl
theorem xDays (h : XW G x s ib u hs n) (w : WF s) (h2 : s 2 ≤ 999) (m z y : Int32) : ∃ G', z_evM E i_X_days lv [.ref x, .int m, .int z, .int y] N k G = some (some (.int (aDays s m z y)), N, k, G') ∧ XW G' x s ib u hs n ∧ XF x G G' := by
  have w1 := w.1
  unfold aDays
  cases hm : inAB m 1 20
  · refine ⟨G, ?_, h, XF.rf⟩
    rcases inAB_f hm with c | ⟨c1, c2, c3, c4⟩
    · simp only [zm_X_days, zr_X_days_0, zr_X_days_1, zr_X_days_2, zr_X_days_18, zr_X_days_19, show (1 : Int32) = nI 1 from rfl, c, ↓reduceIte, Bool.false_eq_true, false_and]
    · simp only [zm_X_days, zr_X_days_0, zr_X_days_1, zr_X_days_2, zr_X_days_5, zr_X_days_6, zr_X_days_8, zr_X_days_18, zr_X_days_19, show (1 : Int32) = nI 1 from rfl, show (20 : Int32) = nI 20 from rfl, c1, c4, ↓reduceIte, Bool.false_eq_true, false_and]
  · obtain ⟨c1, c2, c3, c4⟩ := inAB_t hm
    have c1' : ¬ m < 1 := c1
    have c4' : ¬ 20 < m := c4
    cases hy : is01 y
    · refine ⟨G, ?_, h, XF.rf⟩
      simp only [zm_X_days, zr_X_days_0, zr_X_days_1, zr_X_days_2, zr_X_days_5, zr_X_days_6, zr_X_days_8, zr_X_days_11, zr_X_days_12, zr_X_days_15, zr_X_days_18, zr_X_days_19, c1', c4', sX_is01, hy, z_obs, z_pu_s, z_pu_n, z00, z10, ↓reduceIte, true_or, or_true, z_b_t, z_b_f, Bool.false_eq_true, and_false]
    · by_cases hz : s 0 = 0
      · refine ⟨G, ?_, h, XF.rf⟩
        simp only [zm_X_days, zr_X_days_0, zr_X_days_1, zr_X_days_2, zr_X_days_5, zr_X_days_6, zr_X_days_8, zr_X_days_11, zr_X_days_12, zr_X_days_15, zr_X_days_20, zr_X_days_21, zr_X_days_24, zr_X_days_27, zr_X_days_30, zr_X_days_32, c1', c4', sX_is01, hy, h.f0, h.now.f8, hz, show (nI 0 = 0) = True from eq_true rfl, z_obs, z_pu_s, z_pu_n, z00, z10, ↓reduceIte, true_or, or_true, z_b_t, z_b_f, and_self]
      · obtain ⟨m, m1, m2, rfl⟩ := inAB_of (by decide) (by decide) hm
        rw [jN_nI (show m < 2 ^ 31 by omega)]
        have cz : ¬ nI (s 0) = 0 := nI_ne0 (by omega) (by omega)
        obtain ⟨G', _, e, p⟩ := z_loopG (fun i (a : Int32 × Nat) (jk : Option Value × Option Value) G => z_ev E i_X_days lv 42 [some (.ref x), some (.int (nI m)), some (.int z), some (.int y), some (.int a.1), some (.int (nI a.2)), some (.int (nI i)), jk.1] [] N k G) (dyO s y) (fun i a G' => XW G' x s ib u hs n ∧ FR (x + 10) 9 G G') m (fun a _ G => some (some (.int (nI a.2)), N, k, G)) (fun a _ G1 hP => by
          have c : nI m ≤ nI m := nI_le (Nat.le_refl _) (by omega)
          simp only [zr_X_days_42, zr_X_days_44, zr_X_days_45, zr_X_days_123, zr_X_days_125, c, z_obs, z_pu_s, z_pu_n, z00, z10, ↓reduceIte, true_or, or_true, z_b_t, z_b_f]) (fun i a jk G1 hi hP => by
          have c : ¬ nI m ≤ nI i := nI_ge hi (by omega)
          obtain ⟨G2, g1, g2⟩ := MI.take (E := E) N k hP.1 hP.2 w (Nat.le_refl (s 2))
          obtain ⟨G3, _, e3, p3⟩ := z_loopG (fun l (b : (Nat → Nat) × Int32 × Nat) (_ : Unit) G => z_ev E i_X_days lv 62 [some (.ref x), some (.int (nI m)), some (.int z), some (.int y), some (.int b.2.1), some (.int (nI b.2.2)), some (.int (nI i)), some (.int (nI l))] [] N k G) (dyI y) (fun l b G' => MI G x s ib u hs n (s 2 + l) b.1 G') 12 (fun b _ G => z_ev E i_X_days lv 42 [some (.ref x), some (.int (nI m)), some (.int z), some (.int y), some (.int b.2.1), some (.int (nI b.2.2)), some (.int (nI (i + 1))), some (.int (nI 12))] [] N k G) (fun b _ G3 hQ => by
            have c : nI 12 ≤ nI 12 := nI_le (Nat.le_refl _) (by omega)
            simp only [zr_X_days_62, zr_X_days_64, zr_X_days_66, zr_X_days_117, zr_X_days_120, show (12 : Int32) = nI 12 from rfl, c, z_obs, z_pu_s, z_pu_n, z00, z10, ↓reduceIte, true_or, or_true, z_b_t, z_b_f, nI_1]) (fun l b _ G3 hl hQ => by
            have c : ¬ nI 12 ≤ nI l := nI_ge hl (by omega)
            have h0 := hQ.2.2.2.2.1
            have hj : drN (s 0) (seN b.2.1) < s 0 := Nat.mod_lt _ (by omega)
            obtain ⟨G4, a1, a2⟩ := hQ.ring (E := E) N k hj
            obtain ⟨G5, b1, b2⟩ := a2.hour (E := E) N k
            have hv := hQ.rgle hj
            unfold dyI
            rw [h0]
            refine ⟨G5, (), ?_, b2⟩
            rw [zr_X_days_62]
            simp only [zr_X_days_0, zr_X_days_1, zr_X_days_2, zr_X_days_5, zr_X_days_6, zr_X_days_8, zr_X_days_11, zr_X_days_12, zr_X_days_15, zr_X_days_18, zr_X_days_19, zr_X_days_20, zr_X_days_21, zr_X_days_24, zr_X_days_27, zr_X_days_30, zr_X_days_32, zr_X_days_33, zr_X_days_34, zr_X_days_36, zr_X_days_37, zr_X_days_39, zr_X_days_40, zr_X_days_42, zr_X_days_44, zr_X_days_45, zr_X_days_48, zr_X_days_49, zr_X_days_52, zr_X_days_53, zr_X_days_56, zr_X_days_59, zr_X_days_60, zr_X_days_64, zr_X_days_66, zr_X_days_69, zr_X_days_71, zr_X_days_74, zr_X_days_76, zr_X_days_78, zr_X_days_79, zr_X_days_82, zr_X_days_83, zr_X_days_86, zr_X_days_89, zr_X_days_91, zr_X_days_94, zr_X_days_97, zr_X_days_98, zr_X_days_101, zr_X_days_102, zr_X_days_104, zr_X_days_105, zr_X_days_108, zr_X_days_111, zr_X_days_114, zr_X_days_117, zr_X_days_120, zr_X_days_123, zr_X_days_125, show (12 : Int32) = nI 12 from rfl, c, hQ.1.f1, hQ.1.f0, hQ.1.now.f8, hQ.mcls, a2.1.f1, a2.mcls, sX_nextSeed, sX_drawBelow _ _ _ _ (show 1 ≤ s 0 by omega) w1, a1, b1, sX_oo _ _ _ _ (show rgH b.1 (drN (s 0) (seN b.2.1)) < 2 ^ 31 by omega), z_obs, z_pu_s, z_pu_n, z00, z10, ↓reduceIte, true_or, or_true, z_b_t, z_b_f, nI_1, nI_add]) 12 0 (s, a) () G2 (by omega) g2
          refine ⟨G3, (some (.int (nI 12)), none), ?_, p3.1, p3.2.1⟩
          rw [show dyO s y i a = (foldN (dyI y) 12 0 (s, a)).2 from rfl, ← e3, zr_X_days_42]
          simp only [zr_X_days_44, zr_X_days_45, zr_X_days_48, zr_X_days_49, zr_X_days_52, zr_X_days_53, zr_X_days_56, zr_X_days_59, zr_X_days_60, c, hP.1.f0, hP.1.f1, hP.1.mcls, g1, z_obs, z_pu_s, z_pu_n, z00, z10, ↓reduceIte, true_or, or_true, z_b_t, z_b_f]
          rfl) m 0 (z, 0) (none, none) G (by omega) ⟨h, FR.rf⟩
        refine ⟨G', ?_, p.1, p.2.xf (by omega) (by omega)⟩
        simp only [and_self, ↓reduceIte, hz]
        rw [← e]
        simp only [zm_X_days, zr_X_days_0, zr_X_days_1, zr_X_days_2, zr_X_days_5, zr_X_days_6, zr_X_days_8, zr_X_days_11, zr_X_days_12, zr_X_days_15, zr_X_days_20, zr_X_days_21, zr_X_days_24, zr_X_days_27, zr_X_days_33, zr_X_days_34, zr_X_days_36, zr_X_days_37, zr_X_days_39, zr_X_days_40, c1', c4', sX_is01, hy, h.f0, h.now.f8, cz, z_obs, z_pu_s, z_pu_n, z00, z10, ↓reduceIte, true_or, or_true, z_b_t, z_b_f]
        rfl
end
