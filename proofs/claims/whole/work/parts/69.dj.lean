/-! THE MODEL: what would be -/
def MM (G0 : z_H) (a : Nat) (s : Nat → Nat) (ib : Bool) (u : Nat → Nat) (hs : Nat → Sh) (t : Nat → Nat) (G : z_H) : Prop := DW G a s ib u hs ∧ FR (a + 2) 1 G0 G ∧ IA G (a + 2) t ∧ WF t ∧ t 0 = s 0
section
variable {E : z_E} {G0 G : z_H} {a : Nat} {s u t : Nat → Nat} {ib : Bool} {hs : Nat → Sh} (lv N k : Nat)
theorem MM.ring (h : MM G0 a s ib u hs t G) {j : Nat} (hj : j < s 0) : ∃ G', z_evM E i_D_ringsIn 0 [.ref (a + 2), .int (nI j)] N k G = some (some (.int (nI (rgH t j))), N, k, G') ∧ MM G0 a s ib u hs (rgS t j) G' := by
  obtain ⟨h1, h2, h3, h4, h5⟩ := h
  obtain ⟨G', g1, g2, g3⟩ := sD_ringsIn (E := E) 0 N k h3 h4 (show j < t 0 by omega)
  exact ⟨G', g1, h1.nm g2.x g3, h2.tr g3, g2, rgS_WF h4 j, by rw [rgS_0]; exact h5⟩
theorem MM.hour (h : MM G0 a s ib u hs t G) : ∃ G', z_evM E i_D_hour 0 [.ref (a + 2)] N k G = some (none, N, k, G') ∧ MM G0 a s ib u hs (hrS t) G' := by
  obtain ⟨h1, h2, h3, h4, h5⟩ := h
  obtain ⟨G', g1, g2, g3⟩ := sD_hour (E := E) 0 N k h3 h4
  exact ⟨G', g1, h1.nm g2.x g3, h2.tr g3, g2, hrS_WF h4, by rw [hrS_0]; exact h5⟩
theorem MM.take (h : DW G a s ib u hs) (hf : FR (a + 2) 1 G0 G) (w : WF s) : ∃ G', z_evM E i_D_copies 0 [.ref (a + 1), .ref (a + 2)] N k G = some (none, N, k, G') ∧ MM G0 a s ib u hs s G' := by
  obtain ⟨G', g1, g2, g3⟩ := sD_copies (E := E) 0 N k h.st h.m (by omega)
  exact ⟨G', g1, h.nm g2.x g3, hf.tr g3, g2, w, rfl⟩
theorem MM.rgle (h : MM G0 a s ib u hs t G) {j : Nat} (hj : j < s 0) : rgH t j ≤ 125 := rgH_le h.2.2.2.1 (by have := h.2.2.2.2; omega)
theorem oo_0 {v : Nat} (hv : v < 2 ^ 31) : (nI v < 100) = (ooN v 0 = 0) := by
  unfold ooN
  rw [if_pos rfl]
  by_cases h : 100 ≤ v
  · rw [if_pos h]
    have : ¬ nI v < 100 := nI_nlt (b := 100) h hv
    simp [this]
  · rw [if_neg h]
    have : nI v < 100 := nI_lt (b := 100) (by omega) (by omega)
    simp [this]
theorem oo_0v {v : Nat} : ooN v 0 = 0 ∨ ooN v 0 = 1 := by unfold ooN; rw [if_pos rfl]; split <;> omega
theorem oo_1 {v : Nat} (hv : v ≤ 125) : nI v - nI v / 100 * 100 = nI (ooN v 1) := by
  have := z_rem2 (a := v) (d := 100) (by omega) (by omega) (by omega)
  rw [← pk_div (by omega) (by omega) (by omega)] at this
  rw [show (100 : Int32) = nI 100 from rfl, this]
  unfold ooN
  rw [if_neg (by decide)]
  split
  · rw [show v % 100 = v - 100 by omega]
  · rw [show v % 100 = v by omega]
def pk2 (y : Int32) (p : Nat × Nat) : Nat := if y = 0 then p.1 else p.2
theorem pk2_s {y : Int32} (hy : is01 y = true) (p : Nat × Nat) (v : Nat) : pk2 y (p.1 + ooN v 0, p.2 + ooN v 1) = pk2 y p + ooN v y := by
  rcases is01_of hy with rfl | rfl
  · rfl
  · rfl
def rvF (b : Nat) (a : (Nat → Nat) × (Nat × Nat)) : (Nat → Nat) × (Nat × Nat) := (rgS a.1 b, (a.2.1 + ooN (rgH a.1 b) 0, a.2.2 + ooN (rgH a.1 b) 1))
theorem dRun (h : DW G a s ib u hs) (w : WF s) (y : Int32) : ∃ G', z_evM E i_D_run lv [.ref a, .int y] N k G = some (some (.int (aRun s y)), N, k, G') ∧ DW G' a s ib u hs ∧ FR a 15 G G' := by
  have w1 := w.1
  unfold aRun
  cases hy : is01 y
  · refine ⟨G, ?_, h, FR.rf⟩
    simp only [zm_D_run, zr_D_run_0, zr_D_run_1, zr_D_run_2, zr_D_run_3, zr_D_run_6, zr_D_run_9, zr_D_run_10, sD_isIn, il_01, hy, z_obs, z_pu_s, z_pu_n, z00, z10, ↓reduceIte, true_or, or_true, z_b_t, z_b_f, Bool.false_eq_true]
  · obtain ⟨G1, g1, g2⟩ := MM.take (E := E) N k h FR.rf w
    have hsim := foldN_sim (f := rvF) (g := ruF y) (R := fun _ p q => p.1 = q.1 ∧ pk2 y p.2 = q.2) (s 0) 0 (s, (0, 0)) (s, 0) ⟨rfl, by unfold pk2; split <;> rfl⟩ (by
      intro j p q _ _ ⟨r1, r2⟩
      unfold rvF ruF
      refine ⟨by rw [r1], ?_⟩
      rw [pk2_s hy, r1, r2])
    obtain ⟨G', _, e, p⟩ := z_loopG (fun i (b : (Nat → Nat) × (Nat × Nat)) (jk : Option Value) G => z_ev E i_D_run lv 29 [some (.ref a), some (.int y), some (.int (nI b.2.1)), some (.int (nI b.2.2)), some (.int (nI i)), jk] [] N k G) rvF (fun i b G' => MM G a s ib u hs b.1 G') (s 0) (fun b _ G => some (some (.int (nI (pk2 y b.2))), N, k, G)) (fun b _ G1 hP => by
      have c : nI (s 0) ≤ nI (s 0) := nI_le (Nat.le_refl _) (by omega)
      unfold pk2
      by_cases h0 : y = 0
      · simp only [zr_D_run_29, zr_D_run_31, zr_D_run_32, zr_D_run_35, zr_D_run_36, zr_D_run_37, zr_D_run_80, zr_D_run_81, zr_D_run_84, zr_D_run_85, zr_D_run_88, zr_D_run_89, hP.1.f0, hP.1.st.r0, c, h0, z_obs, z_pu_s, z_pu_n, z00, z10, ↓reduceIte, true_or, or_true, z_b_t, z_b_f]
      · simp only [zr_D_run_29, zr_D_run_31, zr_D_run_32, zr_D_run_35, zr_D_run_36, zr_D_run_37, zr_D_run_80, zr_D_run_81, zr_D_run_84, zr_D_run_85, zr_D_run_88, zr_D_run_89, hP.1.f0, hP.1.st.r0, c, h0, z_obs, z_pu_s, z_pu_n, z00, z10, ↓reduceIte, true_or, or_true, z_b_t, z_b_f]) (fun i b _ G1 hi hP => by
      have c : ¬ nI (s 0) ≤ nI i := nI_ge hi (by omega)
      obtain ⟨G2, a1, a2⟩ := hP.ring (E := E) N k hi
      have hv := hP.rgle hi
      have o0 := oo_0 (show rgH b.1 i < 2 ^ 31 by omega)
      have o1 := oo_1 hv
      refine ⟨G2, some (.int (nI (rgH b.1 i))), ?_, a2⟩
      rw [zr_D_run_29]
      unfold rvF
      rcases oo_0v (v := rgH b.1 i) with z | z
      · simp only [zr_D_run_31, zr_D_run_32, zr_D_run_35, zr_D_run_36, zr_D_run_37, zr_D_run_40, zr_D_run_41, zr_D_run_44, zr_D_run_46, zr_D_run_49, zr_D_run_51, zr_D_run_52, zr_D_run_54, zr_D_run_56, zr_D_run_59, zr_D_run_60, zr_D_run_63, zr_D_run_64, zr_D_run_65, zr_D_run_66, zr_D_run_67, zr_D_run_69, zr_D_run_71, zr_D_run_72, zr_D_run_73, zr_D_run_74, zr_D_run_77, hP.1.f0, hP.1.f1, hP.1.st.r0, c, a1, o0, o1, z, show ¬ (100 : Int32) = 0 by decide, not_false_eq_true, z_obs, z_pu_s, z_pu_n, z00, z10, ↓reduceIte, true_or, or_true, z_b_t, z_b_f, nI_1, nI_add, pk_m0, show ∀ x : Int32, x + 0 = x from fun x => by simp]
        rfl
      · simp only [zr_D_run_31, zr_D_run_32, zr_D_run_35, zr_D_run_36, zr_D_run_37, zr_D_run_40, zr_D_run_41, zr_D_run_44, zr_D_run_46, zr_D_run_49, zr_D_run_51, zr_D_run_52, zr_D_run_54, zr_D_run_56, zr_D_run_59, zr_D_run_60, zr_D_run_63, zr_D_run_64, zr_D_run_65, zr_D_run_66, zr_D_run_67, zr_D_run_69, zr_D_run_71, zr_D_run_72, zr_D_run_73, zr_D_run_74, zr_D_run_77, hP.1.f0, hP.1.f1, hP.1.st.r0, c, a1, o0, o1, z, show ¬ (1 : Nat) = 0 by decide, show ¬ (100 : Int32) = 0 by decide, not_false_eq_true, z_obs, z_pu_s, z_pu_n, z00, z10, ↓reduceIte, true_or, or_true, z_b_t, z_b_f, nI_1, nI_add]) (s 0) 0 (s, (0, 0)) none G1 (by omega) g2
    refine ⟨G', ?_, p.1, fun q hq => p.2.1 q (by omega)⟩
    simp only [↓reduceIte]
    rw [← hsim.2, ← e]
    simp only [zm_D_run, zr_D_run_0, zr_D_run_1, zr_D_run_2, zr_D_run_3, zr_D_run_6, zr_D_run_9, zr_D_run_10, zr_D_run_11, zr_D_run_12, zr_D_run_15, zr_D_run_16, zr_D_run_19, zr_D_run_22, zr_D_run_23, zr_D_run_24, zr_D_run_25, zr_D_run_26, zr_D_run_27, sD_isIn, il_01, hy, h.f0, h.f1, g1, z_obs, z_pu_s, z_pu_n, z00, z10, ↓reduceIte, true_or, or_true, z_b_t, z_b_f]
    rfl
theorem dBehind (h : DW G a s ib u hs) (w : WF s) (b m y : Int32) : ∃ G', z_evM E i_D_behind lv [.ref a, .int b, .int m, .int y] N k G = some (some (.int (aBehind s b m y)), N, k, G') ∧ DW G' a s ib u hs ∧ FR a 15 G G' := by
  unfold aBehind
  cases hb : isB s b
  · refine ⟨G, ?_, h, FR.rf⟩
    simp only [zm_D_behind, zr_D_behind_0, zr_D_behind_1, zr_D_behind_2, zr_D_behind_5, zr_D_behind_8, zr_D_behind_9, zr_D_behind_10, zr_D_behind_12, zr_D_behind_15, zr_D_behind_18, zr_D_behind_19, zr_D_behind_20, zr_D_behind_21, zr_D_behind_24, zr_D_behind_27, zr_D_behind_28, h.cls, sD_isBell _ _ _ h w, hb, z_obs, z_pu_s, z_pu_n, z00, z10, ↓reduceIte, true_or, or_true, z_b_t, z_b_f, Bool.false_eq_true, false_and]
  · obtain ⟨j, hj, rfl⟩ := isB_of w hb
    cases hm : inAB m 0 60
    · refine ⟨G, ?_, h, FR.rf⟩
      simp only [zm_D_behind, zr_D_behind_0, zr_D_behind_1, zr_D_behind_2, zr_D_behind_5, zr_D_behind_8, zr_D_behind_9, zr_D_behind_10, zr_D_behind_12, zr_D_behind_15, zr_D_behind_18, zr_D_behind_19, zr_D_behind_20, zr_D_behind_21, zr_D_behind_24, zr_D_behind_27, zr_D_behind_28, h.cls, sD_isBell _ _ _ h w, hb, sD_isIn, show inL m 0 60 = inAB m 0 60 from rfl, hm, z_obs, z_pu_s, z_pu_n, z00, z10, ↓reduceIte, true_or, or_true, z_b_t, z_b_f, Bool.false_eq_true, false_and, and_false]
    · cases hy : is01 y
      · refine ⟨G, ?_, h, FR.rf⟩
        simp only [zm_D_behind, zr_D_behind_0, zr_D_behind_1, zr_D_behind_2, zr_D_behind_5, zr_D_behind_8, zr_D_behind_9, zr_D_behind_10, zr_D_behind_12, zr_D_behind_15, zr_D_behind_18, zr_D_behind_19, zr_D_behind_20, zr_D_behind_21, zr_D_behind_24, zr_D_behind_27, zr_D_behind_28, h.cls, sD_isBell _ _ _ h w, hb, sD_isIn, show inL m 0 60 = inAB m 0 60 from rfl, il_01, hm, hy, z_obs, z_pu_s, z_pu_n, z00, z10, ↓reduceIte, true_or, or_true, z_b_t, z_b_f, Bool.false_eq_true, and_false]
      · obtain ⟨m, m1, m2, rfl⟩ := inAB_of (by decide) (by decide) hm
        rw [jNb w hj, jN_nI (show m < 2 ^ 31 by omega)]
        obtain ⟨G1, g1, g2⟩ := MM.take (E := E) N k h FR.rf w
        obtain ⟨G', _, e, p⟩ := z_loopG (fun i (b : bhA) (_ : Unit) G => z_ev E i_D_behind lv 50 [some (.ref a), some (.int (nI j)), some (.int (nI m)), some (.int y), some (.int (nI b.2.1)), some (.int (oI b.2.2)), some (.int (nI i))] [] N k G) (bhF j) (fun i b G' => MM G a s ib u hs b.1 G') m (fun b _ G => some (some (.int (if y = 0 then nI b.2.1 else oI b.2.2)), N, k, G)) (fun b _ G1 hP => by
          have c : nI m ≤ nI m := nI_le (Nat.le_refl _) (by omega)
          by_cases h0 : y = 0
          · simp only [zr_D_behind_50, zr_D_behind_52, zr_D_behind_53, zr_D_behind_96, zr_D_behind_97, zr_D_behind_100, zr_D_behind_102, zr_D_behind_105, zr_D_behind_107, c, h0, z_obs, z_pu_s, z_pu_n, z00, z10, ↓reduceIte, true_or, or_true, z_b_t, z_b_f]
          · simp only [zr_D_behind_50, zr_D_behind_52, zr_D_behind_53, zr_D_behind_96, zr_D_behind_97, zr_D_behind_100, zr_D_behind_102, zr_D_behind_105, zr_D_behind_107, c, h0, z_obs, z_pu_s, z_pu_n, z00, z10, ↓reduceIte, true_or, or_true, z_b_t, z_b_f]) (fun i b _ G1 hi hP => by
          have c : ¬ nI m ≤ nI i := nI_ge hi (by omega)
          obtain ⟨G2, a1, a2⟩ := hP.ring (E := E) N k hj
          obtain ⟨G3, b1, b2⟩ := a2.hour (E := E) N k
          have hv := hP.rgle hj
          have o0 := oo_0 (show rgH b.1 j < 2 ^ 31 by omega)
          refine ⟨G3, (), ?_, b2⟩
          rw [zr_D_behind_50]
          unfold bhF
          rcases oo_0v (v := rgH b.1 j) with z | z
          · simp only [zr_D_behind_52, zr_D_behind_53, zr_D_behind_56, zr_D_behind_57, zr_D_behind_60, zr_D_behind_61, zr_D_behind_64, zr_D_behind_66, zr_D_behind_68, zr_D_behind_70, zr_D_behind_72, zr_D_behind_75, zr_D_behind_76, zr_D_behind_79, zr_D_behind_80, zr_D_behind_81, zr_D_behind_83, zr_D_behind_84, zr_D_behind_87, zr_D_behind_90, zr_D_behind_93, hP.1.f1, a2.1.f1, c, a1, b1, o0, z, z_obs, z_pu_s, z_pu_n, z00, z10, ↓reduceIte, true_or, or_true, z_b_t, z_b_f, nI_1, oI, Nat.add_zero, show ∀ x : Int32, x + 0 = x from fun x => by simp]
          · simp only [zr_D_behind_52, zr_D_behind_53, zr_D_behind_56, zr_D_behind_57, zr_D_behind_60, zr_D_behind_61, zr_D_behind_64, zr_D_behind_66, zr_D_behind_68, zr_D_behind_70, zr_D_behind_72, zr_D_behind_75, zr_D_behind_76, zr_D_behind_79, zr_D_behind_80, zr_D_behind_81, zr_D_behind_83, zr_D_behind_84, zr_D_behind_87, zr_D_behind_90, zr_D_behind_93, hP.1.f1, a2.1.f1, c, a1, b1, o0, z, show ¬ (1 : Nat) = 0 by decide, z_obs, z_pu_s, z_pu_n, z00, z10, ↓reduceIte, true_or, or_true, z_b_t, z_b_f, nI_1, oI]) m 0 (s, 0, none) () G1 (by omega) g2
        refine ⟨G', ?_, p.1, fun q hq => p.2.1 q (by omega)⟩
        simp only [and_self, ↓reduceIte]
        rw [← e]
        simp only [zm_D_behind, zr_D_behind_0, zr_D_behind_1, zr_D_behind_2, zr_D_behind_5, zr_D_behind_8, zr_D_behind_9, zr_D_behind_10, zr_D_behind_12, zr_D_behind_15, zr_D_behind_18, zr_D_behind_19, zr_D_behind_20, zr_D_behind_21, zr_D_behind_24, zr_D_behind_27, zr_D_behind_28, zr_D_behind_29, zr_D_behind_30, zr_D_behind_33, zr_D_behind_34, zr_D_behind_37, zr_D_behind_40, zr_D_behind_41, zr_D_behind_43, zr_D_behind_45, zr_D_behind_47, zr_D_behind_48, h.cls, sD_isBell _ _ _ h w, hb, sD_isIn, show inL (nI m) 0 60 = inAB (nI m) 0 60 from rfl, il_01, hm, hy, h.f0, h.f1, g1, z_obs, z_pu_s, z_pu_n, z00, z10, ↓reduceIte, true_or, or_true, z_b_t, z_b_f]
        rfl
theorem dForged (h : DW G a s ib u hs) (w : WF s) (d : Int32) : ∃ G', z_evM E i_D_forged lv [.ref a, .int d] N k G = some (some (.int (aForged s hs d)), N, k, G') ∧ DW G' a s ib u hs ∧ FR a 15 G G' := by
  unfold aForged
  have w1 := w.1
  by_cases hl : lkR hs d ≠ 0
  · rw [if_pos hl]
    refine ⟨G, ?_, h, FR.rf⟩
    simp only [zm_D_forged, zr_D_forged_0, zr_D_forged_1, zr_D_forged_2, zr_D_forged_3, zr_D_forged_6, zr_D_forged_7, zr_D_forged_8, zr_D_forged_11, zr_D_forged_12, h.cls, sD_wrongRow _ _ _ h, hl, z_obs, z_pu_s, z_pu_n, z00, z10, ↓reduceIte, true_or, or_true, z_b_t, z_b_f]
  · rw [if_neg hl]
    have hl0 : lkR hs d = 0 := by simpa using hl
    obtain ⟨d, so, sz, el, hd, rfl, e⟩ := lkR_ro hl
    rw [jN_nI (show d < 2 ^ 31 by omega), e]
    obtain ⟨G1, g1, g2⟩ := MM.take (E := E) N k h FR.rf w
    have key : ∀ m i t G1 (jk : Option Value), i + m = sz → MM G a s ib u hs t G1 → ∃ G', z_ev E i_D_forged lv 26 [some (.ref a), some (.int (nI d)), some (.int 0), some (.int (nI i)), jk] [] N k G1 = some (some (.int (oI (fgR el m i t))), N, k, G') ∧ DW G' a s ib u hs ∧ FR a 15 G G' := by
      intro m
      induction m with
      | zero =>
        intro i t G1 jk hi hP
        have : i = sz := by omega
        subst this
        obtain ⟨-, -, r3, -⟩ := hP.1.ro (E := E) hd e
        have c : nI i ≤ nI i := nI_le (Nat.le_refl _) (by have := (hP.1.ro (E := E) hd e).2.2.2.2.1; omega)
        refine ⟨G1, ?_, hP.1, fun q hq => hP.2.1 q (by omega)⟩
        simp only [zr_D_forged_26, zr_D_forged_27, zr_D_forged_28, zr_D_forged_31, zr_D_forged_32, zr_D_forged_33, zr_D_forged_85, zr_D_forged_87, hP.1.f18, r3, c, z_obs, z_pu_s, z_pu_n, z00, z10, ↓reduceIte, true_or, or_true, z_b_t, z_b_f]
        rfl
      | succ m ih =>
        intro i t G1 jk hi hP
        obtain ⟨-, -, r3, -, r5, r6⟩ := hP.1.ro (E := E) hd e
        have c : ¬ nI sz ≤ nI i := nI_ge (by omega) (by omega)
        have hB : isB s (el i) = isB t (el i) := by unfold isB; rw [hP.2.2.2.2]
        unfold fgR
        cases hb : isB t (el i)
        · rw [hb] at hB
          refine ⟨G1, ?_, hP.1, fun q hq => hP.2.1 q (by omega)⟩
          rw [zr_D_forged_26]
          simp only [zr_D_forged_27, zr_D_forged_28, zr_D_forged_31, zr_D_forged_32, zr_D_forged_33, zr_D_forged_36, zr_D_forged_37, zr_D_forged_40, zr_D_forged_42, zr_D_forged_43, zr_D_forged_44, zr_D_forged_45, zr_D_forged_46, zr_D_forged_47, zr_D_forged_49, zr_D_forged_50, zr_D_forged_52, zr_D_forged_55, zr_D_forged_58, zr_D_forged_59, zr_D_forged_62, zr_D_forged_64, zr_D_forged_67, zr_D_forged_70, zr_D_forged_71, hP.1.f18, hP.1.f19, r3, c, int_100, pk_mul, nI_add, r6 i (by omega), hP.1.cls, sD_isBell _ _ _ hP.1 w, hB, z_obs, z_pu_s, z_pu_n, z00, z10, ↓reduceIte, true_or, or_true, z_b_t, z_b_f, Bool.false_eq_true, false_and, oI]
        · rw [hb] at hB
          obtain ⟨j, hj, ej⟩ := isB_of hP.2.2.2.1 hb
          have hj' : j < s 0 := by have := hP.2.2.2.2; omega
          have hv := hP.rgle hj'
          obtain ⟨G2, a1, a2⟩ := hP.ring (E := E) N k hj'
          rw [ej] at hB
          rw [ej, jN_nI (show j < 2 ^ 31 by omega)]
          by_cases hz : rgH t j = 0
          · refine ⟨G2, ?_, a2.1, fun q hq => a2.2.1 q (by omega)⟩
            rw [zr_D_forged_26]
            simp only [zr_D_forged_27, zr_D_forged_28, zr_D_forged_31, zr_D_forged_32, zr_D_forged_33, zr_D_forged_36, zr_D_forged_37, zr_D_forged_40, zr_D_forged_42, zr_D_forged_43, zr_D_forged_44, zr_D_forged_45, zr_D_forged_46, zr_D_forged_47, zr_D_forged_49, zr_D_forged_50, zr_D_forged_52, zr_D_forged_55, zr_D_forged_58, zr_D_forged_59, zr_D_forged_62, zr_D_forged_64, zr_D_forged_67, zr_D_forged_70, zr_D_forged_71, hP.1.f18, hP.1.f19, r3, c, int_100, pk_mul, nI_add, r6 i (by omega), ej, hP.1.cls, hP.1.f1, sD_isBell _ _ _ hP.1 w, hB, a1, hz, show (nI 0 = 0) = True from eq_true rfl, z_obs, z_pu_s, z_pu_n, z00, z10, ↓reduceIte, true_or, or_true, z_b_t, z_b_f, ne_eq, not_true_eq_false, and_false, oI]
          · obtain ⟨G3, b1, b2⟩ := a2.hour (E := E) N k
            have cp : ¬ nI (rgH t j) = 0 := nI_ne0 (by omega) (by omega)
            obtain ⟨G', g1, g2⟩ := ih (i + 1) _ G3 (some (.int (nI j))) (by omega) b2
            refine ⟨G', ?_, g2⟩
            simp only [ne_eq, hz, not_false_eq_true, and_self, ↓reduceIte]
            rw [← g1, zr_D_forged_26]
            simp only [zr_D_forged_27, zr_D_forged_28, zr_D_forged_31, zr_D_forged_32, zr_D_forged_33, zr_D_forged_36, zr_D_forged_37, zr_D_forged_40, zr_D_forged_42, zr_D_forged_43, zr_D_forged_44, zr_D_forged_45, zr_D_forged_46, zr_D_forged_47, zr_D_forged_49, zr_D_forged_50, zr_D_forged_52, zr_D_forged_55, zr_D_forged_58, zr_D_forged_59, zr_D_forged_62, zr_D_forged_64, zr_D_forged_67, zr_D_forged_70, zr_D_forged_71, zr_D_forged_72, zr_D_forged_73, zr_D_forged_76, zr_D_forged_79, zr_D_forged_82, hP.1.f18, hP.1.f19, r3, c, int_100, pk_mul, nI_add, r6 i (by omega), ej, hP.1.cls, hP.1.f1, a2.1.f1, sD_isBell _ _ _ hP.1 w, hB, a1, b1, cp, z_obs, z_pu_s, z_pu_n, z00, z10, ↓reduceIte, true_or, or_true, z_b_t, z_b_f, nI_1]
    obtain ⟨G', k1, k2⟩ := key sz 0 s G1 none (by omega) g2
    refine ⟨G', ?_, k2⟩
    dsimp only
    rw [← k1]
    simp only [zm_D_forged, zr_D_forged_0, zr_D_forged_1, zr_D_forged_2, zr_D_forged_3, zr_D_forged_6, zr_D_forged_7, zr_D_forged_8, zr_D_forged_11, zr_D_forged_12, zr_D_forged_13, zr_D_forged_14, zr_D_forged_17, zr_D_forged_18, zr_D_forged_21, zr_D_forged_24, zr_D_forged_25, h.cls, sD_wrongRow _ _ _ h, hl0, h.f0, h.f1, g1, z_obs, z_pu_s, z_pu_n, z00, z10, ↓reduceIte, true_or, or_true, z_b_t, z_b_f]
    rfl
theorem sD_drawn (h : DW G a s ib u hs) {z : Int32} (hz : z_gf G a [13, 12, 12, 0, 0] = some (.int z)) {m : Nat} (h1 : 1 ≤ m) (h6 : m ≤ 6) : ∃ G', z_evM E i_D_drawn lv [.ref a, .int (nI m)] N k G = some (some (.int (nI (drN m (seN z)))), N, k, G') ∧ DW G' a s ib u hs ∧ (∀ q, q ≠ a → G' q = G q) ∧ z_gf G' a [13, 12, 12, 0, 0] = some (.int (seN z)) := by
  obtain ⟨q, hq⟩ := h.o
  have p := DW.pf (b := false) hq 13 (by omega) (seN z)
  have r : z_gf (z_up G a (.inl (12, dFs a (z_b ib) (uI q 13 (seN z))))) a [13, 12, 12, 0, 0] = some (.int (seN z)) := z_gfI (z_up_s _ _ _) (by decide) (by decide) rfl
  obtain ⟨a1, a2⟩ := and_num (seN z)
  have c1 : ¬ (65536 : Int32) = 0 := by decide
  have c2 : ¬ nI m = 0 := nI_ne0 (by omega) (by omega)
  have e1 : nI (jN (seN z &&& 2147483647)) / 65536 = nI (jN (seN z &&& 2147483647) / 65536) := pk_div a1 (show 0 < 65536 by decide) (by decide)
  have e2 : jN (seN z &&& 2147483647) / 65536 < 2 ^ 31 := Nat.lt_of_le_of_lt (Nat.div_le_self _ _) a1
  have es : z * 1103515245 + 12345 = seN z := rfl
  refine ⟨_, ?_, h.no, fun x hx => z_up_n _ _ hx, r⟩
  simp only [zm_D_drawn, zr_D_drawn_0, zr_D_drawn_1, zr_D_drawn_2, zr_D_drawn_5, zr_D_drawn_7, zr_D_drawn_8, zr_D_drawn_11, zr_D_drawn_12, zr_D_drawn_15, zr_D_drawn_16, zr_D_drawn_19, zr_D_drawn_21, zr_D_drawn_22, zr_D_drawn_24, zr_D_drawn_25, zr_D_drawn_26, zr_D_drawn_27, hz, es, p, r, z_obs, z_pu_s, z_pu_n, z00, z10, ↓reduceIte, true_or, or_true, z_b_t, z_b_f, c1, c2, not_false_eq_true]
  rw [a2, e1]
  simp only [pk_div e2 (show 0 < m by omega) (show m < 2 ^ 31 by omega), z_rem2 e2 (show 0 < m by omega) (show m < 2 ^ 31 by omega)]
  rfl
/-- days: what is in mind, and the seed -/
def MZ (G0 : z_H) (a : Nat) (s : Nat → Nat) (ib : Bool) (u : Nat → Nat) (hs : Nat → Sh) (z : Int32) (G : z_H) : Prop := DW G a s ib u hs ∧ (∀ q, q ≠ a → q ≠ a + 2 → G q = G0 q) ∧ z_gf G a [13, 12, 12, 0, 0] = some (.int z)
def dzI (_ : Nat) (b : (Nat → Nat) × (Int32 × (Nat × Nat))) : (Nat → Nat) × (Int32 × (Nat × Nat)) := (hrS (rgS b.1 (drN (b.1 0) (seN b.2.1))), (seN b.2.1, (b.2.2.1 + ooN (rgH b.1 (drN (b.1 0) (seN b.2.1))) 0, b.2.2.2 + ooN (rgH b.1 (drN (b.1 0) (seN b.2.1))) 1)))
def dzO (s : Nat → Nat) (_ : Nat) (c : Int32 × (Nat × Nat)) : Int32 × (Nat × Nat) := (foldN dzI 12 0 (s, c)).2
theorem dz_sim (s : Nat → Nat) {y : Int32} (hy : is01 y = true) (m : Nat) (z : Int32) : (foldN (dzO s) m 0 (z, (0, 0))).1 = (foldN (dyO s y) m 0 (z, 0)).1 ∧ pk2 y (foldN (dzO s) m 0 (z, (0, 0))).2 = (foldN (dyO s y) m 0 (z, 0)).2 := by
  refine foldN_sim (f := dzO s) (g := dyO s y) (R := fun _ p q => p.1 = q.1 ∧ pk2 y p.2 = q.2) m 0 (z, (0, 0)) (z, 0) ⟨rfl, by unfold pk2; split <;> rfl⟩ ?_
  intro j p q _ _ ⟨r1, r2⟩
  have := foldN_sim (f := dzI) (g := dyI y) (R := fun _ p q => p.1 = q.1 ∧ p.2.1 = q.2.1 ∧ pk2 y p.2.2 = q.2.2) 12 0 (s, p) (s, q) ⟨rfl, r1, r2⟩ (by
    intro j p q _ _ ⟨t1, t2, t3⟩
    unfold dzI dyI
    refine ⟨by rw [t1, t2], by rw [t2], ?_⟩
    rw [pk2_s hy, t1, t2, t3])
  exact this.2
theorem dDays (h : DW G a s ib u hs) (w : WF s) (m z y : Int32) : ∃ G', z_evM E i_D_days lv [.ref a, .int m, .int z, .int y] N k G = some (some (.int (aDays s m z y)), N, k, G') ∧ DW G' a s ib u hs ∧ FR a 15 G G' := by
  have w1 := w.1
  unfold aDays
  cases hm : inAB m 1 20
  · refine ⟨G, ?_, h, FR.rf⟩
    simp only [zm_D_days, zr_D_days_0, zr_D_days_1, zr_D_days_2, zr_D_days_4, zr_D_days_7, zr_D_days_10, zr_D_days_11, zr_D_days_12, zr_D_days_13, zr_D_days_16, zr_D_days_19, zr_D_days_20, sD_isIn, show inL m 1 20 = inAB m 1 20 from rfl, hm, z_obs, z_pu_s, z_pu_n, z00, z10, ↓reduceIte, true_or, or_true, z_b_t, z_b_f, Bool.false_eq_true, false_and]
  · cases hy : is01 y
    · refine ⟨G, ?_, h, FR.rf⟩
      simp only [zm_D_days, zr_D_days_0, zr_D_days_1, zr_D_days_2, zr_D_days_4, zr_D_days_7, zr_D_days_10, zr_D_days_11, zr_D_days_12, zr_D_days_13, zr_D_days_16, zr_D_days_19, zr_D_days_20, sD_isIn, show inL m 1 20 = inAB m 1 20 from rfl, il_01, hm, hy, z_obs, z_pu_s, z_pu_n, z00, z10, ↓reduceIte, true_or, or_true, z_b_t, z_b_f, Bool.false_eq_true, and_false]
    · obtain ⟨m, m1, m2, rfl⟩ := inAB_of (by decide) (by decide) hm
      rw [jN_nI (show m < 2 ^ 31 by omega)]
      simp only [and_self, ↓reduceIte]
      by_cases hz : s 0 = 0
      · rw [if_pos hz]
        refine ⟨G, ?_, h, FR.rf⟩
        simp only [zm_D_days, zr_D_days_0, zr_D_days_1, zr_D_days_2, zr_D_days_4, zr_D_days_7, zr_D_days_10, zr_D_days_11, zr_D_days_12, zr_D_days_13, zr_D_days_16, zr_D_days_19, zr_D_days_20, zr_D_days_21, zr_D_days_22, zr_D_days_25, zr_D_days_26, zr_D_days_27, zr_D_days_30, zr_D_days_32, sD_isIn, show inL (nI m) 1 20 = inAB (nI m) 1 20 from rfl, il_01, hm, hy, h.f0, h.st.r0, hz, show (nI 0 = 0) = True from eq_true rfl, z_obs, z_pu_s, z_pu_n, z00, z10, ↓reduceIte, true_or, or_true, z_b_t, z_b_f]
      · rw [if_neg hz]
        have cz : ¬ nI (s 0) = 0 := nI_ne0 (by omega) (by omega)
        obtain ⟨q0, hq0⟩ := h.o
        have p0 := DW.pf (b := false) hq0 13 (by omega) z
        have hMZ0 : MZ G a s ib u hs z (z_up G a (.inl (12, dFs a (z_b ib) (uI q0 13 z)))) := ⟨h.no, fun q q1 _ => z_up_n _ _ q1, z_gfI (z_up_s _ _ _) (by decide) (by decide) rfl⟩
        obtain ⟨hs1, hs2⟩ := dz_sim s hy m z
        obtain ⟨G', _, e, p⟩ := z_loopG (fun i (b : Int32 × (Nat × Nat)) (jk : Option Value × Option Value) G => z_ev E i_D_days lv 47 [some (.ref a), some (.int (nI m)), some (.int z), some (.int y), some (.int (nI b.2.1)), some (.int (nI b.2.2)), some (.int (nI i)), jk.1, jk.2] [] N k G) (dzO s) (fun i b G' => MZ G a s ib u hs b.1 G') m (fun b _ G => some (some (.int (nI (pk2 y b.2))), N, k, G)) (fun b _ G1 hP => by
          have c : nI m ≤ nI m := nI_le (Nat.le_refl _) (by omega)
          unfold pk2
          by_cases h0 : y = 0
          · simp only [zr_D_days_47, zr_D_days_49, zr_D_days_50, zr_D_days_139, zr_D_days_140, zr_D_days_143, zr_D_days_145, zr_D_days_148, zr_D_days_150, c, h0, z_obs, z_pu_s, z_pu_n, z00, z10, ↓reduceIte, true_or, or_true, z_b_t, z_b_f]
          · simp only [zr_D_days_47, zr_D_days_49, zr_D_days_50, zr_D_days_139, zr_D_days_140, zr_D_days_143, zr_D_days_145, zr_D_days_148, zr_D_days_150, c, h0, z_obs, z_pu_s, z_pu_n, z00, z10, ↓reduceIte, true_or, or_true, z_b_t, z_b_f]) (fun i b jk G1 hi hP => by
          have c : ¬ nI m ≤ nI i := nI_ge hi (by omega)
          obtain ⟨h1, h2, h3⟩ := hP
          obtain ⟨G2, g1, g2⟩ := MM.take (E := E) N k h1 FR.rf w
          have hz2 : z_gf G2 a [13, 12, 12, 0, 0] = some (.int b.1) := by
            unfold z_gf at h3 ⊢
            rw [g2.2.1 a (by omega)]
            exact h3
          obtain ⟨G3, jk3, e3, p3⟩ := z_loopG (fun l (b : (Nat → Nat) × (Int32 × (Nat × Nat))) (jk : Option Value) G => z_ev E i_D_days lv 67 [some (.ref a), some (.int (nI m)), some (.int z), some (.int y), some (.int (nI b.2.2.1)), some (.int (nI b.2.2.2)), some (.int (nI i)), some (.int (nI l)), jk] [] N k G) dzI (fun l b G' => MZ G a s ib u hs b.2.1 G' ∧ IA G' (a + 2) b.1 ∧ WF b.1 ∧ b.1 0 = s 0) 12 (fun b jk G => z_ev E i_D_days lv 47 [some (.ref a), some (.int (nI m)), some (.int z), some (.int y), some (.int (nI b.2.2.1)), some (.int (nI b.2.2.2)), some (.int (nI (i + 1))), some (.int (nI 12)), jk] [] N k G) (fun b jk G3 hQ => by
            have c : nI 12 ≤ nI 12 := nI_le (Nat.le_refl _) (by omega)
            simp only [zr_D_days_67, zr_D_days_69, zr_D_days_71, zr_D_days_133, zr_D_days_136, show (12 : Int32) = nI 12 from rfl, c, z_obs, z_pu_s, z_pu_n, z00, z10, ↓reduceIte, true_or, or_true, z_b_t, z_b_f, nI_1]) (fun l b jk G3 hl hQ => by
            have c : ¬ nI 12 ≤ nI l := nI_ge hl (by omega)
            obtain ⟨⟨t1, t2, t3⟩, t4, t5, t6⟩ := hQ
            obtain ⟨G4, d1, d2, d3, d4⟩ := sD_drawn (E := E) 0 N k t1 t3 (show 1 ≤ s 0 by omega) w1
            have hj : drN (s 0) (seN b.2.1) < s 0 := Nat.mod_lt _ (by omega)
            have hmm : MM G4 a s ib u hs b.1 G4 := ⟨d2, FR.rf, t4.mono (d3 _ (by omega)), t5, t6⟩
            obtain ⟨G5, a1, a2⟩ := hmm.ring (E := E) N k hj
            obtain ⟨G6, b1, b2⟩ := a2.hour (E := E) N k
            have hv := hmm.rgle hj
            have o0 := oo_0 (show rgH b.1 (drN (s 0) (seN b.2.1)) < 2 ^ 31 by omega)
            have o1 := oo_1 hv
            have hz6 : z_gf G6 a [13, 12, 12, 0, 0] = some (.int (seN b.2.1)) := by
              unfold z_gf at d4 ⊢
              rw [b2.2.1 a (by omega)]
              exact d4
            unfold dzI
            rw [t6]
            refine ⟨G6, some (.int (nI (rgH b.1 (drN (s 0) (seN b.2.1))))), ?_, ⟨b2.1, fun q q1 q2 => by rw [b2.2.1 q (by omega), d3 q q1, t2 q q1 q2], hz6⟩, b2.2.2.1, b2.2.2.2.1, b2.2.2.2.2⟩
            rw [zr_D_days_67]
            rcases oo_0v (v := rgH b.1 (drN (s 0) (seN b.2.1))) with zz | zz
            · simp only [zr_D_days_69, zr_D_days_71, zr_D_days_74, zr_D_days_75, zr_D_days_78, zr_D_days_79, zr_D_days_80, zr_D_days_83, zr_D_days_84, zr_D_days_85, zr_D_days_88, zr_D_days_91, zr_D_days_93, zr_D_days_95, zr_D_days_97, zr_D_days_99, zr_D_days_102, zr_D_days_103, zr_D_days_106, zr_D_days_107, zr_D_days_108, zr_D_days_110, zr_D_days_112, zr_D_days_114, zr_D_days_116, zr_D_days_117, zr_D_days_118, zr_D_days_120, zr_D_days_121, zr_D_days_124, zr_D_days_127, zr_D_days_130, show (12 : Int32) = nI 12 from rfl, c, t1.f1, t1.f0, t1.st.r0, t1.cls, d1, a1, a2.1.f1, b1, o0, o1, zz, show ¬ (100 : Int32) = 0 by decide, not_false_eq_true, z_obs, z_pu_s, z_pu_n, z00, z10, ↓reduceIte, true_or, or_true, z_b_t, z_b_f, nI_1, nI_add, Nat.add_zero, show ∀ x : Int32, x + 0 = x from fun x => by simp]
            · simp only [zr_D_days_69, zr_D_days_71, zr_D_days_74, zr_D_days_75, zr_D_days_78, zr_D_days_79, zr_D_days_80, zr_D_days_83, zr_D_days_84, zr_D_days_85, zr_D_days_88, zr_D_days_91, zr_D_days_93, zr_D_days_95, zr_D_days_97, zr_D_days_99, zr_D_days_102, zr_D_days_103, zr_D_days_106, zr_D_days_107, zr_D_days_108, zr_D_days_110, zr_D_days_112, zr_D_days_114, zr_D_days_116, zr_D_days_117, zr_D_days_118, zr_D_days_120, zr_D_days_121, zr_D_days_124, zr_D_days_127, zr_D_days_130, show (12 : Int32) = nI 12 from rfl, c, t1.f1, t1.f0, t1.st.r0, t1.cls, d1, a1, a2.1.f1, b1, o0, o1, zz, show ¬ (1 : Nat) = 0 by decide, show ¬ (100 : Int32) = 0 by decide, not_false_eq_true, z_obs, z_pu_s, z_pu_n, z00, z10, ↓reduceIte, true_or, or_true, z_b_t, z_b_f, nI_1, nI_add]) 12 0 (s, b) jk.2 G2 (by omega) ⟨⟨g2.1, fun q q1 q2 => by rw [g2.2.1 q (by omega), h2 q q1 q2], hz2⟩, g2.2.2.1, w, rfl⟩
          refine ⟨G3, (some (.int (nI 12)), jk3), ?_, p3.1⟩
          rw [show dzO s i b = (foldN dzI 12 0 (s, b)).2 from rfl, ← e3, zr_D_days_47]
          simp only [zr_D_days_49, zr_D_days_50, zr_D_days_53, zr_D_days_54, zr_D_days_57, zr_D_days_58, zr_D_days_61, zr_D_days_64, zr_D_days_65, c, h1.f0, h1.f1, g1, z_obs, z_pu_s, z_pu_n, z00, z10, ↓reduceIte, true_or, or_true, z_b_t, z_b_f]
          rfl) m 0 (z, (0, 0)) (none, none) _ (by omega) hMZ0
        refine ⟨G', ?_, p.1, fun q hq => p.2.1 q (by omega) (by omega)⟩
        rw [← hs2, ← e]
        simp only [zm_D_days, zr_D_days_0, zr_D_days_1, zr_D_days_2, zr_D_days_4, zr_D_days_7, zr_D_days_10, zr_D_days_11, zr_D_days_12, zr_D_days_13, zr_D_days_16, zr_D_days_19, zr_D_days_20, zr_D_days_21, zr_D_days_22, zr_D_days_25, zr_D_days_26, zr_D_days_27, zr_D_days_30, zr_D_days_32, zr_D_days_33, zr_D_days_34, zr_D_days_35, zr_D_days_38, zr_D_days_39, zr_D_days_41, zr_D_days_42, zr_D_days_44, zr_D_days_45, sD_isIn, show inL (nI m) 1 20 = inAB (nI m) 1 20 from rfl, il_01, hm, hy, h.f0, h.st.r0, cz, p0, z_obs, z_pu_s, z_pu_n, z00, z10, ↓reduceIte, true_or, or_true, z_b_t, z_b_f]
        rfl
end
