/-! THE MODEL: a marsh -/
theorem isB_iff {s : Nat → Nat} (w : WF s) {g : Nat} (hg : g < 2 ^ 31) : isB s (nI g) = decide (g < s 0) := by
  have w1 := w.1
  by_cases h : g < s 0
  · rw [isB_nI w h, decide_eq_true h]
  · rw [decide_eq_false h]
    cases h1 : isB s (nI g)
    · rfl
    · obtain ⟨j, e1, e2⟩ := isB_of w h1
      have := (nI_eq hg (by omega)).mp e2
      omega
theorem inR_iff {g M : Nat} (hg : g < 2 ^ 31) (hM : M < 2 ^ 31) : inR (nI g) M = decide (g < M) := by
  by_cases h : g < M
  · rw [inR_nI hM h, decide_eq_true h]
  · rw [decide_eq_false h]
    cases h1 : inR (nI g) M
    · rfl
    · obtain ⟨j, e1, e2⟩ := inR_of hM h1
      have := (nI_eq hg (by omega)).mp e2
      omega
section
variable {E : z_E} {G0 G : z_H} {a : Nat} {s u : Nat → Nat} {ib : Bool} {hs : Nat → Sh} {d sz pl : Nat} {el : Nat → Int32} {nb : Nat → Nat} {z : Nat → Int32} (lv N k : Nat)
theorem sD_isDone (h : PR G0 a s ib u hs d sz pl nb z G) (g : SG s) {tx : Nat → Nat} {b dd : Nat} (hb : tx b < 257) (hd : dgN (tx b) = some dd) (hdg : ∀ i, 1 ≤ i → i ≤ dd → isDg (tx (b + i)) = true) (hn : nbOf tx b nb) : ∃ G', z_evM E i_D_isDone lv [.ref a, .int (hI (tx b))] N k G = some (some (.int (z_b (stS tx b s).isSome)), N, k, G') ∧ PR G0 a ((stS tx b s).getD s) ib u hs d sz pl nb z G' := by
  obtain ⟨w, ws, w2⟩ := g
  have w6 := w.1
  obtain ⟨y1, y2, y3, y4, -⟩ := hI_n _ hb
  have n0 := h.rn (E := E) (j := 0) (by omega)
  have n1 := h.rn (E := E) (j := 1) (by omega)
  have n2 := h.rn (E := E) (j := 2) (by omega)
  have n0' : z_ai E G (a + 5) 0 = some (nI (nb 0)) := n0
  have n1' : z_ai E G (a + 5) 1 = some (nI (nb 1)) := n1
  have n2' : z_ai E G (a + 5) 2 = some (nI (nb 2)) := n2
  have d1 := isDg_10 (hdg 1 (Nat.le_refl _) (dgN_le hd).1)
  unfold stS
  rcases dgN_cases hd with ⟨e, rfl⟩ | ⟨e, rfl⟩ | ⟨e, rfl⟩ | ⟨e, rfl⟩
  · obtain ⟨m0, m1, m2⟩ := hn.1 e
    have d2 := isDg_10 (hdg 2 (by omega) (by omega))
    have d3 := isDg_10 (hdg 3 (by omega) (by omega))
    have d4 := isDg_10 (hdg 4 (by omega) (by omega))
    have hpl : pl2 (tx (b + 3) - 48) (tx (b + 4) - 48) < 100 := by unfold pl2; omega
    rw [if_pos e, ← m0, ← m1, ← m2]
    rw [← m0] at d1
    rw [← m1] at d2
    rw [← m2] at hpl
    rw [y1.mpr e]
    have i2 := inR_iff (g := nb 2) (M := 31) (by omega) (by omega)
    by_cases k1 : nb 0 < 8
    · have c1 : ¬ nI 8 ≤ nI (nb 0) := nI_ge k1 (by omega)
      by_cases k2 : nb 2 < 31
      · rw [decide_eq_true k2] at i2
        by_cases k3 : s 0 < 6
        · have c3 : ¬ nI (s 0) = nI 6 := fun z => by have := (nI_eq (by omega) (by omega)).mp z; omega
          obtain ⟨G', q1, q2, q3⟩ := sD_adds (E := E) 0 N k h.1 k3 (nb 0) (nb 1) (nb 2)
          rw [if_pos ⟨k1, k2, k3⟩]
          refine ⟨G', ?_, h.ns q2 q3⟩
          simp only [zm_D_isDone, zr_D_isDone_0, zr_D_isDone_1, zr_D_isDone_4, zr_D_isDone_5, zr_D_isDone_6, zr_D_isDone_7, zr_D_isDone_8, zr_D_isDone_44, zr_D_isDone_45, zr_D_isDone_47, zr_D_isDone_50, zr_D_isDone_51, zr_D_isDone_54, zr_D_isDone_55, zr_D_isDone_56, zr_D_isDone_59, zr_D_isDone_62, zr_D_isDone_63, zr_D_isDone_66, zr_D_isDone_67, zr_D_isDone_68, zr_D_isDone_70, zr_D_isDone_73, zr_D_isDone_74, zr_D_isDone_75, zr_D_isDone_76, zr_D_isDone_77, zr_D_isDone_78, zr_D_isDone_81, zr_D_isDone_82, zr_D_isDone_83, zr_D_isDone_84, zr_D_isDone_87, zr_D_isDone_88, zr_D_isDone_89, zr_D_isDone_92, zr_D_isDone_93, h.1.f8, n0', n1', n2', int_8, c1, sD_isPlace, i2, h.1.f0, h.1.st.r0, int_6, c3, h.1.cls, q1, z_obs, z_pu_s, z_pu_n, z00, z10, ↓reduceIte, true_or, or_true, z_b_t, z_b_f, Option.isSome_some]
        · have e6 : s 0 = 6 := by omega
          rw [if_neg (fun z => k3 z.2.2)]
          refine ⟨G, ?_, h⟩
          simp only [zm_D_isDone, zr_D_isDone_0, zr_D_isDone_1, zr_D_isDone_4, zr_D_isDone_5, zr_D_isDone_6, zr_D_isDone_7, zr_D_isDone_8, zr_D_isDone_44, zr_D_isDone_45, zr_D_isDone_47, zr_D_isDone_50, zr_D_isDone_51, zr_D_isDone_54, zr_D_isDone_55, zr_D_isDone_56, zr_D_isDone_59, zr_D_isDone_62, zr_D_isDone_63, zr_D_isDone_66, zr_D_isDone_67, zr_D_isDone_68, zr_D_isDone_70, zr_D_isDone_73, zr_D_isDone_74, zr_D_isDone_75, zr_D_isDone_76, zr_D_isDone_77, zr_D_isDone_78, zr_D_isDone_81, zr_D_isDone_82, zr_D_isDone_83, zr_D_isDone_84, zr_D_isDone_87, zr_D_isDone_88, zr_D_isDone_89, zr_D_isDone_92, zr_D_isDone_93, h.1.f8, n0', n1', n2', int_8, c1, sD_isPlace, i2, h.1.f0, h.1.st.r0, e6, show (nI 6 = 6) = True from eq_true rfl, z_obs, z_pu_s, z_pu_n, z00, z10, ↓reduceIte, true_or, or_true, z_b_t, z_b_f, Option.isSome_none]
      · rw [decide_eq_false k2] at i2
        rw [if_neg (fun z => k2 z.2.1)]
        refine ⟨G, ?_, h⟩
        simp only [zm_D_isDone, zr_D_isDone_0, zr_D_isDone_1, zr_D_isDone_4, zr_D_isDone_5, zr_D_isDone_6, zr_D_isDone_7, zr_D_isDone_8, zr_D_isDone_44, zr_D_isDone_45, zr_D_isDone_47, zr_D_isDone_50, zr_D_isDone_51, zr_D_isDone_54, zr_D_isDone_55, zr_D_isDone_56, zr_D_isDone_59, zr_D_isDone_62, zr_D_isDone_63, zr_D_isDone_66, zr_D_isDone_67, zr_D_isDone_68, zr_D_isDone_70, zr_D_isDone_73, zr_D_isDone_74, zr_D_isDone_75, zr_D_isDone_76, zr_D_isDone_77, zr_D_isDone_78, zr_D_isDone_81, zr_D_isDone_82, zr_D_isDone_83, zr_D_isDone_84, zr_D_isDone_87, zr_D_isDone_88, zr_D_isDone_89, zr_D_isDone_92, zr_D_isDone_93, h.1.f8, n0', n1', n2', int_8, c1, sD_isPlace, i2, z_obs, z_pu_s, z_pu_n, z00, z10, ↓reduceIte, true_or, or_true, z_b_t, z_b_f, Option.isSome_none]
    · have c1 : nI 8 ≤ nI (nb 0) := nI_le (by omega) (by omega)
      rw [if_neg (fun z => k1 z.1)]
      refine ⟨G, ?_, h⟩
      simp only [zm_D_isDone, zr_D_isDone_0, zr_D_isDone_1, zr_D_isDone_4, zr_D_isDone_5, zr_D_isDone_6, zr_D_isDone_7, zr_D_isDone_8, zr_D_isDone_44, zr_D_isDone_45, zr_D_isDone_47, zr_D_isDone_50, zr_D_isDone_51, zr_D_isDone_54, zr_D_isDone_55, zr_D_isDone_56, zr_D_isDone_59, zr_D_isDone_62, zr_D_isDone_63, zr_D_isDone_66, zr_D_isDone_67, zr_D_isDone_68, zr_D_isDone_70, zr_D_isDone_73, zr_D_isDone_74, zr_D_isDone_75, zr_D_isDone_76, zr_D_isDone_77, zr_D_isDone_78, zr_D_isDone_81, zr_D_isDone_82, zr_D_isDone_83, zr_D_isDone_84, zr_D_isDone_87, zr_D_isDone_88, zr_D_isDone_89, zr_D_isDone_92, zr_D_isDone_93, h.1.f8, n0', int_8, c1, z_obs, z_pu_s, z_pu_n, z00, z10, ↓reduceIte, true_or, or_true, z_b_t, z_b_f, Option.isSome_none]
  · have m0 := hn.2.2.1 e
    have d2 := isDg_10 (hdg 2 (by omega) (by omega))
    have hpl : pl2 (tx (b + 1) - 48) (tx (b + 2) - 48) < 100 := by unfold pl2; omega
    rw [if_neg (by omega), if_neg (by omega), if_pos e, ← m0]
    rw [← m0] at hpl
    rw [y2.mpr e]
    have hcg := sD_canGo (E := E) 0 N k h.1 w w2 (show nb 0 ≤ 99 by omega)
    by_cases k1 : 1 ≤ nb 0
    · have c1 : ¬ nI (nb 0) = 0 := nI_ne0 (by omega) (by omega)
      by_cases k2 : s 2 + (s 1 + nb 0) / 24 ≤ 999
      · rw [decide_eq_true k2] at hcg
        obtain ⟨G', q1, q2, q3⟩ := sD_hoursGo (E := E) 0 N k h.1 w (show nb 0 < 2 ^ 31 by omega)
        rw [if_pos ⟨k1, k2⟩]
        refine ⟨G', ?_, h.ns q2 q3⟩
        simp only [zm_D_isDone, zr_D_isDone_0, zr_D_isDone_1, zr_D_isDone_4, zr_D_isDone_5, zr_D_isDone_6, zr_D_isDone_7, zr_D_isDone_8, zr_D_isDone_115, zr_D_isDone_116, zr_D_isDone_119, zr_D_isDone_120, zr_D_isDone_121, zr_D_isDone_124, zr_D_isDone_127, zr_D_isDone_128, zr_D_isDone_129, zr_D_isDone_130, zr_D_isDone_131, zr_D_isDone_134, zr_D_isDone_135, h.1.f8, n0', show ¬ (104 : Int32) = 98 by decide, c1, h.1.cls, hcg, q1, z_obs, z_pu_s, z_pu_n, z00, z10, ↓reduceIte, true_or, or_true, z_b_t, z_b_f, Option.isSome_some]
      · rw [decide_eq_false k2] at hcg
        rw [if_neg (fun z => k2 z.2)]
        refine ⟨G, ?_, h⟩
        simp only [zm_D_isDone, zr_D_isDone_0, zr_D_isDone_1, zr_D_isDone_4, zr_D_isDone_5, zr_D_isDone_6, zr_D_isDone_7, zr_D_isDone_8, zr_D_isDone_115, zr_D_isDone_116, zr_D_isDone_119, zr_D_isDone_120, zr_D_isDone_121, zr_D_isDone_124, zr_D_isDone_127, zr_D_isDone_128, zr_D_isDone_129, zr_D_isDone_130, zr_D_isDone_131, zr_D_isDone_134, zr_D_isDone_135, h.1.f8, n0', show ¬ (104 : Int32) = 98 by decide, c1, h.1.cls, hcg, z_obs, z_pu_s, z_pu_n, z00, z10, ↓reduceIte, true_or, or_true, z_b_t, z_b_f, Option.isSome_none]
    · have e0 : nb 0 = 0 := by omega
      rw [if_neg (fun z => k1 z.1)]
      refine ⟨G, ?_, h⟩
      simp only [zm_D_isDone, zr_D_isDone_0, zr_D_isDone_1, zr_D_isDone_4, zr_D_isDone_5, zr_D_isDone_6, zr_D_isDone_7, zr_D_isDone_8, zr_D_isDone_115, zr_D_isDone_116, zr_D_isDone_119, zr_D_isDone_120, zr_D_isDone_121, zr_D_isDone_124, zr_D_isDone_127, zr_D_isDone_128, zr_D_isDone_129, zr_D_isDone_130, zr_D_isDone_131, zr_D_isDone_134, zr_D_isDone_135, h.1.f8, n0', show ¬ (104 : Int32) = 98 by decide, e0, show (nI 0 = 0) = True from eq_true rfl, z_obs, z_pu_s, z_pu_n, z00, z10, ↓reduceIte, true_or, or_true, z_b_t, z_b_f, Option.isSome_none]
  · obtain ⟨m0, m1⟩ := hn.2.2.2 e
    have d2 := isDg_10 (hdg 2 (by omega) (by omega))
    have d3 := isDg_10 (hdg 3 (by omega) (by omega))
    have hpl : pl2 (tx (b + 2) - 48) (tx (b + 3) - 48) < 100 := by unfold pl2; omega
    rw [if_neg (by omega), if_neg (by omega), if_neg (by omega), ← m0, ← m1]
    rw [← m0] at d1
    rw [← m1] at hpl
    rw [y3.mpr e]
    have i1 := inR_iff (g := nb 1) (M := 31) (by omega) (by omega)
    have hB := isB_iff w (show nb 0 < 2 ^ 31 by omega)
    by_cases k1 : nb 0 < s 0
    · rw [decide_eq_true k1] at hB
      by_cases k2 : nb 1 < 31
      · rw [decide_eq_true k2] at i1
        obtain ⟨G', q1, q2, q3⟩ := h.1.st.wr (j := 5 + 5 * nb 0) (nb 1) (by omega)
        rw [if_pos ⟨k1, k2⟩]
        refine ⟨G', ?_, h.ns (h.1.ns q2 q3) q3⟩
        simp only [zm_D_isDone, zr_D_isDone_0, zr_D_isDone_1, zr_D_isDone_4, zr_D_isDone_5, zr_D_isDone_6, zr_D_isDone_7, zr_D_isDone_8, zr_D_isDone_136, zr_D_isDone_137, zr_D_isDone_138, zr_D_isDone_141, zr_D_isDone_144, zr_D_isDone_145, zr_D_isDone_148, zr_D_isDone_149, zr_D_isDone_150, zr_D_isDone_153, zr_D_isDone_156, zr_D_isDone_157, zr_D_isDone_158, zr_D_isDone_159, zr_D_isDone_162, zr_D_isDone_163, zr_D_isDone_164, zr_D_isDone_167, zr_D_isDone_168, zr_D_isDone_171, zr_D_isDone_172, zr_D_isDone_173, zr_D_isDone_174, zr_D_isDone_175, h.1.f8, n0', n1', show ¬ (112 : Int32) = 98 by decide, show ¬ (112 : Int32) = 104 by decide, show ¬ (112 : Int32) = 114 by decide, h.1.cls, sD_isBell _ _ _ h.1 w, hB, sD_isPlace, i1, h.1.f0, sD_of2, q1, z_obs, z_pu_s, z_pu_n, z00, z10, ↓reduceIte, true_or, or_true, z_b_t, z_b_f, Option.isSome_some]
      · rw [decide_eq_false k2] at i1
        rw [if_neg (fun z => k2 z.2)]
        refine ⟨G, ?_, h⟩
        simp only [zm_D_isDone, zr_D_isDone_0, zr_D_isDone_1, zr_D_isDone_4, zr_D_isDone_5, zr_D_isDone_6, zr_D_isDone_7, zr_D_isDone_8, zr_D_isDone_136, zr_D_isDone_137, zr_D_isDone_138, zr_D_isDone_141, zr_D_isDone_144, zr_D_isDone_145, zr_D_isDone_148, zr_D_isDone_149, zr_D_isDone_150, zr_D_isDone_153, zr_D_isDone_156, zr_D_isDone_157, zr_D_isDone_158, zr_D_isDone_159, zr_D_isDone_162, zr_D_isDone_163, zr_D_isDone_164, zr_D_isDone_167, zr_D_isDone_168, zr_D_isDone_171, zr_D_isDone_172, zr_D_isDone_173, zr_D_isDone_174, zr_D_isDone_175, h.1.f8, n0', n1', show ¬ (112 : Int32) = 98 by decide, show ¬ (112 : Int32) = 104 by decide, show ¬ (112 : Int32) = 114 by decide, h.1.cls, sD_isBell _ _ _ h.1 w, hB, sD_isPlace, i1, z_obs, z_pu_s, z_pu_n, z00, z10, ↓reduceIte, true_or, or_true, z_b_t, z_b_f, Option.isSome_none]
    · rw [decide_eq_false k1] at hB
      rw [if_neg (fun z => k1 z.1)]
      refine ⟨G, ?_, h⟩
      simp only [zm_D_isDone, zr_D_isDone_0, zr_D_isDone_1, zr_D_isDone_4, zr_D_isDone_5, zr_D_isDone_6, zr_D_isDone_7, zr_D_isDone_8, zr_D_isDone_136, zr_D_isDone_137, zr_D_isDone_138, zr_D_isDone_141, zr_D_isDone_144, zr_D_isDone_145, zr_D_isDone_148, zr_D_isDone_149, zr_D_isDone_150, zr_D_isDone_153, zr_D_isDone_156, zr_D_isDone_157, zr_D_isDone_158, zr_D_isDone_159, zr_D_isDone_162, zr_D_isDone_163, zr_D_isDone_164, zr_D_isDone_167, zr_D_isDone_168, zr_D_isDone_171, zr_D_isDone_172, zr_D_isDone_173, zr_D_isDone_174, zr_D_isDone_175, h.1.f8, n0', show ¬ (112 : Int32) = 98 by decide, show ¬ (112 : Int32) = 104 by decide, show ¬ (112 : Int32) = 114 by decide, h.1.cls, sD_isBell _ _ _ h.1 w, hB, z_obs, z_pu_s, z_pu_n, z00, z10, ↓reduceIte, true_or, or_true, z_b_t, z_b_f, Option.isSome_none]
  · have m0 := hn.2.1 e
    rw [if_neg (by omega), if_pos e, ← m0]
    rw [← m0] at d1
    rw [y4.mpr e]
    have hB := isB_iff w (show nb 0 < 2 ^ 31 by omega)
    by_cases k1 : nb 0 < s 0
    · rw [decide_eq_true k1] at hB
      obtain ⟨G', q1, q2, q3⟩ := sD_ringsIn (E := E) 0 N k h.1.st w k1
      rw [if_pos k1]
      refine ⟨G', ?_, h.ns (h.1.ns q2 q3) q3⟩
      simp only [zm_D_isDone, zr_D_isDone_0, zr_D_isDone_1, zr_D_isDone_4, zr_D_isDone_5, zr_D_isDone_6, zr_D_isDone_7, zr_D_isDone_8, zr_D_isDone_94, zr_D_isDone_95, zr_D_isDone_96, zr_D_isDone_99, zr_D_isDone_102, zr_D_isDone_103, zr_D_isDone_104, zr_D_isDone_105, zr_D_isDone_108, zr_D_isDone_109, zr_D_isDone_112, zr_D_isDone_113, zr_D_isDone_114, h.1.f8, n0', show ¬ (114 : Int32) = 98 by decide, show ¬ (114 : Int32) = 104 by decide, h.1.cls, sD_isBell _ _ _ h.1 w, hB, h.1.f0, q1, z_obs, z_pu_s, z_pu_n, z00, z10, ↓reduceIte, true_or, or_true, z_b_t, z_b_f, Option.isSome_some]
    · rw [decide_eq_false k1] at hB
      rw [if_neg k1]
      refine ⟨G, ?_, h⟩
      simp only [zm_D_isDone, zr_D_isDone_0, zr_D_isDone_1, zr_D_isDone_4, zr_D_isDone_5, zr_D_isDone_6, zr_D_isDone_7, zr_D_isDone_8, zr_D_isDone_94, zr_D_isDone_95, zr_D_isDone_96, zr_D_isDone_99, zr_D_isDone_102, zr_D_isDone_103, zr_D_isDone_104, zr_D_isDone_105, zr_D_isDone_108, zr_D_isDone_109, zr_D_isDone_112, zr_D_isDone_113, zr_D_isDone_114, h.1.f8, n0', show ¬ (114 : Int32) = 98 by decide, show ¬ (114 : Int32) = 104 by decide, h.1.cls, sD_isBell _ _ _ h.1 w, hB, z_obs, z_pu_s, z_pu_n, z00, z10, ↓reduceIte, true_or, or_true, z_b_t, z_b_f, Option.isSome_none]
theorem sD_wrongRow0 (h : DW G a s ib u hs) (x : Int32) : z_evM E i_D_wrongRow lv [.ref a, .int x, .int 0] N k G = some (some (.int (if lkR hs x ≠ 0 then lkR hs x else match hs (jN x) with
  | .inr (.inr (so, _, _)) => if so = 0 then 0 else -12
  | _ => 0)), N, k, G) := by
  cases hd : inR x 8
  · have e : lkR hs x = -1 := by unfold lkR; rw [hd]; rfl
    rw [e, if_pos (by decide)]
    simp only [zm_D_wrongRow, zr_D_wrongRow_0, zr_D_wrongRow_1, zr_D_wrongRow_4, zr_D_wrongRow_7, zr_D_wrongRow_8, zr_D_wrongRow_11, zr_D_wrongRow_12, zr_D_wrongRow_15, zr_D_wrongRow_16, zr_D_wrongRow_17, zr_D_wrongRow_20, zr_D_wrongRow_22, zr_D_wrongRow_25, zr_D_wrongRow_26, zr_D_wrongRow_29, zr_D_wrongRow_30, zr_D_wrongRow_31, zr_D_wrongRow_32, zr_D_wrongRow_35, zr_D_wrongRow_36, zr_D_wrongRow_39, zr_D_wrongRow_40, zr_D_wrongRow_43, zr_D_wrongRow_44, zr_D_wrongRow_45, zr_D_wrongRow_46, zr_D_wrongRow_49, zr_D_wrongRow_51, zr_D_wrongRow_54, zr_D_wrongRow_55, sD_isShelf, hd, z_obs, z_pu_s, z_pu_n, z00, z10, ↓reduceIte, true_or, or_true, z_b_t, z_b_f]
  · obtain ⟨x, h8, rfl⟩ := inR_of (by decide) hd
    obtain ⟨c, ⟨h1, h2, h3, h4, h5⟩, h6, h7⟩ := h.sh
    have q := h7 x h8
    have r := z_aiI (E := E) h1 h8 (by decide)
    rw [jN_nI (show x < 2 ^ 31 by omega)]
    unfold lkR
    rw [hd, nI_lt8 h8]
    rcases e : hs x with _ | ⟨kk, ff⟩ | ⟨so, sz, el⟩
    · rw [e] at q
      have q : c 9 x = 0 := q
      rw [q] at r
      simp only [zm_D_wrongRow, zr_D_wrongRow_0, zr_D_wrongRow_1, zr_D_wrongRow_4, zr_D_wrongRow_7, zr_D_wrongRow_8, zr_D_wrongRow_11, zr_D_wrongRow_12, zr_D_wrongRow_15, zr_D_wrongRow_16, zr_D_wrongRow_17, zr_D_wrongRow_20, zr_D_wrongRow_22, zr_D_wrongRow_25, zr_D_wrongRow_26, zr_D_wrongRow_29, zr_D_wrongRow_30, zr_D_wrongRow_31, zr_D_wrongRow_32, zr_D_wrongRow_35, zr_D_wrongRow_36, zr_D_wrongRow_39, zr_D_wrongRow_40, zr_D_wrongRow_43, zr_D_wrongRow_44, zr_D_wrongRow_45, zr_D_wrongRow_46, zr_D_wrongRow_49, zr_D_wrongRow_51, zr_D_wrongRow_54, zr_D_wrongRow_55, sD_isShelf, hd, z_obs, z_pu_s, z_pu_n, z00, z10, ↓reduceIte, true_or, or_true, z_b_t, z_b_f, h.f14, r]
      rfl
    · rw [e] at q
      rw [q.1] at r
      simp only [zm_D_wrongRow, zr_D_wrongRow_0, zr_D_wrongRow_1, zr_D_wrongRow_4, zr_D_wrongRow_7, zr_D_wrongRow_8, zr_D_wrongRow_11, zr_D_wrongRow_12, zr_D_wrongRow_15, zr_D_wrongRow_16, zr_D_wrongRow_17, zr_D_wrongRow_20, zr_D_wrongRow_22, zr_D_wrongRow_25, zr_D_wrongRow_26, zr_D_wrongRow_29, zr_D_wrongRow_30, zr_D_wrongRow_31, zr_D_wrongRow_32, zr_D_wrongRow_35, zr_D_wrongRow_36, zr_D_wrongRow_39, zr_D_wrongRow_40, zr_D_wrongRow_43, zr_D_wrongRow_44, zr_D_wrongRow_45, zr_D_wrongRow_46, zr_D_wrongRow_49, zr_D_wrongRow_51, zr_D_wrongRow_54, zr_D_wrongRow_55, sD_isShelf, hd, z_obs, z_pu_s, z_pu_n, z00, z10, ↓reduceIte, true_or, or_true, z_b_t, z_b_f, h.f14, r, show ¬ (1 : Int32) = 2 by decide]
      rfl
    · rw [e] at q
      rw [q.1] at r
      have r2 := z_aiI (E := E) h4 h8 (by decide)
      rw [q.2.1] at r2
      have q3 := q.2.2.2.1
      by_cases h0 : so = 0
      · subst h0
        simp only [zm_D_wrongRow, zr_D_wrongRow_0, zr_D_wrongRow_1, zr_D_wrongRow_4, zr_D_wrongRow_7, zr_D_wrongRow_8, zr_D_wrongRow_11, zr_D_wrongRow_12, zr_D_wrongRow_15, zr_D_wrongRow_16, zr_D_wrongRow_17, zr_D_wrongRow_20, zr_D_wrongRow_22, zr_D_wrongRow_25, zr_D_wrongRow_26, zr_D_wrongRow_29, zr_D_wrongRow_30, zr_D_wrongRow_31, zr_D_wrongRow_32, zr_D_wrongRow_35, zr_D_wrongRow_36, zr_D_wrongRow_39, zr_D_wrongRow_40, zr_D_wrongRow_43, zr_D_wrongRow_44, zr_D_wrongRow_45, zr_D_wrongRow_46, zr_D_wrongRow_49, zr_D_wrongRow_51, zr_D_wrongRow_54, zr_D_wrongRow_55, sD_isShelf, hd, z_obs, z_pu_s, z_pu_n, z00, z10, ↓reduceIte, true_or, or_true, z_b_t, z_b_f, h.f14, r, h.f17, r2, show ¬ (2 : Int32) = 0 by decide, show ((2 : Int32) = 2) = True by simp, show ((0 : Int32) < 0) = False from eq_false (by decide), show (nI 0 = 0) = True from eq_true rfl, ne_eq, not_true_eq_false]
      · have cn : ¬ nI so = 0 := nI_ne0 (by omega) (by omega)
        simp only [zm_D_wrongRow, zr_D_wrongRow_0, zr_D_wrongRow_1, zr_D_wrongRow_4, zr_D_wrongRow_7, zr_D_wrongRow_8, zr_D_wrongRow_11, zr_D_wrongRow_12, zr_D_wrongRow_15, zr_D_wrongRow_16, zr_D_wrongRow_17, zr_D_wrongRow_20, zr_D_wrongRow_22, zr_D_wrongRow_25, zr_D_wrongRow_26, zr_D_wrongRow_29, zr_D_wrongRow_30, zr_D_wrongRow_31, zr_D_wrongRow_32, zr_D_wrongRow_35, zr_D_wrongRow_36, zr_D_wrongRow_39, zr_D_wrongRow_40, zr_D_wrongRow_43, zr_D_wrongRow_44, zr_D_wrongRow_45, zr_D_wrongRow_46, zr_D_wrongRow_49, zr_D_wrongRow_51, zr_D_wrongRow_54, zr_D_wrongRow_55, sD_isShelf, hd, z_obs, z_pu_s, z_pu_n, z00, z10, ↓reduceIte, true_or, or_true, z_b_t, z_b_f, h.f14, r, h.f17, r2, show ¬ (2 : Int32) = 0 by decide, show ((2 : Int32) = 2) = True by simp, show ((0 : Int32) < 0) = False from eq_false (by decide), cn, h0, ne_eq, not_true_eq_false]
end
/-- how many statements stand there -/
def cnM (sz : Nat) (tx : Nat → Nat) : Nat → Nat → Nat
  | 0, _ => 0
  | f + 1, a => if a < sz then 1 + cnM sz tx f (a + 2 + dg0 (tx a)) else 0
theorem cnM_s (sz : Nat) (tx : Nat → Nat) (f a : Nat) : cnM sz tx (f + 1) a = if a < sz then 1 + cnM sz tx f (a + 2 + dg0 (tx a)) else 0 := rfl
theorem doM_cn {sz : Nat} {tx : Nat → Nat} : ∀ f a n s m t, doM sz tx f a n s = .inr (m, t) → m = n + cnM sz tx f a := by
  intro f
  induction f with
  | zero => intro a n s m t h; injection h with h; injection h with h1 h2; subst h1; rfl
  | succ f ih =>
    intro a n s m t h
    unfold doM at h
    unfold cnM
    by_cases ha : a < sz
    · rw [if_pos ha] at h ⊢
      rcases e : stS tx a s with _ | s'
      · rw [e] at h; cases h
      · rw [e] at h
        have := ih _ _ _ _ _ h
        omega
    · rw [if_neg ha] at h ⊢
      injection h with h; injection h with h1 h2; subst h1; rfl
theorem flt1 : ∀ j, j < 400 → ¬ (-1000 : Int32) - nI j = 0 := by decide +kernel
theorem flt2 : ∀ j, j < 400 → ¬ (-2000 : Int32) - nI j = 0 := by decide +kernel
section
variable {E : z_E} {G0 G : z_H} {a : Nat} {s u : Nat → Nat} {ib : Bool} {hs : Nat → Sh} {d sz : Nat} {el : Nat → Int32} (lv N k : Nat)
/-- is it a MARSH: the first walk over the text -/
theorem sD_marsh1 {z : Nat → Int32} (hd : d < 8) (e : hs d = Sh.ro 0 sz el) (ho : okB sz el) (hz : sz ≤ 100) {l5 l6 l7 : Option Value} : ∀ f pl n G nb, sz ≤ pl + f → 1 ≤ f → pl ≤ 100 → PR G0 a s ib u hs d sz pl nb z G → ∃ G' p' nb' n', z_ev E i_D_marsh lv 41 [some (.ref a), some (.int (nI d)), some (.int 0), some (.int (nI n)), some (.int 0), l5, l6, l7] [] N k G = z_ev E i_D_marsh lv 77 [some (.ref a), some (.int (nI d)), some (.int 0), some (.int (nI n')), some (.int (match stN sz (txN sz el) f pl with
  | some j => -1000 - nI j
  | none => 0)), l5, l6, l7] [] N k G' ∧ PR G0 a s ib u hs d sz p' nb' z G' ∧ (stN sz (txN sz el) f pl = none → pl < sz → n' = n + cnM sz (txN sz el) f pl) := by
  intro f
  induction f with
  | zero => intro pl n G nb _ h1; omega
  | succ f ih =>
    intro pl n G nb hf _ hp hP
    obtain ⟨G1, t1, t2⟩ := sD_readsStatement (E := E) 0 N k hP hd e ho hp
    rw [stN_rs]
    rcases er : rsN (txN sz el) pl with q | q
    · rw [er] at t1 t2
      obtain ⟨nb', t2⟩ := t2
      have hq : q ≤ 300 := by
        have hst : stN sz (txN sz el) (f + 1) pl = some q := by rw [stN_rs, er]
        exact stN_lt hz el _ _ _ (by omega) hst
      have hf0 := flt1 q (by omega)
      refine ⟨G1, q, nb', n + 1, ?_, t2, fun hh => by cases hh⟩
      simp only [zr_D_marsh_41, zr_D_marsh_42, zr_D_marsh_45, zr_D_marsh_48, zr_D_marsh_51, zr_D_marsh_52, zr_D_marsh_55, zr_D_marsh_56, zr_D_marsh_58, zr_D_marsh_61, zr_D_marsh_63, zr_D_marsh_66, zr_D_marsh_67, zr_D_marsh_70, zr_D_marsh_71, zr_D_marsh_74, hP.1.cls, t1, t2.g5, hf0, z_obs, z_pu_s, z_pu_n, z00, z10, ↓reduceIte, true_or, or_true, z_b_t, z_b_f, nI_1, Bool.false_eq_true]
    · rw [er] at t1 t2
      obtain ⟨nb', t2, t3⟩ := t2
      dsimp only
      have hdg : ∃ dd, dgN (txN sz el pl) = some dd ∧ q = pl + 2 + dd ∧ txN sz el (pl + 1 + dd) = 59 := by
        unfold rsN at er
        rcases ed : dgN (txN sz el pl) with _ | dd
        · rw [ed] at er; cases er
        · rw [ed] at er
          dsimp only at er
          rcases ef : fnd (fun i => !(isDg (txN sz el i))) dd (pl + 1) with _ | j
          · rw [ef] at er
            dsimp only at er
            by_cases h59 : txN sz el (pl + 1 + dd) = 59
            · rw [if_pos h59] at er
              injection er with er
              exact ⟨dd, rfl, er.symm, h59⟩
            · rw [if_neg h59] at er; cases er
          · rw [ef] at er; cases er
      obtain ⟨dd, d1, d2, d3⟩ := hdg
      have a59 : pl + 1 + dd < sz := by
        rcases Nat.lt_or_ge (pl + 1 + dd) sz with z | z
        · exact z
        · exfalso
          unfold txN at d3
          rw [if_neg (by omega)] at d3
          cases d3
      have e0 : dg0 (txN sz el pl) = dd := by unfold dg0; rw [d1]
      by_cases hlt : q < sz
      · have c : nI q < nI sz := nI_lt hlt (by omega)
        obtain ⟨G', p', nb2, n', k1, k2, k3⟩ := ih q (n + 1) G1 nb' (by omega) (by omega) (by omega) t2
        rw [if_pos hlt]
        refine ⟨G', p', nb2, n', ?_, k2, fun hh hps => ?_⟩
        · rw [← k1, zr_D_marsh_41]
          simp only [zr_D_marsh_42, zr_D_marsh_45, zr_D_marsh_48, zr_D_marsh_51, zr_D_marsh_52, zr_D_marsh_55, zr_D_marsh_56, zr_D_marsh_58, zr_D_marsh_61, zr_D_marsh_63, zr_D_marsh_66, zr_D_marsh_67, zr_D_marsh_70, zr_D_marsh_71, zr_D_marsh_74, hP.1.cls, t1, t2.g5, t2.g7, c, z_obs, z_pu_s, z_pu_n, z00, z10, ↓reduceIte, true_or, or_true, z_b_t, z_b_f, nI_1]
        · rw [k3 hh hlt, cnM_s, if_pos hps, e0, ← d2]
          omega
      · have c : ¬ nI q < nI sz := nI_nlt (by omega) (by omega)
        rw [if_neg hlt]
        refine ⟨G1, q, nb', n + 1, ?_, t2, fun _ hps => ?_⟩
        · simp only [zr_D_marsh_41, zr_D_marsh_42, zr_D_marsh_45, zr_D_marsh_48, zr_D_marsh_51, zr_D_marsh_52, zr_D_marsh_55, zr_D_marsh_56, zr_D_marsh_58, zr_D_marsh_61, zr_D_marsh_63, zr_D_marsh_66, zr_D_marsh_67, zr_D_marsh_70, zr_D_marsh_71, zr_D_marsh_74, hP.1.cls, t1, t2.g5, t2.g7, c, z_obs, z_pu_s, z_pu_n, z00, z10, ↓reduceIte, true_or, or_true, z_b_t, z_b_f, nI_1]
        · rw [cnM_s, if_pos hps, e0, ← d2]
          rcases f with _ | f
          · rfl
          · rw [cnM_s, if_neg hlt]
/-- they are done, or all is as it was: the second walk -/
theorem sD_marsh2 {s0 : Nat → Nat} {z : Nat → Int32} (hz0 : ∀ j, j < 33 → z j = nI (s0 j)) (hd : d < 8) (e : hs d = Sh.ro 0 sz el) (ho : okB sz el) (hz : sz ≤ 100) {n : Nat} : ∀ f pl t m G nb (l5 l6 l7 : Option Value), sz ≤ pl + f → 1 ≤ f → pl ≤ 100 → PR G0 a t ib u hs d sz pl nb z G → SG t → (pl < sz → stN sz (txN sz el) f pl = none) → ∃ G', z_ev E i_D_marsh lv 93 [some (.ref a), some (.int (nI d)), some (.int 0), some (.int (nI n)), some (.int 0), l5, l6, l7] [] N k G = some (some (.int (match doM sz (txN sz el) f pl m t with
  | .inl b => -2000 - nI b
  | .inr _ => nI n)), N, k, G') ∧ DW G' a (match doM sz (txN sz el) f pl m t with
  | .inl _ => s0
  | .inr (_, t) => t) ib u hs ∧ FR a 15 G0 G' := by
  intro f
  induction f with
  | zero => intro pl t m G nb l5 l6 l7 _ h1; omega
  | succ f ih =>
    intro pl t m G nb l5 l6 l7 hf _ hp hP hg hs'
    unfold doM
    by_cases hlt : pl < sz
    · have c : ¬ nI sz ≤ nI pl := nI_ge hlt (by omega)
      obtain ⟨dd, d1, d2, d3, d4⟩ := stN_none (hs' hlt)
      have d5 := dgN_le d1
      have hh := sD_here (E := E) 0 N k hP hd e ho (show pl ≤ 300 by omega)
      obtain ⟨G1, t1, t2⟩ := sD_readsStatement (E := E) 0 N k hP hd e ho hp
      have er : rsN (txN sz el) pl = .inr (pl + 2 + dd) := by
        unfold rsN
        rw [d1]
        dsimp only
        have hf0 : fnd (fun i => !(isDg (txN sz el i))) dd (pl + 1) = none := by
          rcases ef : fnd (fun i => !(isDg (txN sz el i))) dd (pl + 1) with _ | j
          · rfl
          · exfalso
            have hj : (fnd (fun i => !(isDg (txN sz el i))) dd (pl + 1)).isSome = true := by rw [ef]; rfl
            obtain ⟨j2, j3, j4, j5⟩ := (fnd_iff _ _).mp hj
            have := d2 (j2 - pl) (by omega) (by omega)
            rw [show pl + (j2 - pl) = j2 by omega] at this
            rw [this] at j5
            cases j5
        rw [hf0, if_pos d3]
      rw [er] at t1 t2
      obtain ⟨nb', t2, t3⟩ := t2
      obtain ⟨G2, u1, u2⟩ := sD_isDone (E := E) 0 N k t2 hg (txN_by ho pl).1 d1 d2 t3
      have a59 : pl + 1 + dd < sz := by
        rcases Nat.lt_or_ge (pl + 1 + dd) sz with z | z
        · exact z
        · exfalso
          unfold txN at d3
          rw [if_neg (by omega)] at d3
          cases d3
      have e0 : dg0 (txN sz el pl) = dd := by unfold dg0; rw [d1]
      rw [if_pos hlt, e0]
      rcases es : stS (txN sz el) pl t with _ | t'
      · rw [es] at u1 u2
        dsimp only
        have hw : IA G2 (a + 4) s0 := ⟨z, u2.2.2.2.2, hz0⟩
        obtain ⟨G3, v1, v2, v3⟩ := sD_copies (E := E) 0 N k hw u2.1.st.x (by omega)
        have hf0 := flt2 pl (by omega)
        refine ⟨G3, ?_, u2.1.ns v2 v3, u2.2.1.tr fun x hx => v3 x (by omega)⟩
        simp only [zr_D_marsh_93, zr_D_marsh_95, zr_D_marsh_98, zr_D_marsh_99, zr_D_marsh_102, zr_D_marsh_103, zr_D_marsh_106, zr_D_marsh_109, zr_D_marsh_110, zr_D_marsh_113, zr_D_marsh_115, zr_D_marsh_116, zr_D_marsh_119, zr_D_marsh_121, zr_D_marsh_122, zr_D_marsh_125, zr_D_marsh_127, zr_D_marsh_128, zr_D_marsh_130, zr_D_marsh_133, zr_D_marsh_136, zr_D_marsh_139, zr_D_marsh_142, zr_D_marsh_144, zr_D_marsh_145, zr_D_marsh_147, zr_D_marsh_148, zr_D_marsh_151, zr_D_marsh_152, zr_D_marsh_155, zr_D_marsh_158, zr_D_marsh_161, zr_D_marsh_163, zr_D_marsh_166, zr_D_marsh_167, zr_D_marsh_170, zr_D_marsh_172, hP.g5, hP.g7, hP.1.cls, c, hh, t1, t2.1.cls, u1, u2.1.f0, u2.1.f3, v1, hf0, z_obs, z_pu_s, z_pu_n, z00, z10, ↓reduceIte, true_or, or_true, z_b_t, z_b_f, Option.isSome_none]
      · rw [es] at u1 u2
        dsimp only
        obtain ⟨G', k1, k2⟩ := ih (pl + 2 + dd) t' (m + 1) G2 nb' (some (.int (nI pl))) (some (.int (hI (txN sz el pl)))) (some (.int 1)) (by omega) (by omega) (by omega) u2 (stS_SG d1 d2 hg es) d4
        refine ⟨G', ?_, k2⟩
        rw [← k1, zr_D_marsh_93]
        simp only [zr_D_marsh_95, zr_D_marsh_98, zr_D_marsh_99, zr_D_marsh_102, zr_D_marsh_103, zr_D_marsh_106, zr_D_marsh_109, zr_D_marsh_110, zr_D_marsh_113, zr_D_marsh_115, zr_D_marsh_116, zr_D_marsh_119, zr_D_marsh_121, zr_D_marsh_122, zr_D_marsh_125, zr_D_marsh_127, zr_D_marsh_128, zr_D_marsh_130, zr_D_marsh_133, zr_D_marsh_136, hP.g5, hP.g7, hP.1.cls, c, hh, t1, t2.1.cls, u1, z_obs, z_pu_s, z_pu_n, z00, z10, ↓reduceIte, true_or, or_true, z_b_t, z_b_f, Option.isSome_some]
    · have c : nI sz ≤ nI pl := nI_le (by omega) (by omega)
      rw [if_neg hlt]
      refine ⟨G, ?_, hP.1, hP.2.1⟩
      simp only [zr_D_marsh_93, zr_D_marsh_95, zr_D_marsh_98, zr_D_marsh_99, zr_D_marsh_102, zr_D_marsh_103, zr_D_marsh_106, zr_D_marsh_161, zr_D_marsh_163, zr_D_marsh_166, zr_D_marsh_167, zr_D_marsh_170, zr_D_marsh_172, hP.g5, hP.g7, c, z_obs, z_pu_s, z_pu_n, z00, z10, ↓reduceIte, true_or, or_true, z_b_t, z_b_f]
theorem dMarsh (h : DW G a s ib u hs) (g : SG s) (hk : okH hs) (x : Int32) : ∃ G', z_evM E i_D_marsh lv [.ref a, .int x] N k G = some (some (.int (aMarsh s hs x).1), N, k, G') ∧ DW G' a (aMarsh s hs x).2 ib u hs ∧ FR a 15 G G' := by
  unfold aMarsh
  have hw := sD_wrongRow0 (E := E) 0 N k h x
  by_cases hl : lkR hs x ≠ 0
  · rw [if_pos hl] at hw ⊢
    refine ⟨G, ?_, h, FR.rf⟩
    simp only [zm_D_marsh, zr_D_marsh_0, zr_D_marsh_1, zr_D_marsh_2, zr_D_marsh_3, zr_D_marsh_6, zr_D_marsh_7, zr_D_marsh_8, zr_D_marsh_11, zr_D_marsh_12, h.cls, hw, hl, z_obs, z_pu_s, z_pu_n, z00, z10, ↓reduceIte, true_or, or_true, z_b_t, z_b_f]
  · rw [if_neg hl] at hw ⊢
    obtain ⟨d, so, sz, el, hd, rfl, e⟩ := lkR_ro hl
    rw [jN_nI (show d < 2 ^ 31 by omega), e] at hw ⊢
    dsimp only at hw ⊢
    by_cases h0 : so = 0
    · subst h0
      rw [if_pos rfl] at hw ⊢
      obtain ⟨r1, r2, r3, r4, r5, r6⟩ := h.ro (E := E) hd e
      have ho := hk d hd sz el e
      obtain ⟨q, hq⟩ := h.o
      obtain ⟨f5, hf5⟩ := h.nu
      obtain ⟨z4, hz4⟩ := h.was
      -- the three fields
      have p1 := DW.pf (b := false) hq 6 (by omega) (nI (100 * d))
      have hq2 : z_up G a (.inl (12, dFs a (z_b ib) (uI q 6 (nI (100 * d))))) a = some (.inl (12, dFs a (z_b ib) (uI q 6 (nI (100 * d))))) := z_up_s _ _ _
      have p2 := DW.pf (b := false) hq2 7 (by omega) (nI sz)
      have hq3 : z_up (z_up G a (.inl (12, dFs a (z_b ib) (uI q 6 (nI (100 * d)))))) a (.inl (12, dFs a (z_b ib) (uI (uI q 6 (nI (100 * d))) 7 (nI sz)))) a = some (.inl (12, dFs a (z_b ib) (uI (uI q 6 (nI (100 * d))) 7 (nI sz)))) := z_up_s _ _ _
      have p3 := DW.pf (b := false) hq3 5 (by omega) 0
      have hD1 : DW (z_up G a (.inl (12, dFs a (z_b ib) (uI q 6 (nI (100 * d)))))) a s ib u hs := h.no
      have hD2 : DW (z_up (z_up G a (.inl (12, dFs a (z_b ib) (uI q 6 (nI (100 * d)))))) a (.inl (12, dFs a (z_b ib) (uI (uI q 6 (nI (100 * d))) 7 (nI sz))))) a s ib u hs := hD1.no
      have hD3 : DW (z_up (z_up (z_up G a (.inl (12, dFs a (z_b ib) (uI q 6 (nI (100 * d)))))) a (.inl (12, dFs a (z_b ib) (uI (uI q 6 (nI (100 * d))) 7 (nI sz))))) a (.inl (12, dFs a (z_b ib) (uI (uI (uI q 6 (nI (100 * d))) 7 (nI sz)) 5 0)))) a s ib u hs := hD2.no
      have hr3 := (hD1.ro (E := E) hd e).2.2.1
      have hfr : ∀ x, x ≠ a → z_up (z_up (z_up G a (.inl (12, dFs a (z_b ib) (uI q 6 (nI (100 * d)))))) a (.inl (12, dFs a (z_b ib) (uI (uI q 6 (nI (100 * d))) 7 (nI sz))))) a (.inl (12, dFs a (z_b ib) (uI (uI (uI q 6 (nI (100 * d))) 7 (nI sz)) 5 0))) x = G x := fun x hx => by rw [z_up_n _ _ hx, z_up_n _ _ hx, z_up_n _ _ hx]
      generalize hG3 : z_up (z_up (z_up G a (.inl (12, dFs a (z_b ib) (uI q 6 (nI (100 * d)))))) a (.inl (12, dFs a (z_b ib) (uI (uI q 6 (nI (100 * d))) 7 (nI sz))))) a (.inl (12, dFs a (z_b ib) (uI (uI (uI q 6 (nI (100 * d))) 7 (nI sz)) 5 0))) = G3 at p3 hD3 hfr
      have hP3 : PR G a s ib u hs d sz 0 (fun j => (f5 j).toUInt32.toNat) z4 G3 := by
        refine ⟨hD3, fun x hx => hfr x (by omega), ⟨_, by rw [← hG3]; exact z_up_s _ _ _, rfl, rfl, rfl⟩, ⟨f5, by rw [hfr _ (by omega)]; exact hf5, fun j _ => ?_⟩, by rw [hfr _ (by omega)]; exact hz4⟩
        show f5 j = Int32.ofNat (f5 j).toUInt32.toNat
        apply Int32.toBitVec_inj.mp
        show (f5 j).toBitVec = BitVec.ofNat 32 (f5 j).toBitVec.toNat
        rw [BitVec.ofNat_toNat, BitVec.setWidth_eq]
      obtain ⟨G4, p', nb', n', k1, k2, k3⟩ := sD_marsh1 (E := E) (l5 := none) (l6 := none) (l7 := none) lv N k hd e ho r5 (sz + 1) 0 0 G3 _ (by omega) (by omega) (by omega) hP3
      have pre : z_evM E i_D_marsh lv [.ref a, .int (nI d)] N k G = z_ev E i_D_marsh lv 41 [some (.ref a), some (.int (nI d)), some (.int 0), some (.int (nI 0)), some (.int 0), none, none, none] [] N k G3 := by
        simp only [zm_D_marsh, zr_D_marsh_0, zr_D_marsh_1, zr_D_marsh_2, zr_D_marsh_3, zr_D_marsh_6, zr_D_marsh_7, zr_D_marsh_8, zr_D_marsh_11, zr_D_marsh_12, zr_D_marsh_13, zr_D_marsh_14, zr_D_marsh_16, zr_D_marsh_17, zr_D_marsh_18, zr_D_marsh_21, zr_D_marsh_22, zr_D_marsh_23, zr_D_marsh_26, zr_D_marsh_27, zr_D_marsh_28, zr_D_marsh_31, zr_D_marsh_32, zr_D_marsh_33, zr_D_marsh_36, zr_D_marsh_37, zr_D_marsh_38, zr_D_marsh_39, h.cls, hw, int_100, pk_mul, p1, hD1.f18, hr3, p2, p3, z_obs, z_pu_s, z_pu_n, z00, z10, ↓reduceIte, true_or, or_true, z_b_t, z_b_f]
        rfl
      rw [pre, k1]
      obtain ⟨G5, c1, c2, c3⟩ := sD_copies (E := E) 0 N k k2.1.st k2.1.was (by omega)
      obtain ⟨zz, c2a, c2b⟩ := c2
      have hP5 : PR G a s ib u hs d sz p' nb' zz G5 := by
        obtain ⟨h1, h2, ⟨q, q1, q2, q3, q4⟩, ⟨f, f1, f2⟩, h5⟩ := k2
        refine ⟨?_, h2.tr (fun x hx => c3 x (by omega)), ⟨q, by rw [c3 _ (by omega)]; exact q1, q2, q3, q4⟩, ⟨f, by rw [c3 _ (by omega)]; exact f1, f2⟩, c2a⟩
        obtain ⟨h0, h1, h2, ⟨v, h3, h3'⟩, h4, h5, h6, h7, h8, h9⟩ := h1
        exact ⟨by rw [c3 _ (by omega)]; exact h0, h1.mono (c3 _ (by omega)), h2.mono (c3 _ (by omega)), ⟨v, h3.mono (c3 _ (by omega)), h3'⟩, ⟨zz, c2a⟩, h5.mono (c3 _ (by omega)), h6.mono (c3 _ (by omega)), h7.mono (c3 _ (by omega)), h8.mono (c3 _ (by omega)), h9.mono fun q q1 q2 => c3 q (by omega)⟩
      obtain ⟨G6, m1, m2⟩ := hP5.mv 0
      rcases es : stN sz (txN sz el) (sz + 1) 0 with _ | j
      · rw [es] at k3
        have hsz : 0 < sz := by
          rcases Nat.eq_zero_or_pos sz with z | z
          · exfalso
            subst z
            have : stN 0 (txN 0 el) (0 + 1) 0 = some 0 := by
              unfold stN
              have : txN 0 el 0 = 256 := by unfold txN; rw [if_neg (by omega)]
              rw [this]
              rfl
            rw [this] at es; cases es
          · exact z
        have hn := k3 rfl hsz
        rw [Nat.zero_add] at hn
        obtain ⟨G', v1, v2, v3⟩ := sD_marsh2 (E := E) (n := n') lv N k c2b hd e ho r5 (sz + 1) 0 s 0 G6 nb' none none none (by omega) (by omega) (by omega) m2 g (fun _ => es)
        have m1' : z_pf G5 a (.int 0) false [5, 12, 12, 0, 0] = some G6 := m1
        refine ⟨G', ?_, ?_, v3⟩
        · dsimp only
          simp only [zr_D_marsh_77, zr_D_marsh_78, zr_D_marsh_81, zr_D_marsh_82, zr_D_marsh_85, zr_D_marsh_88, zr_D_marsh_89, zr_D_marsh_90, k2.1.f0, k2.1.f3, c1, m1', z_obs, z_pu_s, z_pu_n, z00, z10, ↓reduceIte, true_or, or_true, z_b_t, z_b_f]
          rw [v1]
          rcases ed : doM sz (txN sz el) (sz + 1) 0 0 s with b | ⟨m, t⟩
          · rfl
          · have := doM_cn _ _ _ _ _ _ ed
            dsimp only
            rw [hn, this, Nat.zero_add]
        · rcases ed : doM sz (txN sz el) (sz + 1) 0 0 s with b | ⟨m, t⟩
          · rw [ed] at v2; exact v2
          · rw [ed] at v2; exact v2
      · have hj := stN_lt r5 el _ 0 j (by omega) es
        have hf0 := flt1 j (by omega)
        have m1' : z_pf G5 a (.int 0) false [5, 12, 12, 0, 0] = some G6 := m1
        refine ⟨G6, ?_, m2.1, m2.2.1⟩
        dsimp only
        simp only [zr_D_marsh_77, zr_D_marsh_78, zr_D_marsh_81, zr_D_marsh_82, zr_D_marsh_85, zr_D_marsh_88, zr_D_marsh_89, zr_D_marsh_90, zr_D_marsh_93, zr_D_marsh_95, zr_D_marsh_161, zr_D_marsh_163, zr_D_marsh_166, zr_D_marsh_167, zr_D_marsh_170, zr_D_marsh_172, k2.1.f0, k2.1.f3, c1, m1', hf0, z_obs, z_pu_s, z_pu_n, z00, z10, ↓reduceIte, true_or, or_true, z_b_t, z_b_f]
    · rw [if_neg h0] at hw ⊢
      refine ⟨G, ?_, h, FR.rf⟩
      simp only [zm_D_marsh, zr_D_marsh_0, zr_D_marsh_1, zr_D_marsh_2, zr_D_marsh_3, zr_D_marsh_6, zr_D_marsh_7, zr_D_marsh_8, zr_D_marsh_11, zr_D_marsh_12, h.cls, hw, show ¬ (-12 : Int32) = 0 by decide, z_obs, z_pu_s, z_pu_n, z00, z10, ↓reduceIte, true_or, or_true, z_b_t, z_b_f]
end
