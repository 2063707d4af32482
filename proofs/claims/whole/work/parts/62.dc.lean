/-! THE MODEL: told, come, rung, gone by; who is at home -/
theorem foldN_sim {α β : Type} {f : Nat → α → α} {g : Nat → β → β} {R : Nat → α → β → Prop} : ∀ m i a b, R i a b → (∀ j a b, i ≤ j → j < i + m → R j a b → R (j + 1) (f j a) (g j b)) → R (i + m) (foldN f m i a) (foldN g m i b) := by
  intro m
  induction m with
  | zero => intro i a b h _; exact h
  | succ m ih =>
    intro i a b h hs
    have := ih (i + 1) (f i a) (g i b) (hs i a b (Nat.le_refl _) (by omega) h) (fun j a b h1 h2 => hs j a b (by omega) (by omega))
    rw [show i + 1 + m = i + (m + 1) by omega] at this
    exact this
theorem psS_0 {s : Nat → Nat} (w : WF s) : psS s 0 = s := by
  have w1 := w.2.1
  unfold psS
  rw [Nat.add_zero, Nat.mod_eq_of_lt w1, Nat.div_eq_of_lt w1, Nat.add_zero, uN_self, uN_self]
theorem psS_h {s : Nat → Nat} (m : Nat) : hrS (psS s m) = psS s (m + 1) := by
  have e1 : psS s m 1 = (s 1 + m) % 24 := by unfold psS; rw [uN_n _ _ (by omega), uN_s]
  have e2 : psS s m 2 = s 2 + (s 1 + m) / 24 := by unfold psS; rw [uN_s]
  unfold hrS
  rw [e1, e2]
  funext j
  have ej : j ≠ 1 → j ≠ 2 → psS s m j = s j := by intro a b; unfold psS; rw [uN_n _ _ b, uN_n _ _ a]
  have ej' : j ≠ 1 → j ≠ 2 → psS s (m + 1) j = s j := by intro a b; unfold psS; rw [uN_n _ _ b, uN_n _ _ a]
  have e1' : psS s (m + 1) 1 = (s 1 + (m + 1)) % 24 := by unfold psS; rw [uN_n _ _ (by omega), uN_s]
  have e2' : psS s (m + 1) 2 = s 2 + (s 1 + (m + 1)) / 24 := by unfold psS; rw [uN_s]
  by_cases h1 : j = 1
  · subst h1
    rw [e1']
    split
    · rw [uN_s]; omega
    · rw [uN_n _ _ (by omega), uN_s]; omega
  · by_cases h2 : j = 2
    · subst h2
      rw [e2']
      split
      · rw [uN_n _ _ (by omega), e2]; omega
      · rw [uN_s]; omega
    · rw [ej' h1 h2]
      split
      · rw [uN_n _ _ h1, ej h1 h2]
      · rw [uN_n _ _ h2, uN_n _ _ h1, ej h1 h2]
theorem hh_hb : ∀ k, k < 8 → ∀ f, f < 10 → foldN (fun h acc => acc ||| (if hm k f (h % 24) = true then (1 : Int32) <<< (nI h &&& 31) else 0)) 24 0 0 = hb k f := by decide +kernel
theorem toldI_out (s : Nat → Nat) (j : Nat) {y : Int32} (hy : inR y 8 = false) : toldI s j y = -1 := by
  have q : ∀ c : Int32, inR c 8 = true → ¬ y = c := by intro c hc e; rw [e, hc] at hy; cases hy
  unfold toldI
  rw [if_neg (q 0 (by decide)), if_neg (q 1 (by decide)), if_neg (q 2 (by decide)), if_neg (q 3 (by decide)), if_neg (q 4 (by decide)), if_neg (q 5 (by decide)), if_neg (q 6 (by decide)), if_neg (q 7 (by decide))]
theorem toldI_in (s : Nat → Nat) (j : Nat) {t : Nat} (ht : t < 5) : toldI s j (nI t) = nI (s (3 + 5 * j + t)) := by
  have h5 : t = 0 ∨ t = 1 ∨ t = 2 ∨ t = 3 ∨ t = 4 := by omega
  rcases h5 with rfl | rfl | rfl | rfl | rfl
  · rfl
  · show nI (s (4 + 5 * j)) = _; rw [show 4 + 5 * j = 3 + 5 * j + 1 by omega]
  · show nI (s (5 + 5 * j)) = _; rw [show 5 + 5 * j = 3 + 5 * j + 2 by omega]
  · show nI (s (6 + 5 * j)) = _; rw [show 6 + 5 * j = 3 + 5 * j + 3 by omega]
  · show nI (s (7 + 5 * j)) = _; rw [show 7 + 5 * j = 3 + 5 * j + 4 by omega]
section
variable {E : z_E} {G : z_H} {a : Nat} {s u : Nat → Nat} {ib : Bool} {hs : Nat → Sh} (lv N k : Nat)
theorem sD_isBell (h : DW G a s ib u hs) (w : WF s) (x : Int32) : z_evM E i_D_isBell lv [.ref a, .int x] N k G = some (some (.int (z_b (isB s x))), N, k, G) := by
  have w1 := w.1
  simp only [zm_D_isBell, zr_D_isBell_0, zr_D_isBell_1, zr_D_isBell_2, zr_D_isBell_3, zr_D_isBell_6, zr_D_isBell_7, zr_D_isBell_8, zr_D_isBell_9, zr_D_isBell_10, zr_D_isBell_13, h.f0, h.st.r0, sD_isIn, inL_m x (show s 0 < 2 ^ 31 by omega), z_obs, z_pu_s, z_pu_n, z00, z10, ↓reduceIte, true_or, or_true, z_b_t, z_b_f, z01c]
  rfl
theorem sD_wrongKept (h : DW G a s ib u hs) (d : Int32) : z_evM E i_D_wrongKept lv [.ref a, .int d] N k G = some (some (.int (lkB hs d)), N, k, G) := by
  cases hd : inR d 8
  · have e : lkB hs d = -1 := by unfold lkB; rw [hd]; rfl
    rw [e]
    simp only [zm_D_wrongKept, zr_D_wrongKept_0, zr_D_wrongKept_1, zr_D_wrongKept_4, zr_D_wrongKept_7, zr_D_wrongKept_8, zr_D_wrongKept_11, zr_D_wrongKept_12, zr_D_wrongKept_15, zr_D_wrongKept_16, zr_D_wrongKept_17, zr_D_wrongKept_20, zr_D_wrongKept_22, zr_D_wrongKept_25, zr_D_wrongKept_26, zr_D_wrongKept_29, zr_D_wrongKept_30, zr_D_wrongKept_31, zr_D_wrongKept_32, zr_D_wrongKept_35, zr_D_wrongKept_37, zr_D_wrongKept_40, zr_D_wrongKept_41, sD_isShelf, hd, z_obs, z_pu_s, z_pu_n, z00, z10, ↓reduceIte, true_or, or_true, z_b_t, z_b_f]
  · obtain ⟨d, h8, rfl⟩ := inR_of (by decide) hd
    obtain ⟨c, ⟨h1, h2, h3, h4, h5⟩, h6, h7⟩ := h.sh
    have q := h7 d h8
    have r := z_aiI (E := E) h1 h8 (by decide)
    unfold lkB
    rw [hd, nI_lt8 h8]
    rcases e : hs d with _ | ⟨kk, ff⟩ | ⟨so, sz, el⟩
    · rw [e] at q
      have q : c 9 d = 0 := q
      rw [q] at r
      simp only [zm_D_wrongKept, zr_D_wrongKept_0, zr_D_wrongKept_1, zr_D_wrongKept_4, zr_D_wrongKept_7, zr_D_wrongKept_8, zr_D_wrongKept_11, zr_D_wrongKept_12, zr_D_wrongKept_15, zr_D_wrongKept_16, zr_D_wrongKept_17, zr_D_wrongKept_20, zr_D_wrongKept_22, zr_D_wrongKept_25, zr_D_wrongKept_26, zr_D_wrongKept_29, zr_D_wrongKept_30, zr_D_wrongKept_31, zr_D_wrongKept_32, zr_D_wrongKept_35, zr_D_wrongKept_37, zr_D_wrongKept_40, zr_D_wrongKept_41, sD_isShelf, hd, z_obs, z_pu_s, z_pu_n, z00, z10, ↓reduceIte, true_or, or_true, z_b_t, z_b_f, h.f14, r]
    · rw [e] at q
      rw [q.1] at r
      simp only [zm_D_wrongKept, zr_D_wrongKept_0, zr_D_wrongKept_1, zr_D_wrongKept_4, zr_D_wrongKept_7, zr_D_wrongKept_8, zr_D_wrongKept_11, zr_D_wrongKept_12, zr_D_wrongKept_15, zr_D_wrongKept_16, zr_D_wrongKept_17, zr_D_wrongKept_20, zr_D_wrongKept_22, zr_D_wrongKept_25, zr_D_wrongKept_26, zr_D_wrongKept_29, zr_D_wrongKept_30, zr_D_wrongKept_31, zr_D_wrongKept_32, zr_D_wrongKept_35, zr_D_wrongKept_37, zr_D_wrongKept_40, zr_D_wrongKept_41, sD_isShelf, hd, z_obs, z_pu_s, z_pu_n, z00, z10, ↓reduceIte, true_or, or_true, z_b_t, z_b_f, h.f14, r, show ¬ (1 : Int32) = 2 by decide]
    · rw [e] at q
      rw [q.1] at r
      simp only [zm_D_wrongKept, zr_D_wrongKept_0, zr_D_wrongKept_1, zr_D_wrongKept_4, zr_D_wrongKept_7, zr_D_wrongKept_8, zr_D_wrongKept_11, zr_D_wrongKept_12, zr_D_wrongKept_15, zr_D_wrongKept_16, zr_D_wrongKept_17, zr_D_wrongKept_20, zr_D_wrongKept_22, zr_D_wrongKept_25, zr_D_wrongKept_26, zr_D_wrongKept_29, zr_D_wrongKept_30, zr_D_wrongKept_31, zr_D_wrongKept_32, zr_D_wrongKept_35, zr_D_wrongKept_37, zr_D_wrongKept_40, zr_D_wrongKept_41, sD_isShelf, hd, z_obs, z_pu_s, z_pu_n, z00, z10, ↓reduceIte, true_or, or_true, z_b_t, z_b_f, h.f14, r, show ¬ (2 : Int32) = 0 by decide, show ((2 : Int32) = 2) = True by simp]
theorem sD_wrongRow (h : DW G a s ib u hs) (d : Int32) : z_evM E i_D_wrongRow lv [.ref a, .int d, .int (-1)] N k G = some (some (.int (lkR hs d)), N, k, G) := by
  cases hd : inR d 8
  · have e : lkR hs d = -1 := by unfold lkR; rw [hd]; rfl
    rw [e]
    simp only [zm_D_wrongRow, zr_D_wrongRow_0, zr_D_wrongRow_1, zr_D_wrongRow_4, zr_D_wrongRow_7, zr_D_wrongRow_8, zr_D_wrongRow_11, zr_D_wrongRow_12, zr_D_wrongRow_15, zr_D_wrongRow_16, zr_D_wrongRow_17, zr_D_wrongRow_20, zr_D_wrongRow_22, zr_D_wrongRow_25, zr_D_wrongRow_26, zr_D_wrongRow_29, zr_D_wrongRow_30, zr_D_wrongRow_31, zr_D_wrongRow_32, zr_D_wrongRow_35, zr_D_wrongRow_36, zr_D_wrongRow_39, zr_D_wrongRow_40, zr_D_wrongRow_43, zr_D_wrongRow_44, zr_D_wrongRow_45, zr_D_wrongRow_46, zr_D_wrongRow_49, zr_D_wrongRow_51, zr_D_wrongRow_54, zr_D_wrongRow_55, sD_isShelf, hd, z_obs, z_pu_s, z_pu_n, z00, z10, ↓reduceIte, true_or, or_true, z_b_t, z_b_f]
  · obtain ⟨d, h8, rfl⟩ := inR_of (by decide) hd
    obtain ⟨c, ⟨h1, h2, h3, h4, h5⟩, h6, h7⟩ := h.sh
    have q := h7 d h8
    have r := z_aiI (E := E) h1 h8 (by decide)
    unfold lkR
    rw [hd, nI_lt8 h8]
    rcases e : hs d with _ | ⟨kk, ff⟩ | ⟨so, sz, el⟩
    · rw [e] at q
      have q : c 9 d = 0 := q
      rw [q] at r
      simp only [zm_D_wrongRow, zr_D_wrongRow_0, zr_D_wrongRow_1, zr_D_wrongRow_4, zr_D_wrongRow_7, zr_D_wrongRow_8, zr_D_wrongRow_11, zr_D_wrongRow_12, zr_D_wrongRow_15, zr_D_wrongRow_16, zr_D_wrongRow_17, zr_D_wrongRow_20, zr_D_wrongRow_22, zr_D_wrongRow_25, zr_D_wrongRow_26, zr_D_wrongRow_29, zr_D_wrongRow_30, zr_D_wrongRow_31, zr_D_wrongRow_32, zr_D_wrongRow_35, zr_D_wrongRow_36, zr_D_wrongRow_39, zr_D_wrongRow_40, zr_D_wrongRow_43, zr_D_wrongRow_44, zr_D_wrongRow_45, zr_D_wrongRow_46, zr_D_wrongRow_49, zr_D_wrongRow_51, zr_D_wrongRow_54, zr_D_wrongRow_55, sD_isShelf, hd, z_obs, z_pu_s, z_pu_n, z00, z10, ↓reduceIte, true_or, or_true, z_b_t, z_b_f, h.f14, r]
    · rw [e] at q
      rw [q.1] at r
      simp only [zm_D_wrongRow, zr_D_wrongRow_0, zr_D_wrongRow_1, zr_D_wrongRow_4, zr_D_wrongRow_7, zr_D_wrongRow_8, zr_D_wrongRow_11, zr_D_wrongRow_12, zr_D_wrongRow_15, zr_D_wrongRow_16, zr_D_wrongRow_17, zr_D_wrongRow_20, zr_D_wrongRow_22, zr_D_wrongRow_25, zr_D_wrongRow_26, zr_D_wrongRow_29, zr_D_wrongRow_30, zr_D_wrongRow_31, zr_D_wrongRow_32, zr_D_wrongRow_35, zr_D_wrongRow_36, zr_D_wrongRow_39, zr_D_wrongRow_40, zr_D_wrongRow_43, zr_D_wrongRow_44, zr_D_wrongRow_45, zr_D_wrongRow_46, zr_D_wrongRow_49, zr_D_wrongRow_51, zr_D_wrongRow_54, zr_D_wrongRow_55, sD_isShelf, hd, z_obs, z_pu_s, z_pu_n, z00, z10, ↓reduceIte, true_or, or_true, z_b_t, z_b_f, h.f14, r, show ¬ (1 : Int32) = 2 by decide]
    · rw [e] at q
      rw [q.1] at r
      simp only [zm_D_wrongRow, zr_D_wrongRow_0, zr_D_wrongRow_1, zr_D_wrongRow_4, zr_D_wrongRow_7, zr_D_wrongRow_8, zr_D_wrongRow_11, zr_D_wrongRow_12, zr_D_wrongRow_15, zr_D_wrongRow_16, zr_D_wrongRow_17, zr_D_wrongRow_20, zr_D_wrongRow_22, zr_D_wrongRow_25, zr_D_wrongRow_26, zr_D_wrongRow_29, zr_D_wrongRow_30, zr_D_wrongRow_31, zr_D_wrongRow_32, zr_D_wrongRow_35, zr_D_wrongRow_36, zr_D_wrongRow_39, zr_D_wrongRow_40, zr_D_wrongRow_43, zr_D_wrongRow_44, zr_D_wrongRow_45, zr_D_wrongRow_46, zr_D_wrongRow_49, zr_D_wrongRow_51, zr_D_wrongRow_54, zr_D_wrongRow_55, sD_isShelf, hd, z_obs, z_pu_s, z_pu_n, z00, z10, ↓reduceIte, true_or, or_true, z_b_t, z_b_f, h.f14, r, show ¬ (2 : Int32) = 0 by decide, show ((2 : Int32) = 2) = True by simp, show ((-1 : Int32) < 0) = True from eq_true (by decide)]
theorem sD_adds (h : DW G a s ib u hs) (h6 : s 0 < 6) (kd f p : Nat) : ∃ G', z_evM E i_D_adds lv [.ref a, .int (nI kd), .int (nI f), .int (nI p)] N k G = some (none, N, k, G') ∧ DW G' a (adS s kd f p) ib u hs ∧ FR (a + 1) 1 G G' := by
  obtain ⟨G1, a1, a2, a3⟩ := h.st.wr (j := 3 + 5 * s 0) kd (by omega)
  have d1 := h.ns a2 a3
  obtain ⟨G2, b1, b2, b3⟩ := d1.st.wr (j := 4 + 5 * s 0) f (by omega)
  have d2 := d1.ns b2 b3
  obtain ⟨G3, c1, c2, c3⟩ := d2.st.wr (j := 5 + 5 * s 0) p (by omega)
  have d3 := d2.ns c2 c3
  obtain ⟨G4, e1, e2, e3⟩ := d3.st.wr (j := 6 + 5 * s 0) 0 (by omega)
  have d4 := d3.ns e2 e3
  obtain ⟨G5, f1, f2, f3⟩ := d4.st.wr (j := 7 + 5 * s 0) 0 (by omega)
  have d5 := d4.ns f2 f3
  have r0 := d5.st.r0 (E := E)
  rw [uN_n _ _ (by omega), uN_n _ _ (by omega), uN_n _ _ (by omega), uN_n _ _ (by omega), uN_n _ _ (by omega)] at r0
  obtain ⟨G6, g1, g2, g3⟩ := d5.st.wr (j := 0) (s 0 + 1) (by omega)
  rw [nI_0] at e1 f1 g1
  refine ⟨G6, ?_, d5.ns g2 g3, (((((a3.tr b3).tr c3).tr e3).tr f3).tr g3)⟩
  simp only [zm_D_adds, zr_D_adds_0, zr_D_adds_1, zr_D_adds_4, zr_D_adds_5, zr_D_adds_6, zr_D_adds_8, zr_D_adds_9, zr_D_adds_12, zr_D_adds_14, zr_D_adds_15, zr_D_adds_18, zr_D_adds_19, zr_D_adds_20, zr_D_adds_21, zr_D_adds_24, zr_D_adds_26, zr_D_adds_27, zr_D_adds_30, zr_D_adds_31, zr_D_adds_32, zr_D_adds_33, zr_D_adds_36, zr_D_adds_38, zr_D_adds_39, zr_D_adds_42, zr_D_adds_43, zr_D_adds_44, zr_D_adds_45, zr_D_adds_48, zr_D_adds_50, zr_D_adds_51, zr_D_adds_54, zr_D_adds_55, zr_D_adds_56, zr_D_adds_57, zr_D_adds_60, zr_D_adds_62, zr_D_adds_63, zr_D_adds_66, zr_D_adds_67, zr_D_adds_68, zr_D_adds_69, zr_D_adds_72, zr_D_adds_73, zr_D_adds_74, zr_D_adds_75, zr_D_adds_76, zr_D_adds_77, zr_D_adds_78, h.f0, h.st.r0, sD_of0, sD_of1, sD_of2, sD_of3, sD_of4, a1, d1.f0, b1, d2.f0, c1, d3.f0, e1, d4.f0, f1, d5.f0, r0, nI_1, g1, z_obs, z_pu_s, z_pu_n, z00, z10, ↓reduceIte, true_or, or_true, z_b_t, z_b_f]
theorem dBell (h : DW G a s ib u hs) (w : WF s) (b y : Int32) : z_evM E i_D_bell lv [.ref a, .int b, .int y] N k G = some (some (.int (aBell s b y)), N, k, G) := by
  unfold aBell
  have w1 := w.2.1
  cases hb : isB s b
  · simp only [zm_D_bell, zr_D_bell_0, zr_D_bell_1, zr_D_bell_2, zr_D_bell_5, zr_D_bell_8, zr_D_bell_9, zr_D_bell_10, zr_D_bell_12, zr_D_bell_15, zr_D_bell_18, zr_D_bell_19, zr_D_bell_20, zr_D_bell_21, zr_D_bell_22, zr_D_bell_25, zr_D_bell_26, zr_D_bell_29, zr_D_bell_30, zr_D_bell_31, zr_D_bell_34, zr_D_bell_35, zr_D_bell_36, zr_D_bell_37, zr_D_bell_38, zr_D_bell_41, zr_D_bell_42, zr_D_bell_45, zr_D_bell_46, zr_D_bell_49, zr_D_bell_52, zr_D_bell_53, zr_D_bell_55, zr_D_bell_58, zr_D_bell_59, zr_D_bell_62, zr_D_bell_63, zr_D_bell_66, zr_D_bell_69, zr_D_bell_70, zr_D_bell_73, zr_D_bell_74, zr_D_bell_75, zr_D_bell_78, zr_D_bell_79, zr_D_bell_80, zr_D_bell_83, zr_D_bell_86, zr_D_bell_87, zr_D_bell_90, zr_D_bell_91, h.cls, sD_isBell _ _ _ h w, hb, z_obs, z_pu_s, z_pu_n, z00, z10, ↓reduceIte, true_or, or_true, z_b_t, z_b_f, Bool.false_eq_true]
  · obtain ⟨j, hj, rfl⟩ := isB_of w hb
    have hj6 : j < 6 := Nat.lt_of_lt_of_le hj w.1
    rw [jNb w hj]
    cases hy : inR y 8
    · rw [toldI_out _ _ hy]
      simp only [zm_D_bell, zr_D_bell_0, zr_D_bell_1, zr_D_bell_2, zr_D_bell_5, zr_D_bell_8, zr_D_bell_9, zr_D_bell_10, zr_D_bell_12, zr_D_bell_15, zr_D_bell_18, zr_D_bell_19, zr_D_bell_20, zr_D_bell_21, zr_D_bell_22, zr_D_bell_25, zr_D_bell_26, zr_D_bell_29, zr_D_bell_30, zr_D_bell_31, zr_D_bell_34, zr_D_bell_35, zr_D_bell_36, zr_D_bell_37, zr_D_bell_38, zr_D_bell_41, zr_D_bell_42, zr_D_bell_45, zr_D_bell_46, zr_D_bell_49, zr_D_bell_52, zr_D_bell_53, zr_D_bell_55, zr_D_bell_58, zr_D_bell_59, zr_D_bell_62, zr_D_bell_63, zr_D_bell_66, zr_D_bell_69, zr_D_bell_70, zr_D_bell_73, zr_D_bell_74, zr_D_bell_75, zr_D_bell_78, zr_D_bell_79, zr_D_bell_80, zr_D_bell_83, zr_D_bell_86, zr_D_bell_87, zr_D_bell_90, zr_D_bell_91, h.cls, sD_isBell _ _ _ h w, hb, sD_isIn, il_8, hy, z_obs, z_pu_s, z_pu_n, z00, z10, ↓reduceIte, true_or, or_true, z_b_t, z_b_f]
    · obtain ⟨t, ht, rfl⟩ := inR_of (by decide) hy
      by_cases h5 : t < 5
      · rw [toldI_in s j h5]
        have c : ¬ nI 5 ≤ nI t := nI_ge h5 (by omega)
        simp only [zm_D_bell, zr_D_bell_0, zr_D_bell_1, zr_D_bell_2, zr_D_bell_5, zr_D_bell_8, zr_D_bell_9, zr_D_bell_10, zr_D_bell_12, zr_D_bell_15, zr_D_bell_18, zr_D_bell_19, zr_D_bell_20, zr_D_bell_21, zr_D_bell_22, zr_D_bell_25, zr_D_bell_26, zr_D_bell_29, zr_D_bell_30, zr_D_bell_31, zr_D_bell_34, zr_D_bell_35, zr_D_bell_36, zr_D_bell_37, zr_D_bell_38, zr_D_bell_41, zr_D_bell_42, zr_D_bell_45, zr_D_bell_46, zr_D_bell_49, zr_D_bell_52, zr_D_bell_53, zr_D_bell_55, zr_D_bell_58, zr_D_bell_59, zr_D_bell_62, zr_D_bell_63, zr_D_bell_66, zr_D_bell_69, zr_D_bell_70, zr_D_bell_73, zr_D_bell_74, zr_D_bell_75, zr_D_bell_78, zr_D_bell_79, zr_D_bell_80, zr_D_bell_83, zr_D_bell_86, zr_D_bell_87, zr_D_bell_90, zr_D_bell_91, h.cls, sD_isBell _ _ _ h w, hb, sD_isIn, il_8, hy, z_obs, z_pu_s, z_pu_n, z00, z10, ↓reduceIte, true_or, or_true, z_b_t, z_b_f, show (5 : Int32) = nI 5 from rfl, c, h.f0, sD_of, h.st.rd (show 3 + 5 * j + t < 33 by omega)]
      · have c : nI 5 ≤ nI t := nI_le (by omega) (by omega)
        have h3 : t = 5 ∨ t = 6 ∨ t = 7 := by omega
        rcases h3 with rfl | rfl | rfl
        · simp only [zm_D_bell, zr_D_bell_0, zr_D_bell_1, zr_D_bell_2, zr_D_bell_5, zr_D_bell_8, zr_D_bell_9, zr_D_bell_10, zr_D_bell_12, zr_D_bell_15, zr_D_bell_18, zr_D_bell_19, zr_D_bell_20, zr_D_bell_21, zr_D_bell_22, zr_D_bell_25, zr_D_bell_26, zr_D_bell_29, zr_D_bell_30, zr_D_bell_31, zr_D_bell_34, zr_D_bell_35, zr_D_bell_36, zr_D_bell_37, zr_D_bell_38, zr_D_bell_41, zr_D_bell_42, zr_D_bell_45, zr_D_bell_46, zr_D_bell_49, zr_D_bell_52, zr_D_bell_53, zr_D_bell_55, zr_D_bell_58, zr_D_bell_59, zr_D_bell_62, zr_D_bell_63, zr_D_bell_66, zr_D_bell_69, zr_D_bell_70, zr_D_bell_73, zr_D_bell_74, zr_D_bell_75, zr_D_bell_78, zr_D_bell_79, zr_D_bell_80, zr_D_bell_83, zr_D_bell_86, zr_D_bell_87, zr_D_bell_90, zr_D_bell_91, h.cls, sD_isBell _ _ _ h w, hb, sD_isIn, il_8, hy, z_obs, z_pu_s, z_pu_n, z00, z10, ↓reduceIte, true_or, or_true, z_b_t, z_b_f, show (5 : Int32) = nI 5 from rfl, c, h.f0, sD_wantsOf _ _ _ h.st w hj]
          rfl
        · simp only [zm_D_bell, zr_D_bell_0, zr_D_bell_1, zr_D_bell_2, zr_D_bell_5, zr_D_bell_8, zr_D_bell_9, zr_D_bell_10, zr_D_bell_12, zr_D_bell_15, zr_D_bell_18, zr_D_bell_19, zr_D_bell_20, zr_D_bell_21, zr_D_bell_22, zr_D_bell_25, zr_D_bell_26, zr_D_bell_29, zr_D_bell_30, zr_D_bell_31, zr_D_bell_34, zr_D_bell_35, zr_D_bell_36, zr_D_bell_37, zr_D_bell_38, zr_D_bell_41, zr_D_bell_42, zr_D_bell_45, zr_D_bell_46, zr_D_bell_49, zr_D_bell_52, zr_D_bell_53, zr_D_bell_55, zr_D_bell_58, zr_D_bell_59, zr_D_bell_62, zr_D_bell_63, zr_D_bell_66, zr_D_bell_69, zr_D_bell_70, zr_D_bell_73, zr_D_bell_74, zr_D_bell_75, zr_D_bell_78, zr_D_bell_79, zr_D_bell_80, zr_D_bell_83, zr_D_bell_86, zr_D_bell_87, zr_D_bell_90, zr_D_bell_91, h.cls, sD_isBell _ _ _ h w, hb, sD_isIn, il_8, hy, z_obs, z_pu_s, z_pu_n, z00, z10, ↓reduceIte, true_or, or_true, z_b_t, z_b_f, show (5 : Int32) = nI 5 from rfl, c, h.f0, sD_stepsOf _ _ _ h.st w hj, show ¬ nI 6 = nI 5 by decide, show (nI 6 = 6) = True from eq_true rfl]
          rfl
        · have e24 : s 1 % 24 = s 1 := Nat.mod_eq_of_lt w1
          have hh := sD_isHome (E := E) 0 N k h.st w hj (show s 1 < 2 ^ 31 by omega)
          unfold sH at hh
          rw [e24] at hh
          rw [show toldI s j (nI 7) = z_b (hm (sK s j) (sF s j) (s 1)) from rfl]
          cases hz : hm (sK s j) (sF s j) (s 1) <;> rw [hz] at hh <;> simp only [zm_D_bell, zr_D_bell_0, zr_D_bell_1, zr_D_bell_2, zr_D_bell_5, zr_D_bell_8, zr_D_bell_9, zr_D_bell_10, zr_D_bell_12, zr_D_bell_15, zr_D_bell_18, zr_D_bell_19, zr_D_bell_20, zr_D_bell_21, zr_D_bell_22, zr_D_bell_25, zr_D_bell_26, zr_D_bell_29, zr_D_bell_30, zr_D_bell_31, zr_D_bell_34, zr_D_bell_35, zr_D_bell_36, zr_D_bell_37, zr_D_bell_38, zr_D_bell_41, zr_D_bell_42, zr_D_bell_45, zr_D_bell_46, zr_D_bell_49, zr_D_bell_52, zr_D_bell_53, zr_D_bell_55, zr_D_bell_58, zr_D_bell_59, zr_D_bell_62, zr_D_bell_63, zr_D_bell_66, zr_D_bell_69, zr_D_bell_70, zr_D_bell_73, zr_D_bell_74, zr_D_bell_75, zr_D_bell_78, zr_D_bell_79, zr_D_bell_80, zr_D_bell_83, zr_D_bell_86, zr_D_bell_87, zr_D_bell_90, zr_D_bell_91, h.cls, sD_isBell _ _ _ h w, hb, sD_isIn, il_8, hy, z_obs, z_pu_s, z_pu_n, z00, z10, ↓reduceIte, true_or, or_true, z_b_t, z_b_f, show (5 : Int32) = nI 5 from rfl, c, h.f0, h.st.r1, hh, show ¬ nI 7 = nI 5 by decide, show ¬ nI 7 = 6 by decide]
theorem dComes (h : DW G a s ib u hs) (w : WF s) (d p : Int32) : ∃ G', z_evM E i_D_comes lv [.ref a, .int d, .int p] N k G = some (some (.int (aComes s hs d p).1), N, k, G') ∧ DW G' a (aComes s hs d p).2 ib u hs ∧ FR a 15 G G' := by
  unfold aComes
  have w1 := w.1
  cases hp : inR p 31
  · refine ⟨G, ?_, h, FR.rf⟩
    simp only [zm_D_comes, zr_D_comes_0, zr_D_comes_1, zr_D_comes_4, zr_D_comes_7, zr_D_comes_8, zr_D_comes_9, zr_D_comes_10, zr_D_comes_11, zr_D_comes_14, zr_D_comes_15, zr_D_comes_16, zr_D_comes_19, zr_D_comes_20, zr_D_comes_21, zr_D_comes_22, zr_D_comes_25, zr_D_comes_26, zr_D_comes_27, zr_D_comes_29, zr_D_comes_32, zr_D_comes_34, zr_D_comes_35, zr_D_comes_36, zr_D_comes_37, zr_D_comes_40, zr_D_comes_41, zr_D_comes_42, zr_D_comes_43, zr_D_comes_46, zr_D_comes_47, zr_D_comes_48, zr_D_comes_49, zr_D_comes_52, zr_D_comes_53, zr_D_comes_56, zr_D_comes_57, zr_D_comes_58, zr_D_comes_59, zr_D_comes_60, sD_isPlace, hp, z_obs, z_pu_s, z_pu_n, z00, z10, ↓reduceIte, true_or, or_true, z_b_t, z_b_f]
  · simp only [Bool.true_eq_false, ↓reduceIte]
    by_cases hl : lkB hs d ≠ 0
    · rw [if_pos hl]
      refine ⟨G, ?_, h, FR.rf⟩
      simp only [zm_D_comes, zr_D_comes_0, zr_D_comes_1, zr_D_comes_4, zr_D_comes_7, zr_D_comes_8, zr_D_comes_9, zr_D_comes_10, zr_D_comes_11, zr_D_comes_14, zr_D_comes_15, zr_D_comes_16, zr_D_comes_19, zr_D_comes_20, zr_D_comes_21, zr_D_comes_22, zr_D_comes_25, zr_D_comes_26, zr_D_comes_27, zr_D_comes_29, zr_D_comes_32, zr_D_comes_34, zr_D_comes_35, zr_D_comes_36, zr_D_comes_37, zr_D_comes_40, zr_D_comes_41, zr_D_comes_42, zr_D_comes_43, zr_D_comes_46, zr_D_comes_47, zr_D_comes_48, zr_D_comes_49, zr_D_comes_52, zr_D_comes_53, zr_D_comes_56, zr_D_comes_57, zr_D_comes_58, zr_D_comes_59, zr_D_comes_60, sD_isPlace, hp, h.cls, sD_wrongKept _ _ _ h, hl, z_obs, z_pu_s, z_pu_n, z00, z10, ↓reduceIte, true_or, or_true, z_b_t, z_b_f]
    · rw [if_neg hl]
      have hl0 : lkB hs d = 0 := by simpa using hl
      obtain ⟨d, kk, ff, hd, rfl, e⟩ := lkB_be hl
      obtain ⟨p, hp', rfl⟩ := inR_of (by decide) hp
      rw [jN_nI (show d < 2 ^ 31 by omega), e, jN_nI (show p < 2 ^ 31 by omega)]
      obtain ⟨c, ⟨h1, h2, h3, h4, h5⟩, h6, h7⟩ := h.sh
      have q := h7 d hd
      rw [e] at q
      have r1 := z_aiI (E := E) h2 hd (by decide)
      have r2 := z_aiI (E := E) h3 hd (by decide)
      rw [q.2.1] at r1
      rw [q.2.2.1] at r2
      dsimp only
      by_cases e6 : s 0 = 6
      · rw [if_pos e6]
        refine ⟨G, ?_, h, FR.rf⟩
        simp only [zm_D_comes, zr_D_comes_0, zr_D_comes_1, zr_D_comes_4, zr_D_comes_7, zr_D_comes_8, zr_D_comes_9, zr_D_comes_10, zr_D_comes_11, zr_D_comes_14, zr_D_comes_15, zr_D_comes_16, zr_D_comes_19, zr_D_comes_20, zr_D_comes_21, zr_D_comes_22, zr_D_comes_25, zr_D_comes_26, zr_D_comes_27, zr_D_comes_29, zr_D_comes_32, zr_D_comes_34, zr_D_comes_35, zr_D_comes_36, zr_D_comes_37, zr_D_comes_40, zr_D_comes_41, zr_D_comes_42, zr_D_comes_43, zr_D_comes_46, zr_D_comes_47, zr_D_comes_48, zr_D_comes_49, zr_D_comes_52, zr_D_comes_53, zr_D_comes_56, zr_D_comes_57, zr_D_comes_58, zr_D_comes_59, zr_D_comes_60, sD_isPlace, hp, h.cls, sD_wrongKept _ _ _ h, hl0, h.f0, h.st.r0, e6, show (nI 6 = 6) = True from eq_true rfl, z_obs, z_pu_s, z_pu_n, z00, z10, ↓reduceIte, true_or, or_true, z_b_t, z_b_f]
      · rw [if_neg e6]
        obtain ⟨G', g1, g2, g3⟩ := sD_adds (E := E) 0 N k h (show s 0 < 6 by omega) kk ff p
        have c6 : ¬ nI (s 0) = nI 6 := fun z => e6 ((nI_eq (by omega) (by omega)).mp z)
        have r0 := g2.st.r0 (E := E)
        have e0 : adS s kk ff p 0 = s 0 + 1 := by unfold adS; rw [uN_s]
        rw [e0] at r0
        refine ⟨G', ?_, g2, fun q hq => g3 q (by omega)⟩
        simp only [zm_D_comes, zr_D_comes_0, zr_D_comes_1, zr_D_comes_4, zr_D_comes_7, zr_D_comes_8, zr_D_comes_9, zr_D_comes_10, zr_D_comes_11, zr_D_comes_14, zr_D_comes_15, zr_D_comes_16, zr_D_comes_19, zr_D_comes_20, zr_D_comes_21, zr_D_comes_22, zr_D_comes_25, zr_D_comes_26, zr_D_comes_27, zr_D_comes_29, zr_D_comes_32, zr_D_comes_34, zr_D_comes_35, zr_D_comes_36, zr_D_comes_37, zr_D_comes_40, zr_D_comes_41, zr_D_comes_42, zr_D_comes_43, zr_D_comes_46, zr_D_comes_47, zr_D_comes_48, zr_D_comes_49, zr_D_comes_52, zr_D_comes_53, zr_D_comes_56, zr_D_comes_57, zr_D_comes_58, zr_D_comes_59, zr_D_comes_60, sD_isPlace, hp, h.cls, sD_wrongKept _ _ _ h, hl0, h.f0, h.st.r0, int_6, c6, h.f15, h.f16, r1, r2, g1, g2.f0, r0, nI_pred, z_obs, z_pu_s, z_pu_n, z00, z10, ↓reduceIte, true_or, or_true, z_b_t, z_b_f]
theorem dRings (h : DW G a s ib u hs) (w : WF s) (b : Int32) : ∃ G', z_evM E i_D_rings lv [.ref a, .int b] N k G = some (some (.int (aRings s b).1), N, k, G') ∧ DW G' a (aRings s b).2 ib u hs ∧ FR a 15 G G' := by
  unfold aRings
  cases hb : isB s b
  · refine ⟨G, ?_, h, FR.rf⟩
    simp only [zm_D_rings, zr_D_rings_0, zr_D_rings_1, zr_D_rings_2, zr_D_rings_5, zr_D_rings_8, zr_D_rings_9, zr_D_rings_12, zr_D_rings_13, zr_D_rings_16, zr_D_rings_19, zr_D_rings_20, h.cls, sD_isBell _ _ _ h w, hb, z_obs, z_pu_s, z_pu_n, z00, z10, ↓reduceIte, true_or, or_true, z_b_t, z_b_f, Bool.false_eq_true]
  · obtain ⟨j, hj, rfl⟩ := isB_of w hb
    obtain ⟨G', g1, g2, g3⟩ := sD_ringsIn (E := E) 0 N k h.st w hj
    rw [jNb w hj]
    refine ⟨G', ?_, h.ns g2 g3, fun q hq => g3 q (by omega)⟩
    simp only [zm_D_rings, zr_D_rings_0, zr_D_rings_1, zr_D_rings_2, zr_D_rings_5, zr_D_rings_8, zr_D_rings_9, zr_D_rings_12, zr_D_rings_13, zr_D_rings_16, zr_D_rings_19, zr_D_rings_20, h.cls, sD_isBell _ _ _ h w, hb, h.f0, g1, z_obs, z_pu_s, z_pu_n, z00, z10, ↓reduceIte, true_or, or_true, z_b_t, z_b_f]
theorem sD_canGo (h : DW G a s ib u hs) (w : WF s) (h2 : s 2 ≤ 999) {m : Nat} (hm : m ≤ 99) : z_evM E i_D_canGo lv [.ref a, .int (nI m)] N k G = some (some (.int (z_b (decide (s 2 + (s 1 + m) / 24 ≤ 999)))), N, k, G) := by
  have w1 := w.2.1
  have c24 : ¬ nI 24 = 0 := nI_ne0 (by omega) (by omega)
  by_cases hle : s 2 + (s 1 + m) / 24 ≤ 999
  · have c : ¬ nI 999 < nI (s 2 + (s 1 + m) / 24) := nI_nlt hle (by omega)
    simp only [zm_D_canGo, zr_D_canGo_0, zr_D_canGo_1, zr_D_canGo_4, zr_D_canGo_5, zr_D_canGo_6, zr_D_canGo_7, zr_D_canGo_10, zr_D_canGo_11, zr_D_canGo_12, zr_D_canGo_13, zr_D_canGo_14, zr_D_canGo_16, zr_D_canGo_17, zr_D_canGo_18, zr_D_canGo_21, zr_D_canGo_24, zr_D_canGo_25, zr_D_canGo_28, zr_D_canGo_29, h.f0, h.st.r1, h.st.r2, nI_add, int_24, int_999, c24, not_false_eq_true, pk_div (show s 1 + m < 2 ^ 31 by omega) (show 0 < 24 by omega) (show 24 < 2 ^ 31 by omega), c, z_obs, z_pu_s, z_pu_n, z00, z10, ↓reduceIte, true_or, or_true, z_b_t, z_b_f, hle, decide_true]
  · have c : nI 999 < nI (s 2 + (s 1 + m) / 24) := nI_lt (by omega) (by omega)
    simp only [zm_D_canGo, zr_D_canGo_0, zr_D_canGo_1, zr_D_canGo_4, zr_D_canGo_5, zr_D_canGo_6, zr_D_canGo_7, zr_D_canGo_10, zr_D_canGo_11, zr_D_canGo_12, zr_D_canGo_13, zr_D_canGo_14, zr_D_canGo_16, zr_D_canGo_17, zr_D_canGo_18, zr_D_canGo_21, zr_D_canGo_24, zr_D_canGo_25, zr_D_canGo_28, zr_D_canGo_29, h.f0, h.st.r1, h.st.r2, nI_add, int_24, int_999, c24, not_false_eq_true, pk_div (show s 1 + m < 2 ^ 31 by omega) (show 0 < 24 by omega) (show 24 < 2 ^ 31 by omega), c, z_obs, z_pu_s, z_pu_n, z00, z10, ↓reduceIte, true_or, or_true, z_b_t, z_b_f, hle, decide_false]
theorem psS_WF {s : Nat → Nat} (w : WF s) (m : Nat) : WF (psS s m) := by
  refine ⟨by unfold psS; rw [uN_n _ _ (by omega), uN_n _ _ (by omega)]; exact w.1, by unfold psS; rw [uN_n _ _ (by omega), uN_s]; exact Nat.mod_lt _ (by omega), Nat.zero_le _, fun b hb => ?_⟩
  have e : ∀ i, 3 ≤ i → psS s m i = s i := by intro i hi; unfold psS; rw [uN_n _ _ (by omega), uN_n _ _ (by omega)]
  have e0 : psS s m 0 = s 0 := by unfold psS; rw [uN_n _ _ (by omega), uN_n _ _ (by omega)]
  rw [e0] at hb
  have q := w.2.2.2 b hb
  unfold sK sF sP sR sO at *
  rw [e _ (by omega), e _ (by omega), e _ (by omega), e _ (by omega), e _ (by omega)]
  exact q
theorem sD_hoursGo (h : DW G a s ib u hs) (w : WF s) {m : Nat} (hm : m < 2 ^ 31) : ∃ G', z_evM E i_D_hoursGo lv [.ref a, .int (nI m)] N k G = some (none, N, k, G') ∧ DW G' a (psS s m) ib u hs ∧ FR (a + 1) 1 G G' := by
  obtain ⟨G', _, e, P⟩ := z_loopG (fun i (_ : Unit) (_ : Unit) G => z_ev E i_D_hoursGo lv 2 [some (.ref a), some (.int (nI m)), some (.int (nI i))] [] N k G) (fun _ a => a) (fun i _ G' => FR (a + 1) 1 G G' ∧ DW G' a (psS s i) ib u hs) m (fun _ _ G => some (none, N, k, G)) (fun _ _ G1 hP => by
    have c : nI m ≤ nI m := nI_le (Nat.le_refl _) (by omega)
    simp only [zr_D_hoursGo_0, zr_D_hoursGo_1, zr_D_hoursGo_2, zr_D_hoursGo_3, zr_D_hoursGo_4, zr_D_hoursGo_7, zr_D_hoursGo_8, zr_D_hoursGo_11, zr_D_hoursGo_14, zr_D_hoursGo_17, zr_D_hoursGo_20, c, z_obs, z_pu_s, z_pu_n, z00, z10, ↓reduceIte, true_or, or_true, z_b_t, z_b_f]) (fun i _ _ G1 hi hP => by
    obtain ⟨h1, h2⟩ := hP
    have c : ¬ nI m ≤ nI i := nI_ge hi (by omega)
    obtain ⟨G2, g1, g2, g3⟩ := sD_hour (E := E) 0 N k h2.st (psS_WF w i)
    rw [psS_h] at g2
    refine ⟨G2, (), ?_, h1.tr g3, h2.ns g2 g3⟩
    rw [zr_D_hoursGo_2]
    simp only [zr_D_hoursGo_0, zr_D_hoursGo_1, zr_D_hoursGo_3, zr_D_hoursGo_4, zr_D_hoursGo_7, zr_D_hoursGo_8, zr_D_hoursGo_11, zr_D_hoursGo_14, zr_D_hoursGo_17, zr_D_hoursGo_20, c, h2.f0, g1, z_obs, z_pu_s, z_pu_n, z00, z10, ↓reduceIte, true_or, or_true, z_b_t, z_b_f, nI_1]) m 0 () () G (by omega) ⟨FR.rf, by rw [psS_0 w]; exact h⟩
  refine ⟨G', ?_, P.2, P.1⟩
  simp only [zm_D_hoursGo, zr_D_hoursGo_0, zr_D_hoursGo_1]
  exact e
theorem dHours (h : DW G a s ib u hs) (w : WF s) (h2 : s 2 ≤ 999) (y : Int32) : ∃ G', z_evM E i_D_hours lv [.ref a, .int y] N k G = some (some (.int (aHours s y).1), N, k, G') ∧ DW G' a (aHours s y).2 ib u hs ∧ FR a 15 G G' := by
  unfold aHours
  cases hy : inAB y 1 99
  · refine ⟨G, ?_, h, FR.rf⟩
    simp only [zm_D_hours, zr_D_hours_0, zr_D_hours_1, zr_D_hours_2, zr_D_hours_4, zr_D_hours_7, zr_D_hours_10, zr_D_hours_11, zr_D_hours_12, zr_D_hours_13, zr_D_hours_14, zr_D_hours_17, zr_D_hours_20, zr_D_hours_22, zr_D_hours_23, zr_D_hours_24, zr_D_hours_25, zr_D_hours_28, zr_D_hours_29, zr_D_hours_32, zr_D_hours_33, zr_D_hours_34, sD_isIn, show inL y 1 99 = inAB y 1 99 from rfl, hy, z_obs, z_pu_s, z_pu_n, z00, z10, ↓reduceIte, true_or, or_true, z_b_t, z_b_f, Bool.false_eq_true]
  · obtain ⟨m, m1, m2, rfl⟩ := inAB_of (by decide) (by decide) hy
    rw [jN_nI (by omega)]
    by_cases hle : s 2 + (s 1 + m) / 24 ≤ 999
    · simp only [hle, ↓reduceIte]
      obtain ⟨G', g1, g2, g3⟩ := sD_hoursGo (E := E) 0 N k h w (show m < 2 ^ 31 by omega)
      refine ⟨G', ?_, g2, fun q hq => g3 q (by omega)⟩
      have e1 : psS s m 1 = (s 1 + m) % 24 := by unfold psS; rw [uN_n _ _ (by omega), uN_s]
      simp only [zm_D_hours, zr_D_hours_0, zr_D_hours_1, zr_D_hours_2, zr_D_hours_4, zr_D_hours_7, zr_D_hours_10, zr_D_hours_11, zr_D_hours_12, zr_D_hours_13, zr_D_hours_14, zr_D_hours_17, zr_D_hours_20, zr_D_hours_22, zr_D_hours_23, zr_D_hours_24, zr_D_hours_25, zr_D_hours_28, zr_D_hours_29, zr_D_hours_32, zr_D_hours_33, zr_D_hours_34, sD_isIn, show inL (nI m) 1 99 = inAB (nI m) 1 99 from rfl, hy, h.cls, sD_canGo _ _ _ h w h2 m2, hle, decide_true, g1, g2.f0, g2.st.r1, e1, z_obs, z_pu_s, z_pu_n, z00, z10, ↓reduceIte, true_or, or_true, z_b_t, z_b_f]
    · simp only [hle, ↓reduceIte]
      refine ⟨G, ?_, h, FR.rf⟩
      simp only [zm_D_hours, zr_D_hours_0, zr_D_hours_1, zr_D_hours_2, zr_D_hours_4, zr_D_hours_7, zr_D_hours_10, zr_D_hours_11, zr_D_hours_12, zr_D_hours_13, zr_D_hours_14, zr_D_hours_17, zr_D_hours_20, zr_D_hours_22, zr_D_hours_23, zr_D_hours_24, zr_D_hours_25, zr_D_hours_28, zr_D_hours_29, zr_D_hours_32, zr_D_hours_33, zr_D_hours_34, sD_isIn, show inL (nI m) 1 99 = inAB (nI m) 1 99 from rfl, hy, h.cls, sD_canGo _ _ _ h w h2 m2, hle, decide_false, z_obs, z_pu_s, z_pu_n, z00, z10, ↓reduceIte, true_or, or_true, z_b_t, z_b_f]
theorem dMoves (h : DW G a s ib u hs) (w : WF s) (b p : Int32) : ∃ G', z_evM E i_D_moves lv [.ref a, .int b, .int p] N k G = some (some (.int (aMoves s b p).1), N, k, G') ∧ DW G' a (aMoves s b p).2 ib u hs ∧ FR a 15 G G' := by
  unfold aMoves
  cases hb : isB s b
  · refine ⟨G, ?_, h, FR.rf⟩
    simp only [zm_D_moves, zr_D_moves_0, zr_D_moves_1, zr_D_moves_2, zr_D_moves_5, zr_D_moves_8, zr_D_moves_9, zr_D_moves_12, zr_D_moves_15, zr_D_moves_16, zr_D_moves_17, zr_D_moves_18, zr_D_moves_21, zr_D_moves_22, zr_D_moves_23, zr_D_moves_26, zr_D_moves_27, zr_D_moves_28, zr_D_moves_29, zr_D_moves_32, zr_D_moves_33, zr_D_moves_34, zr_D_moves_37, zr_D_moves_38, zr_D_moves_39, zr_D_moves_40, h.cls, sD_isBell _ _ _ h w, hb, z_obs, z_pu_s, z_pu_n, z00, z10, ↓reduceIte, true_or, or_true, z_b_t, z_b_f, Bool.false_eq_true, false_and]
  · obtain ⟨j, hj, rfl⟩ := isB_of w hb
    have hj6 : j < 6 := Nat.lt_of_lt_of_le hj w.1
    cases hp : inR p 31
    · refine ⟨G, ?_, h, FR.rf⟩
      simp only [zm_D_moves, zr_D_moves_0, zr_D_moves_1, zr_D_moves_2, zr_D_moves_5, zr_D_moves_8, zr_D_moves_9, zr_D_moves_12, zr_D_moves_15, zr_D_moves_16, zr_D_moves_17, zr_D_moves_18, zr_D_moves_21, zr_D_moves_22, zr_D_moves_23, zr_D_moves_26, zr_D_moves_27, zr_D_moves_28, zr_D_moves_29, zr_D_moves_32, zr_D_moves_33, zr_D_moves_34, zr_D_moves_37, zr_D_moves_38, zr_D_moves_39, zr_D_moves_40, h.cls, sD_isBell _ _ _ h w, hb, sD_isPlace, hp, z_obs, z_pu_s, z_pu_n, z00, z10, ↓reduceIte, true_or, or_true, z_b_t, z_b_f, Bool.false_eq_true, and_false]
    · obtain ⟨p, hp', rfl⟩ := inR_of (by decide) hp
      rw [jNb w hj, jN_nI (show p < 2 ^ 31 by omega)]
      obtain ⟨G', g1, g2, g3⟩ := h.st.wr (j := 5 + 5 * j) p (by omega)
      simp only [and_self, ↓reduceIte]
      refine ⟨G', ?_, h.ns g2 g3, fun q hq => g3 q (by omega)⟩
      simp only [zm_D_moves, zr_D_moves_0, zr_D_moves_1, zr_D_moves_2, zr_D_moves_5, zr_D_moves_8, zr_D_moves_9, zr_D_moves_12, zr_D_moves_15, zr_D_moves_16, zr_D_moves_17, zr_D_moves_18, zr_D_moves_21, zr_D_moves_22, zr_D_moves_23, zr_D_moves_26, zr_D_moves_27, zr_D_moves_28, zr_D_moves_29, zr_D_moves_32, zr_D_moves_33, zr_D_moves_34, zr_D_moves_37, zr_D_moves_38, zr_D_moves_39, zr_D_moves_40, h.cls, sD_isBell _ _ _ h w, hb, sD_isPlace, hp, h.f0, sD_of2, h.st.k2 hj6, g1, z_obs, z_pu_s, z_pu_n, z00, z10, ↓reduceIte, true_or, or_true, z_b_t, z_b_f]
theorem sD_homeAt (h : DW G a s ib u hs) (w : WF s) {t : Nat} (ht : t < 2 ^ 31) : z_evM E i_D_homeAt lv [.ref a, .int (nI t)] N k G = some (some (.int (hmI s (t % 24))), N, k, G) := by
  have h6 := w.1
  simp only [zm_D_homeAt, zr_D_homeAt_0, zr_D_homeAt_1, zr_D_homeAt_2, zr_D_homeAt_3]
  refine z_loop (fun i acc => z_ev E i_D_homeAt lv 4 [some (.ref a), some (.int (nI t)), some (.int acc), some (.int (nI i))] [] N k G) (fun b acc => acc ||| (if hm (sK s b) (sF s b) (t % 24) = true then (1 : Int32) <<< (nI b &&& 31) else 0)) (s 0) (fun acc => some (some (.int acc), N, k, G)) ?_ ?_ (s 0) 0 0 (by omega)
  · intro acc
    have c : nI (s 0) ≤ nI (s 0) := nI_le (Nat.le_refl _) (by omega)
    simp only [zr_D_homeAt_0, zr_D_homeAt_1, zr_D_homeAt_2, zr_D_homeAt_3, zr_D_homeAt_4, zr_D_homeAt_5, zr_D_homeAt_6, zr_D_homeAt_9, zr_D_homeAt_10, zr_D_homeAt_11, zr_D_homeAt_14, zr_D_homeAt_15, zr_D_homeAt_16, zr_D_homeAt_19, zr_D_homeAt_20, zr_D_homeAt_21, zr_D_homeAt_24, zr_D_homeAt_27, zr_D_homeAt_28, zr_D_homeAt_29, zr_D_homeAt_30, zr_D_homeAt_33, zr_D_homeAt_34, zr_D_homeAt_35, zr_D_homeAt_36, zr_D_homeAt_39, zr_D_homeAt_42, zr_D_homeAt_43, h.f0, h.st.r0, c, z_obs, z_pu_s, z_pu_n, z00, z10, ↓reduceIte, true_or, or_true, z_b_t, z_b_f]
  · intro i acc hi
    have c : ¬ nI (s 0) ≤ nI i := nI_ge hi (by omega)
    have hh := sD_isHome (E := E) 0 N k h.st w hi ht
    unfold sH at hh
    rw [zr_D_homeAt_4]
    cases hb : hm (sK s i) (sF s i) (t % 24) <;> rw [hb] at hh <;> simp only [zr_D_homeAt_0, zr_D_homeAt_1, zr_D_homeAt_2, zr_D_homeAt_3, zr_D_homeAt_5, zr_D_homeAt_6, zr_D_homeAt_9, zr_D_homeAt_10, zr_D_homeAt_11, zr_D_homeAt_14, zr_D_homeAt_15, zr_D_homeAt_16, zr_D_homeAt_19, zr_D_homeAt_20, zr_D_homeAt_21, zr_D_homeAt_24, zr_D_homeAt_27, zr_D_homeAt_28, zr_D_homeAt_29, zr_D_homeAt_30, zr_D_homeAt_33, zr_D_homeAt_34, zr_D_homeAt_35, zr_D_homeAt_36, zr_D_homeAt_39, zr_D_homeAt_42, zr_D_homeAt_43, h.f0, h.st.r0, c, hh, z_obs, z_pu_s, z_pu_n, z00, z10, ↓reduceIte, true_or, or_true, z_b_t, z_b_f, nI_1, Bool.false_eq_true]
theorem sD_homeAt' (h : DW G a s ib u hs) (w : WF s) {t : Nat} (ht : t < 24) : z_evM E i_D_homeAt lv [.ref a, .int (nI t)] N k G = some (some (.int (hmI s t)), N, k, G) := by
  have := sD_homeAt (E := E) lv N k h w (show t < 2 ^ 31 by omega)
  rw [Nat.mod_eq_of_lt ht] at this
  exact this
theorem dHome (h : DW G a s ib u hs) (w : WF s) (y : Int32) : z_evM E i_D_home lv [.ref a, .int y] N k G = some (some (.int (aHome s y)), N, k, G) := by
  unfold aHome
  cases hy : inR y 24
  · simp only [zm_D_home, zr_D_home_0, zr_D_home_1, zr_D_home_2, zr_D_home_4, zr_D_home_7, zr_D_home_10, zr_D_home_11, zr_D_home_12, zr_D_home_15, zr_D_home_18, zr_D_home_19, sD_isIn, il_24, hy, z_obs, z_pu_s, z_pu_n, z00, z10, ↓reduceIte, true_or, or_true, z_b_t, z_b_f, Bool.false_eq_true]
  · obtain ⟨t, ht, rfl⟩ := inR_of (by decide) hy
    rw [jN_nI (by omega)]
    simp only [zm_D_home, zr_D_home_0, zr_D_home_1, zr_D_home_2, zr_D_home_4, zr_D_home_7, zr_D_home_10, zr_D_home_11, zr_D_home_12, zr_D_home_15, zr_D_home_18, zr_D_home_19, sD_isIn, il_24, hy, h.cls, sD_homeAt' _ _ _ h w ht, z_obs, z_pu_s, z_pu_n, z00, z10, ↓reduceIte, true_or, or_true, z_b_t, z_b_f]
theorem sD_hoursHome (h : DW G a s ib u hs) (w : WF s) {j : Nat} (hj : j < s 0) : z_evM E i_D_hoursHome lv [.ref a, .int (nI j)] N k G = some (some (.int (hb (sK s j) (sF s j))), N, k, G) := by
  have q := w.2.2.2 j hj
  rw [← hh_hb _ q.1 _ q.2.1]
  simp only [zm_D_hoursHome, zr_D_hoursHome_0, zr_D_hoursHome_1, zr_D_hoursHome_2, zr_D_hoursHome_3]
  refine z_loop (fun i acc => z_ev E i_D_hoursHome lv 4 [some (.ref a), some (.int (nI j)), some (.int acc), some (.int (nI i))] [] N k G) (fun h acc => acc ||| (if hm (sK s j) (sF s j) (h % 24) = true then (1 : Int32) <<< (nI h &&& 31) else 0)) 24 (fun acc => some (some (.int acc), N, k, G)) ?_ ?_ 24 0 0 (by omega)
  · intro acc
    have c : nI 24 ≤ nI 24 := nI_le (Nat.le_refl _) (by omega)
    simp only [zr_D_hoursHome_0, zr_D_hoursHome_1, zr_D_hoursHome_2, zr_D_hoursHome_3, zr_D_hoursHome_4, zr_D_hoursHome_5, zr_D_hoursHome_7, zr_D_hoursHome_10, zr_D_hoursHome_11, zr_D_hoursHome_12, zr_D_hoursHome_15, zr_D_hoursHome_16, zr_D_hoursHome_17, zr_D_hoursHome_20, zr_D_hoursHome_23, zr_D_hoursHome_24, zr_D_hoursHome_25, zr_D_hoursHome_26, zr_D_hoursHome_29, zr_D_hoursHome_30, zr_D_hoursHome_31, zr_D_hoursHome_32, zr_D_hoursHome_35, zr_D_hoursHome_38, zr_D_hoursHome_39, int_24, c, z_obs, z_pu_s, z_pu_n, z00, z10, ↓reduceIte, true_or, or_true, z_b_t, z_b_f]
  · intro i acc hi
    have c : ¬ nI 24 ≤ nI i := nI_ge hi (by omega)
    have hh := sD_isHome (E := E) 0 N k h.st w hj (show i < 2 ^ 31 by omega)
    unfold sH at hh
    rw [zr_D_hoursHome_4]
    cases hb : hm (sK s j) (sF s j) (i % 24) <;> rw [hb] at hh <;> simp only [zr_D_hoursHome_0, zr_D_hoursHome_1, zr_D_hoursHome_2, zr_D_hoursHome_3, zr_D_hoursHome_5, zr_D_hoursHome_7, zr_D_hoursHome_10, zr_D_hoursHome_11, zr_D_hoursHome_12, zr_D_hoursHome_15, zr_D_hoursHome_16, zr_D_hoursHome_17, zr_D_hoursHome_20, zr_D_hoursHome_23, zr_D_hoursHome_24, zr_D_hoursHome_25, zr_D_hoursHome_26, zr_D_hoursHome_29, zr_D_hoursHome_30, zr_D_hoursHome_31, zr_D_hoursHome_32, zr_D_hoursHome_35, zr_D_hoursHome_38, zr_D_hoursHome_39, int_24, c, h.f0, hh, z_obs, z_pu_s, z_pu_n, z00, z10, ↓reduceIte, true_or, or_true, z_b_t, z_b_f, nI_1, Bool.false_eq_true]
theorem dHoursOf (h : DW G a s ib u hs) (w : WF s) (b : Int32) : z_evM E i_D_hoursOf lv [.ref a, .int b] N k G = some (some (.int (aHoursOf s b)), N, k, G) := by
  unfold aHoursOf
  cases hb : isB s b
  · simp only [zm_D_hoursOf, zr_D_hoursOf_0, zr_D_hoursOf_1, zr_D_hoursOf_2, zr_D_hoursOf_5, zr_D_hoursOf_8, zr_D_hoursOf_9, zr_D_hoursOf_10, zr_D_hoursOf_13, zr_D_hoursOf_16, zr_D_hoursOf_17, h.cls, sD_isBell _ _ _ h w, hb, z_obs, z_pu_s, z_pu_n, z00, z10, ↓reduceIte, true_or, or_true, z_b_t, z_b_f, Bool.false_eq_true]
  · obtain ⟨j, hj, rfl⟩ := isB_of w hb
    simp only [zm_D_hoursOf, zr_D_hoursOf_0, zr_D_hoursOf_1, zr_D_hoursOf_2, zr_D_hoursOf_5, zr_D_hoursOf_8, zr_D_hoursOf_9, zr_D_hoursOf_10, zr_D_hoursOf_13, zr_D_hoursOf_16, zr_D_hoursOf_17, h.cls, sD_isBell _ _ _ h w, hb, sD_hoursHome _ _ _ h w hj, z_obs, z_pu_s, z_pu_n, z00, z10, ↓reduceIte, true_or, or_true, z_b_t, z_b_f, jNb w hj]
end
