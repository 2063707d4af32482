/-! THE CLASS: rows made, put, copied -/
theorem RA.wr {G : z_H} {r so sz : Nat} {el : Nat → Int32} (h : RA G r so sz el) (hz : sz ≤ 100) {j : Nat} (hj : j < sz) (v : Int32) : ∃ G', z_pi G (r + 1) (nI j) v = some G' ∧ RA G' r so sz (upd el j v) ∧ ∀ q, q ≠ r + 1 → G' q = G q := by
  obtain ⟨h0, g, h1, h2⟩ := h
  refine ⟨_, z_piI h1 hj (by omega), ⟨by rw [z_up_n _ _ (by omega)]; exact h0, _, z_up_s _ _ _, fun i hi => ?_⟩, fun q hq => z_up_n _ _ hq⟩
  unfold upd
  by_cases e : i = j
  · rw [if_pos e, if_pos e]
  · rw [if_neg e, if_neg e]; exact h2 i hi
section
variable {E : z_E} {G G' : z_H} {x : Nat} {s u : Nat → Nat} {ib : Bool} {hs : Nat → Sh} {n n' : Nat} (lv N k : Nat)
theorem sR_setAt {r so sz : Nat} {el : Nat → Int32} (h : RA G r so sz el) (hz : sz ≤ 100) (hso : so < 3) {j : Nat} (hj : j < sz) (v : Int32) : ∃ G', z_evM E i_R_setAt lv [.ref r, .int (nI j), .int v] N k G = some (none, N, k, G') ∧ RA G' r so sz (upd el j (cvI so v)) ∧ ∀ q, q ≠ r + 1 → G' q = G q := by
  have hin := inR_nI (show sz < 2 ^ 31 by omega) hj
  have hc : so = 0 ∨ so = 1 ∨ so = 2 := by omega
  obtain ⟨G', g1, g2, g3⟩ := h.wr hz hj (cvI so v)
  refine ⟨G', ?_, g2, g3⟩
  rcases hc with rfl | rfl | rfl
  · have e : cvI 0 v = v.toInt8.toInt32 := rfl
    rw [e] at g1
    simp only [zm_R_setAt, zr_R_setAt_0, zr_R_setAt_1, zr_R_setAt_2, zr_R_setAt_5, zr_R_setAt_8, zr_R_setAt_9, zr_R_setAt_12, zr_R_setAt_13, zr_R_setAt_14, zr_R_setAt_17, zr_R_setAt_20, zr_R_setAt_21, zr_R_setAt_22, zr_R_setAt_25, zr_R_setAt_26, zr_R_setAt_29, zr_R_setAt_30, zr_R_setAt_33, zr_R_setAt_34, zr_R_setAt_35, zr_R_setAt_38, zr_R_setAt_39, zr_R_setAt_40, h.cls, sR_has _ _ _ h, hin, h.f1, h.f0, show (nI 0 = 0) = True from eq_true rfl, g1, z_obs, z_pu_s, z_pu_n, z00, z10, ↓reduceIte, true_or, or_true, z_b_t, z_b_f]
  · have e : cvI 1 v = v.toInt16.toInt32 := rfl
    rw [e] at g1
    simp only [zm_R_setAt, zr_R_setAt_0, zr_R_setAt_1, zr_R_setAt_2, zr_R_setAt_5, zr_R_setAt_8, zr_R_setAt_9, zr_R_setAt_12, zr_R_setAt_13, zr_R_setAt_14, zr_R_setAt_17, zr_R_setAt_20, zr_R_setAt_21, zr_R_setAt_22, zr_R_setAt_25, zr_R_setAt_26, zr_R_setAt_29, zr_R_setAt_30, zr_R_setAt_33, zr_R_setAt_34, zr_R_setAt_35, zr_R_setAt_38, zr_R_setAt_39, zr_R_setAt_40, h.cls, sR_has _ _ _ h, hin, h.f1, h.f0, show (nI 1 = 0) = False from eq_false (by decide), show (nI 1 = 1) = True from eq_true rfl, g1, z_obs, z_pu_s, z_pu_n, z00, z10, ↓reduceIte, true_or, or_true, z_b_t, z_b_f]
  · have e : cvI 2 v = v := rfl
    rw [e] at g1
    simp only [zm_R_setAt, zr_R_setAt_0, zr_R_setAt_1, zr_R_setAt_2, zr_R_setAt_5, zr_R_setAt_8, zr_R_setAt_9, zr_R_setAt_12, zr_R_setAt_13, zr_R_setAt_14, zr_R_setAt_17, zr_R_setAt_20, zr_R_setAt_21, zr_R_setAt_22, zr_R_setAt_25, zr_R_setAt_26, zr_R_setAt_29, zr_R_setAt_30, zr_R_setAt_33, zr_R_setAt_34, zr_R_setAt_35, zr_R_setAt_38, zr_R_setAt_39, zr_R_setAt_40, h.cls, sR_has _ _ _ h, hin, h.f1, h.f0, show (nI 2 = 0) = False from eq_false (by decide), show (nI 2 = 1) = False from eq_false (by decide), g1, z_obs, z_pu_s, z_pu_n, z00, z10, ↓reduceIte, true_or, or_true, z_b_t, z_b_f]
/-- one shelf's row changes -/
theorem XW.rowUp (h : XW G x s ib u hs n) {d so sz r : Nat} {el el' : Nat → Int32} (hd : d < 8) (e : hs d = Sh.ro so sz el) (hr : ∃ fR, G (x + 30) = some (obR 8 fR) ∧ fR d = some r) (hq : ∀ q, q ≠ r + 1 → G' q = G q) (hR : RA G' r so sz el') : XW G' x s ib u (upS hs d (Sh.ro so sz el')) n ∧ XF x G G' := by
  obtain ⟨fB, fR, s1, s2, s3, s4⟩ := h.sh
  obtain ⟨fR', t1, t2⟩ := hr
  rw [s2] at t1
  have hff : fR' = fR := by
    injection t1 with t1
    injection t1 with t1
    injection t1 with _ t1
    injection t1 with _ t1
    injection t1 with t1
    injection t1 with t1
    injection t1 with t1
    injection t1 with t1
    exact t1.symm
  subst hff
  have q := s3 d hd
  rw [e] at q
  obtain ⟨a1, a2, a3, r', a4, a5, a6, a7⟩ := q
  have hrr : r' = r := by rw [t2] at a4; injection a4 with a4; exact a4.symm
  subst hrr
  refine ⟨h.shelf (fun q q1 _ _ => hq q (by omega)) (fB := fB) (fR := fR') (by rw [hq _ (by omega)]; exact s1) (by rw [hq _ (by omega)]; exact s2) (fun j hj => ?_) s4, fun q hq' => hq q (by omega)⟩
  by_cases ej : j = d
  · subst ej; rw [upS_s]; exact ⟨a1, a2, a3, r', a4, a5, a6, hR⟩
  · rw [upS_n _ _ ej]
    have sj := s3 j hj
    rcases ehs : hs j with _ | ⟨k, f⟩ | ⟨so2, sz2, el2⟩
    · rw [ehs] at sj; exact sj
    · rw [ehs] at sj; exact sj
    · rw [ehs] at sj
      obtain ⟨b1, b2, b3, r2, b4, b5, b6, b7⟩ := sj
      have hne : r2 ≠ r' := fun z => ej (s4 j d r' hj hd (by rw [b4, z]) a4)
      have hne1 : r2 ≠ r' + 1 := by
        intro z
        obtain ⟨c0, g, c1, c2⟩ := a7
        have := b7.1
        rw [z, c1] at this
        cases this
      exact ⟨b1, b2, b3, r2, b4, b5, b6, b7.mono (hq _ (by omega)) (hq _ (by omega))⟩
theorem sX_rowOn_ro' (h : XW G x s ib u hs n) {d so sz : Nat} {el : Nat → Int32} (hd : d < 8) (e : hs d = Sh.ro so sz el) : ∃ r, (∀ lv N k, z_evM E i_X_rowOn lv [.ref x, .int (nI d)] N k G = some (some (.ref r), N, k, G)) ∧ RA G r so sz el ∧ x + 134 ≤ r ∧ r + 1 < n ∧ so < 3 ∧ sz ≤ 100 ∧ ∃ fR, G (x + 30) = some (obR 8 fR) ∧ fR d = some r := by
  obtain ⟨fB, fR, s1, s2, s3, s4⟩ := h.sh
  have q := s3 d hd
  rw [e] at q
  obtain ⟨q1, q2, q3, r, q4, q5, q6, q7⟩ := q
  have z := z_aqI s2 hd (by decide)
  rw [q4] at z
  refine ⟨r, fun lv N k => ?_, q7, q5, q6, q1, q2, fR, s2, q4⟩
  simp only [zm_X_rowOn, zr_X_rowOn_0, zr_X_rowOn_1, zr_X_rowOn_4, zr_X_rowOn_7, zr_X_rowOn_8, zr_X_rowOn_11, zr_X_rowOn_12, zr_X_rowOn_13, zr_X_rowOn_16, zr_X_rowOn_17, zr_X_rowOn_17n, sX_isShelf, inR_nI (show 8 < 2 ^ 31 by decide) hd, z_b_t, z10, z_obs, z_pu_s, ↓reduceIte, h.f6, z, va_rf]
theorem xPut (h : XW G x s ib u hs n) (d i v : Int32) : ∃ G', z_evM E i_X_put lv [.ref x, .int d, .int i, .int v] N k G = some (some (.int (aPut hs d i v).1), N, k, G') ∧ XW G' x s ib u (aPut hs d i v).2 n ∧ XF x G G' := by
  unfold aPut
  by_cases hl : lkR hs d ≠ 0
  · rw [if_pos hl]
    refine ⟨G, ?_, h, XF.rf⟩
    simp only [zm_X_put, zr_X_put_0, zr_X_put_1, zr_X_put_2, zr_X_put_5, zr_X_put_5n, zr_X_put_7, zr_X_put_7n, zr_X_put_9, zr_X_put_9n, zr_X_put_12, zr_X_put_13, zr_X_put_14, zr_X_put_17, h.cls, rowOn_lk _ _ _ h hl, sX_lackOfRow _ _ _ h hl, z_obs, z_pu_s, z_pu_n, z00, z10, ↓reduceIte, true_or, or_true, z_b_t, z_b_f]
  · rw [if_neg hl]
    obtain ⟨d, so, sz, el, hd, rfl, e⟩ := lkR_ro hl
    obtain ⟨r, r1, r2, r3, r4, r5, r6, r7⟩ := sX_rowOn_ro' (E := E) h hd e
    rw [jN_nI (by omega), e]
    dsimp only
    cases hi : inR i sz
    · refine ⟨G, ?_, by simpa using h, XF.rf⟩
      simp only [zm_X_put, zr_X_put_0, zr_X_put_1, zr_X_put_2, zr_X_put_5, zr_X_put_5n, zr_X_put_7, zr_X_put_7n, zr_X_put_9, zr_X_put_9n, zr_X_put_12, zr_X_put_13, zr_X_put_14, zr_X_put_17, zr_X_put_18, zr_X_put_18n, zr_X_put_20, zr_X_put_21, zr_X_put_24, zr_X_put_27, zr_X_put_29, zr_X_put_30, zr_X_put_30n, zr_X_put_32, zr_X_put_33, zr_X_put_34, zr_X_put_37, zr_X_put_38, h.cls, r1, r2.cls, sR_has _ _ _ r2, hi, z_obs, z_pu_s, z_pu_n, z00, z10, ↓reduceIte, true_or, or_true, z_b_t, z_b_f, Bool.false_eq_true]
    · obtain ⟨j, hj, rfl⟩ := inR_of (by omega) hi
      obtain ⟨G', g1, g2, g3⟩ := sR_setAt (E := E) 0 N k r2 r6 r5 hj v
      obtain ⟨k1, k2⟩ := h.rowUp hd e r7 g3 g2
      refine ⟨G', ?_, ?_, k2⟩
      · simp only [zm_X_put, zr_X_put_0, zr_X_put_1, zr_X_put_2, zr_X_put_5, zr_X_put_5n, zr_X_put_7, zr_X_put_7n, zr_X_put_9, zr_X_put_9n, zr_X_put_12, zr_X_put_13, zr_X_put_14, zr_X_put_17, zr_X_put_18, zr_X_put_18n, zr_X_put_20, zr_X_put_21, zr_X_put_24, zr_X_put_27, zr_X_put_29, zr_X_put_30, zr_X_put_30n, zr_X_put_32, zr_X_put_33, zr_X_put_34, zr_X_put_37, zr_X_put_38, h.cls, r1, r2.cls, sR_has _ _ _ r2, hi, g1, z_obs, z_pu_s, z_pu_n, z00, z10, ↓reduceIte, true_or, or_true, z_b_t, z_b_f]
      · rw [jN_nI (by omega)]; exact k1
theorem ShX.lt {fB fR : Nat → Option Nat} {d r : Nat} {v : Sh} (h : ShX G x n fB fR d v) (e : fR d = some r) : r + 1 < n := by
  rcases v with _ | ⟨k, f⟩ | ⟨so, sz, el⟩
  · obtain ⟨-, h2⟩ := h; rw [h2] at e; cases e
  · obtain ⟨-, -, -, h2⟩ := h; rw [h2] at e; cases e
  · obtain ⟨-, -, -, r', h2, -, h3, -⟩ := h; rw [h2] at e; injection e with e; omega
theorem sR_init {A : z_H} {a so m : Nat} (hm : m ≤ 100) : z_evM E i_R_init lv [.ref a, .int (nI so), .int (nI m)] (a + 1) k (z_up A a (.inl (9, [.int 0, .null]))) = some (none, a + 2, k + m, z_up (z_up A (a + 1) (.inr (.int, m, .inl fun _ => 0))) a (.inl (9, [.int (nI so), .ref (a + 1)]))) := by
  have c1 : ¬ (nI m < 0 ∨ 4096 < m) := by
    intro z
    rcases z with z | z
    · exact nI_pos (by omega) z
    · omega
  have hmx : (if (0 : Int32) < nI m then nI m else 0) = nI m := by
    rcases Nat.eq_zero_or_pos m with z | z
    · subst z; rfl
    · rw [if_pos (by rw [int_0]; exact nI_lt z (by omega))]
  simp only [zm_R_init, zr_R_init_0, zr_R_init_1, zr_R_init_4, zr_R_init_5, zr_R_init_6, zr_R_init_9, zr_R_init_10, zr_R_init_11, zr_R_init_12, zr_R_init_15, zr_R_init_17, zr_R_init_20, zi9_0_1, hmx, c1, nI_clamp (show m < 2 ^ 31 by omega), zn9_1_3 (show a ≠ a + 1 by omega), z_obs, z_pu_s, z_pu_n, z00, z10, ↓reduceIte, true_or, or_true, z_b_t, z_b_f]
theorem xRow (h : XW G x s ib u hs n) (hn : x + 134 ≤ n) (d so m : Int32) : ∃ N' k' G', z_evM E i_X_row lv [.ref x, .int d, .int so, .int m] n k G = some (some (.int (aRow hs d so m).1), N', k', G') ∧ n ≤ N' ∧ N' ≤ n + 2 ∧ k' ≤ k + 102 ∧ k ≤ k' ∧ XW G' x s ib u (aRow hs d so m).2 N' ∧ XF x G G' := by
  unfold aRow
  cases hd : inR d 8
  · refine ⟨n, k, G, ?_, Nat.le_refl _, by omega, by omega, Nat.le_refl _, by simpa using h, XF.rf⟩
    simp only [zm_X_row, zr_X_row_0, zr_X_row_1, zr_X_row_4, zr_X_row_7, zr_X_row_8, zr_X_row_11, zr_X_row_12, zr_X_row_13, zr_X_row_16, zr_X_row_17, zr_X_row_19, zr_X_row_22, zr_X_row_23, sX_isShelf, hd, z_obs, z_pu_s, z_pu_n, z00, z10, ↓reduceIte, true_or, or_true, z_b_t, z_b_f, Bool.false_eq_true, false_and]
  · cases hso : inR so 3
    · refine ⟨n, k, G, ?_, Nat.le_refl _, by omega, by omega, Nat.le_refl _, by simpa using h, XF.rf⟩
      by_cases s0 : so < 0
      · simp only [zm_X_row, zr_X_row_0, zr_X_row_1, zr_X_row_4, zr_X_row_7, zr_X_row_8, zr_X_row_11, zr_X_row_12, zr_X_row_13, zr_X_row_16, zr_X_row_17, zr_X_row_19, zr_X_row_22, zr_X_row_23, sX_isShelf, hd, s0, z_obs, z_pu_s, z_pu_n, z00, z10, ↓reduceIte, true_or, or_true, z_b_t, z_b_f, Bool.false_eq_true, false_and, and_false]
      · have s2 : 2 < so := by
          unfold inR at hso
          have h0' : 0 ≤ so := Int32.not_lt.mp s0
          simp only [h0', decide_true, Bool.true_and, decide_eq_false_iff_not] at hso
          have a1 := Int32.not_lt.mp hso
          have a2 := Int32.le_iff_toInt_le.mp a1
          have a3 : (nI 3).toInt = 3 := by decide
          have a4 : (2 : Int32).toInt = 2 := by decide
          exact Int32.lt_iff_toInt_lt.mpr (by omega)
        simp only [zm_X_row, zr_X_row_0, zr_X_row_1, zr_X_row_4, zr_X_row_7, zr_X_row_8, zr_X_row_11, zr_X_row_12, zr_X_row_13, zr_X_row_16, zr_X_row_17, zr_X_row_19, zr_X_row_22, zr_X_row_23, sX_isShelf, hd, s0, s2, z_obs, z_pu_s, z_pu_n, z00, z10, ↓reduceIte, true_or, or_true, z_b_t, z_b_f, Bool.false_eq_true, false_and, and_false]
    · obtain ⟨so, so3, rfl⟩ := inR_of (by decide) hso
      have s0 : ¬ nI so < 0 := nI_pos (by omega)
      have s2' : ¬ nI 2 < nI so := nI_nlt (show so ≤ 2 by omega) (by omega)
      have s2 : ¬ 2 < nI so := s2'
      by_cases hm : m ≤ 100
      · by_cases m0 : m < 0
        · have c : ¬ 0 ≤ m := Int32.not_le.mpr m0
          refine ⟨n, k, G, ?_, Nat.le_refl _, by omega, by omega, Nat.le_refl _, by simp only [true_and, hm, m0, ↓reduceIte]; exact h, XF.rf⟩
          simp only [zm_X_row, zr_X_row_0, zr_X_row_1, zr_X_row_4, zr_X_row_7, zr_X_row_8, zr_X_row_11, zr_X_row_12, zr_X_row_13, zr_X_row_16, zr_X_row_17, zr_X_row_19, zr_X_row_22, zr_X_row_23, zr_X_row_24, zr_X_row_25, zr_X_row_28, zr_X_row_30, sX_isShelf, hd, s0, s2, hm, m0, c, z_obs, z_pu_s, z_pu_n, z00, z10, ↓reduceIte, true_or, or_true, z_b_t, z_b_f, and_self]
        · have c : 0 ≤ m := Int32.not_lt.mp m0
          obtain ⟨d, hd8, rfl⟩ := inR_of (by decide) hd
          obtain ⟨m, m1, rfl⟩ := nI_of m0
          have hm' : m ≤ 100 := (nI_leI m1 (b := 100) (by omega)).mp hm
          obtain ⟨fB, fR, t1, t2, t3, t4⟩ := h.sh
          have p1 : z_pq G (x + 29) (nI d) .null = some (z_up G (x + 29) (obB 8 (va_up fB d none))) := z_pqN t1 hd8 (by decide)
          have g6 : ∀ t f, z_gf (z_up G (x + 29) (obB 8 (va_up fB d none))) x [6, 11, 11, t, f] = some (.ref (x + 30)) := fun t f => z_gfI (by rw [z_up_n _ _ (by omega)]; exact h.o) (by decide) (by decide) rfl
          have hI := sR_init (E := E) 0 (k + 2) (A := z_up G (x + 29) (obB 8 (va_up fB d none))) (a := n) (so := so) hm'
          have e5 : z_up (z_up (z_up G (x + 29) (obB 8 (va_up fB d none))) (n + 1) (.inr (.int, m, .inl fun _ => 0))) n (.inl (9, [.int (nI so), .ref (n + 1)])) (x + 30) = some (obR 8 fR) := by rw [z_up_n _ _ (by omega), z_up_n _ _ (by omega), z_up_n _ _ (by omega)]; exact t2
          have p2 := z_pqI e5 hd8 (by decide) (z_up_s _ n _) (show z_takes "BellThatIsADoor$Row" 9 = true by decide)
          have ee : ∀ q, q ≠ x + 29 → q ≠ x + 30 → q ≠ n → q ≠ n + 1 → z_up (z_up (z_up (z_up G (x + 29) (obB 8 (va_up fB d none))) (n + 1) (.inr (.int, m, .inl fun _ => 0))) n (.inl (9, [.int (nI so), .ref (n + 1)]))) (x + 30) (obR 8 (va_up fR d (some n))) q = G q := fun q q1 q2 q3 q4 => by rw [z_up_n _ _ q2, z_up_n _ _ q3, z_up_n _ _ q4, z_up_n _ _ q1]
          rw [jN_nI (show d < 2 ^ 31 by omega), jN_nI (show so < 2 ^ 31 by omega), jN_nI m1]
          simp only [true_and, hm, m0, ↓reduceIte]
          refine ⟨n + 2, k + 2 + m, _, ?_, by omega, Nat.le_refl _, by omega, by omega, h.shelf (n' := n + 2) (fun q q1 q2 q3 => ee q q2 q3 (by omega) (by omega)) (fB := va_up fB d none) (fR := va_up fR d (some n)) (by rw [z_up_n _ _ (by omega), z_up_n _ _ (by omega), z_up_n _ _ (by omega)]; exact z_up_s _ _ _) (z_up_s _ _ _) (fun j hj => ?_) (fun a b r ha hb h1 h2 => ?_), fun q hq => ee q (by omega) (by omega) (by omega) (by omega)⟩
          · simp only [zm_X_row, zr_X_row_0, zr_X_row_1, zr_X_row_4, zr_X_row_7, zr_X_row_8, zr_X_row_11, zr_X_row_12, zr_X_row_13, zr_X_row_16, zr_X_row_17, zr_X_row_19, zr_X_row_22, zr_X_row_23, zr_X_row_24, zr_X_row_25, zr_X_row_28, zr_X_row_30, zr_X_row_31, zr_X_row_32, zr_X_row_35, zr_X_row_36, zr_X_row_37, zr_X_row_38, zr_X_row_39, zr_X_row_42, zr_X_row_43, zr_X_row_46, zr_X_row_47, zr_X_row_48, zr_X_row_49, zr_X_row_52, zr_X_row_53, zr_X_row_54, sX_isShelf, hd, s0, s2, hm, c, h.f5, p1, g6, hI, z_obs, z_pu_s, z_pu_n, z00, z10, ↓reduceIte, true_or, or_true, z_b_t, z_b_f]
            exact congrArg (fun o : Option z_H => o.bind fun G1 => some (some (Value.int 0), n + 2, k + 2 + m, G1)) p2
          · by_cases ej : j = d
            · subst ej
              rw [upS_s]
              exact ⟨so3, hm', va_up_s, n, va_up_s, hn, by omega, by rw [z_up_n _ _ (by omega)]; exact z_up_s _ _ _, fun _ => 0, by rw [z_up_n _ _ (by omega), z_up_n _ _ (by omega)]; exact z_up_s _ _ _, fun _ _ => rfl⟩
            · rw [upS_n _ _ ej]
              exact ((t3 j hj).of (va_up_n ej) (va_up_n ej)).mono (by omega) fun q q1 q2 => ee q (by omega) (by omega) (by omega) (by omega)
          · by_cases ea : a = d
            · by_cases eb : b = d
              · rw [ea, eb]
              · rw [ea, va_up_s] at h1
                rw [va_up_n eb] at h2
                have := (t3 b hb).lt h2
                injection h1 with h1
                omega
            · rw [va_up_n ea] at h1
              by_cases eb : b = d
              · rw [eb, va_up_s] at h2
                have := (t3 a ha).lt h1
                injection h2 with h2
                omega
              · rw [va_up_n eb] at h2
                exact t4 a b r ha hb h1 h2
      · refine ⟨n, k, G, ?_, Nat.le_refl _, by omega, by omega, Nat.le_refl _, by simp only [hm, and_false, ↓reduceIte]; exact h, XF.rf⟩
        simp only [zm_X_row, zr_X_row_0, zr_X_row_1, zr_X_row_4, zr_X_row_7, zr_X_row_8, zr_X_row_11, zr_X_row_12, zr_X_row_13, zr_X_row_16, zr_X_row_17, zr_X_row_19, zr_X_row_22, zr_X_row_23, sX_isShelf, hd, s0, s2, hm, z_obs, z_pu_s, z_pu_n, z00, z10, ↓reduceIte, true_or, or_true, z_b_t, z_b_f, and_false]
end
