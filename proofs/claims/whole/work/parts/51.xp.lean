/-! THE CLASS: rows made, put, copied -/
theorem RA.wr {G : z_H} {r so sz : Nat} {el : Nat → Int32} (h : RA G r so sz el) (hz : sz ≤ 100) {j : Nat} (hj : j < sz) (v : Int32) : ∃ G', z_pi G (r + 1) (nI j) v = some G' ∧ RA G' r so sz (upd el j v) ∧ ∀ q, q ≠ r + 1 → G' q = G q := by
  obtain ⟨h0, g, h1, h2⟩ := h
  refine ⟨_, z_piI h1 hj (by omega), ⟨by rw [z_up_n _ _ (by omega)]; exact h0, _, z_up_s _ _ _, fun i hi => ?_⟩, fun q hq => z_up_n _ _ hq⟩
  unfold upd
  by_cases e : i = j
  · rw [if_pos e, if_pos e]
  · rw [if_neg e, if_neg e]; exact h2 i hi
section
variable {E : z_E} {G G' : z_H} {x : Nat} {s u : Nat → Nat} {ib : Bool} {hs : Nat → Sh} {n n' : Nat} (lv N k : Nat)
theorem sR_setAt {r so sz : Nat} {el : Nat → Int32} (h : RA G r so sz el) (hz : sz ≤ 100) (hso : so < 3) {j : Nat} (hj : j < sz) (v : Int32) : ∃ G', z_evM E i_R_setAt lv [.ref r, .int (nI j), .int v] N k G = some (none, N, k, G') ∧ RA G' r so sz (upd el j (cvI so v)) ∧ ∀ q, q ≠ r + 1 → G' q = G q := by
  have hin := inR_nI (show sz < 2 ^ 31 by omega) hj
  have hc : so = 0 ∨ so = 1 ∨ so = 2 := by omega
  obtain ⟨G', g1, g2, g3⟩ := h.wr hz hj (cvI so v)
  refine ⟨G', ?_, g2, g3⟩
  rcases hc with rfl | rfl | rfl
  · have e : cvI 0 v = v.toInt8.toInt32 := rfl
    rw [e] at g1
    simp only [zm_R_setAt, zr_R_setAt_0, zr_R_setAt_1, zr_R_setAt_2, zr_R_setAt_5, zr_R_setAt_8, zr_R_setAt_9, zr_R_setAt_12, zr_R_setAt_13, zr_R_setAt_14, zr_R_setAt_17, zr_R_setAt_20, zr_R_setAt_21, zr_R_setAt_22, zr_R_setAt_25, zr_R_setAt_26, zr_R_setAt_29, zr_R_setAt_30, zr_R_setAt_33, zr_R_setAt_34, zr_R_setAt_35, zr_R_setAt_38, zr_R_setAt_39, zr_R_setAt_40, h.cls, sR_has _ _ _ h, hin, h.f1, h.f0, show (nI 0 = 0) = True from eq_true rfl, g1, z_obs, z_pu_s, z_pu_n, z00, z10, ↓reduceIte, true_or, or_true, z_b_t, z_b_f]
  · have e : cvI 1 v = v.toInt16.toInt32 := rfl
    rw [e] at g1
    simp only [zm_R_setAt, zr_R_setAt_0, zr_R_setAt_1, zr_R_setAt_2, zr_R_setAt_5, zr_R_setAt_8, zr_R_setAt_9, zr_R_setAt_12, zr_R_setAt_13, zr_R_setAt_14, zr_R_setAt_17, zr_R_setAt_20, zr_R_setAt_21, zr_R_setAt_22, zr_R_setAt_25, zr_R_setAt_26, zr_R_setAt_29, zr_R_setAt_30, zr_R_setAt_33, zr_R_setAt_34, zr_R_setAt_35, zr_R_setAt_38, zr_R_setAt_39, zr_R_setAt_40, h.cls, sR_has _ _ _ h, hin, h.f1, h.f0, show (nI 1 = 0) = False from eq_false (by decide), show (nI 1 = 1) = True from eq_true rfl, g1, z_obs, z_pu_s, z_pu_n, z00, z10, ↓reduceIte, true_or, or_true, z_b_t, z_b_f]
  · have e : cvI 2 v = v := rfl
    rw [e] at g1
    simp only [zm_R_setAt, zr_R_setAt_0, zr_R_setAt_1, zr_R_setAt_2, zr_R_setAt_5, zr_R_setAt_8, zr_R_setAt_9, zr_R_setAt_12, zr_R_setAt_13, zr_R_setAt_14, zr_R_setAt_17, zr_R_setAt_20, zr_R_setAt_21, zr_R_setAt_22, zr_R_setAt_25, zr_R_setAt_26, zr_R_setAt_29, zr_R_setAt_30, zr_R_setAt_33, zr_R_setAt_34, zr_R_setAt_35, zr_R_setAt_38, zr_R_setAt_39, zr_R_setAt_40, h.cls, sR_has _ _ _ h, hin, h.f1, h.f0, show (nI 2 = 0) = False from eq_false (by decide), show (nI 2 = 1) = False from eq_false (by decide), g1, z_obs, z_pu_s, z_pu_n, z00, z10, ↓reduceIte, true_or, or_true, z_b_t, z_b_f]
/-- one shelf's row changes -/
theorem XW.rowUp (h : XW G x s ib u hs n) {d so sz r : Nat} {el el' : Nat → Int32} (hd : d < 8) (e : hs d = Sh.ro so sz el) (hr : ∃ fR, G (x + 30) = some (obR 8 fR) ∧ fR d = some r) (hq : ∀ q, q ≠ r + 1 → G' q = G q) (hR : RA G' r so sz el') : XW G' x s ib u (upS hs d (Sh.ro so sz el')) n ∧ XF x G G' := by
  obtain ⟨fB, fR, s1, s2, s3, s4⟩ := h.sh
  obtain ⟨fR', t1, t2⟩ := hr
  rw [s2] at t1
  have hff : fR' = fR := by
    injection t1 with t1
    injection t1 with t1
    injection t1 with _ t1
    injection t1 with _ t1
    injection t1 with t1
    injection t1 with t1
    injection t1 with t1
    injection t1 with t1
    exact t1.symm
  subst hff
  have q := s3 d hd
  rw [e] at q
  obtain ⟨a1, a2, a3, r', a4, a5, a6, a7⟩ := q
  have hrr : r' = r := by rw [t2] at a4; injection a4 with a4; exact a4.symm
  subst hrr
  refine ⟨h.shelf (fun q q1 _ _ => hq q (by omega)) (fB := fB) (fR := fR') (by rw [hq _ (by omega)]; exact s1) (by rw [hq _ (by omega)]; exact s2) (fun j hj => ?_) s4, fun q hq' => hq q (by omega)⟩
  by_cases ej : j = d
  · subst ej; rw [upS_s]; exact ⟨a1, a2, a3, r', a4, a5, a6, hR⟩
  · rw [upS_n _ _ ej]
    have sj := s3 j hj
    rcases ehs : hs j with _ | ⟨k, f⟩ | ⟨so2, sz2, el2⟩
    · rw [ehs] at sj; exact sj
    · rw [ehs] at sj; exact sj
    · rw [ehs] at sj
      obtain ⟨b1, b2, b3, r2, b4, b5, b6, b7⟩ := sj
      have hne : r2 ≠ r' := fun z => ej (s4 j d r' hj hd (by rw [b4, z]) a4)
      have hne1 : r2 ≠ r' + 1 := by
        intro z
        obtain ⟨c0, g, c1, c2⟩ := a7
        have := b7.1
        rw [z, c1] at this
        cases this
      exact ⟨b1, b2, b3, r2, b4, b5, b6, b7.mono (hq _ (by omega)) (hq _ (by omega))⟩
theorem sX_rowOn_ro' (h : XW G x s ib u hs n) {d so sz : Nat} {el : Nat → Int32} (hd : d < 8) (e : hs d = Sh.ro so sz el) : ∃ r, (∀ lv N k, z_evM E i_X_rowOn lv [.ref x, .int (nI d)] N k G = some (some (.ref r), N, k, G)) ∧ RA G r so sz el ∧ x + 134 ≤ r ∧ r + 1 < n ∧ so < 3 ∧ sz ≤ 100 ∧ ∃ fR, G (x + 30) = some (obR 8 fR) ∧ fR d = some r := by
  obtain ⟨fB, fR, s1, s2, s3, s4⟩ := h.sh
  have q := s3 d hd
  rw [e] at q
  obtain ⟨q1, q2, q3, r, q4, q5, q6, q7⟩ := q
  have z := z_aqI s2 hd (by decide)
  rw [q4] at z
  refine ⟨r, fun lv N k => ?_, q7, q5, q6, q1, q2, fR, s2, q4⟩
  simp only [zm_X_rowOn, zr_X_rowOn_0, zr_X_rowOn_1, zr_X_rowOn_4, zr_X_rowOn_7, zr_X_rowOn_8, zr_X_rowOn_11, zr_X_rowOn_12, zr_X_rowOn_13, zr_X_rowOn_16, zr_X_rowOn_17, zr_X_rowOn_17n, sX_isShelf, inR_nI (show 8 < 2 ^ 31 by decide) hd, z_b_t, z10, z_obs, z_pu_s, ↓reduceIte, h.f6, z, va_rf]
theorem xPut (h : XW G x s ib u hs n) (d i v : Int32) : ∃ G', z_evM E i_X_put lv [.ref x, .int d, .int i, .int v] N k G = some (some (.int (aPut hs d i v).1), N, k, G') ∧ XW G' x s ib u (aPut hs d i v).2 n ∧ XF x G G' := by
  unfold aPut
  by_cases hl : lkR hs d ≠ 0
  · rw [if_pos hl]
    refine ⟨G, ?_, h, XF.rf⟩
    simp only [zm_X_put, zr_X_put_0, zr_X_put_1, zr_X_put_2, zr_X_put_5, zr_X_put_5n, zr_X_put_7, zr_X_put_7n, zr_X_put_9, zr_X_put_9n, zr_X_put_12, zr_X_put_13, zr_X_put_14, zr_X_put_17, h.cls, rowOn_lk _ _ _ h hl, sX_lackOfRow _ _ _ h hl, z_obs, z_pu_s, z_pu_n, z00, z10, ↓reduceIte, true_or, or_true, z_b_t, z_b_f]
  · rw [if_neg hl]
    obtain ⟨d, so, sz, el, hd, rfl, e⟩ := lkR_ro hl
    obtain ⟨r, r1, r2, r3, r4, r5, r6, r7⟩ := sX_rowOn_ro' (E := E) h hd e
    rw [jN_nI (by omega), e]
    dsimp only
    cases hi : inR i sz
    · refine ⟨G, ?_, by simpa using h, XF.rf⟩
      simp only [zm_X_put, zr_X_put_0, zr_X_put_1, zr_X_put_2, zr_X_put_5, zr_X_put_5n, zr_X_put_7, zr_X_put_7n, zr_X_put_9, zr_X_put_9n, zr_X_put_12, zr_X_put_13, zr_X_put_14, zr_X_put_17, zr_X_put_18, zr_X_put_18n, zr_X_put_20, zr_X_put_21, zr_X_put_24, zr_X_put_27, zr_X_put_29, zr_X_put_30, zr_X_put_30n, zr_X_put_32, zr_X_put_33, zr_X_put_34, zr_X_put_37, zr_X_put_38, h.cls, r1, r2.cls, sR_has _ _ _ r2, hi, z_obs, z_pu_s, z_pu_n, z00, z10, ↓reduceIte, true_or, or_true, z_b_t, z_b_f, Bool.false_eq_true]
    · obtain ⟨j, hj, rfl⟩ := inR_of (by omega) hi
      obtain ⟨G', g1, g2, g3⟩ := sR_setAt (E := E) 0 N k r2 r6 r5 hj v
      obtain ⟨k1, k2⟩ := h.rowUp hd e r7 g3 g2
      refine ⟨G', ?_, ?_, k2⟩
      · simp only [zm_X_put, zr_X_put_0, zr_X_put_1, zr_X_put_2, zr_X_put_5, zr_X_put_5n, zr_X_put_7, zr_X_put_7n, zr_X_put_9, zr_X_put_9n, zr_X_put_12, zr_X_put_13, zr_X_put_14, zr_X_put_17, zr_X_put_18, zr_X_put_18n, zr_X_put_20, zr_X_put_21, zr_X_put_24, zr_X_put_27, zr_X_put_29, zr_X_put_30, zr_X_put_30n, zr_X_put_32, zr_X_put_33, zr_X_put_34, zr_X_put_37, zr_X_put_38, h.cls, r1, r2.cls, sR_has _ _ _ r2, hi, g1, z_obs, z_pu_s, z_pu_n, z00, z10, ↓reduceIte, true_or, or_true, z_b_t, z_b_f]
      · rw [jN_nI (by omega)]; exact k1
theorem xRow (h : XW G x s ib u hs n) (hn : x + 134 ≤ n) (d so m : Int32) : ∃ N' k' G', z_evM E i_X_row lv [.ref x, .int d, .int so, .int m] n k G = some (some (.int (aRow hs d so m).1), N', k', G') ∧ n ≤ N' ∧ N' ≤ n + 2 ∧ k' ≤ k + 102 ∧ k ≤ k' ∧ XW G' x s ib u (aRow hs d so m).2 N' ∧ XF x G G' := by
  sorry
end
