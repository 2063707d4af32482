/-! THE CLASS: what would be: rings and hours in mind -/
theorem z_loopG {α β : Type} (V : Nat → α → β → z_H → Option z_R) (f : Nat → α → α) (P : Nat → α → z_H → Prop) (M : Nat) (R : α → β → z_H → Option z_R) (hx : ∀ acc j G, P M acc G → V M acc j G = R acc j G) (hs : ∀ i acc j G, i < M → P i acc G → ∃ G' j', V i acc j G = V (i + 1) (f i acc) j' G' ∧ P (i + 1) (f i acc) G') : ∀ m i acc j G, i + m = M → P i acc G → ∃ G' j', V i acc j G = R (foldN f m i acc) j' G' ∧ P M (foldN f m i acc) G' := by
  intro m
  induction m with
  | zero =>
    intro i acc j G h p
    have e : i = M := by omega
    subst e; exact ⟨G, j, hx acc j G p, p⟩
  | succ m ih =>
    intro i acc j G h p
    obtain ⟨G1, j1, e1, p1⟩ := hs i acc j G (by omega) p
    rw [e1]
    exact ih (i + 1) _ j1 G1 (by omega) p1
/-- what one ring adds -/
def ooN (v : Nat) (y : Int32) : Nat := if y = 0 then (if 100 ≤ v then 1 else 0) else if 100 ≤ v then v - 100 else v
theorem sX_oo {E : z_E} (lv N k : Nat) (G : z_H) {v : Nat} (hv : v < 2 ^ 31) (y : Int32) : z_evM E i_X_openedOrHeard lv [.int (nI v), .int y] N k G = some (some (.int (nI (ooN v y))), N, k, G) := by
  unfold ooN
  by_cases h0 : y = 0
  · by_cases h1 : 100 ≤ v
    · have c : ¬ nI v < nI 100 := nI_nlt h1 hv
      simp only [zm_X_openedOrHeard, zr_X_openedOrHeard_0, zr_X_openedOrHeard_1, zr_X_openedOrHeard_3, zr_X_openedOrHeard_6, zr_X_openedOrHeard_7, zr_X_openedOrHeard_10, zr_X_openedOrHeard_11, zr_X_openedOrHeard_12, zr_X_openedOrHeard_13, zr_X_openedOrHeard_16, zr_X_openedOrHeard_17, zr_X_openedOrHeard_20, zr_X_openedOrHeard_21, zr_X_openedOrHeard_24, zr_X_openedOrHeard_25, zr_X_openedOrHeard_26, zr_X_openedOrHeard_27, zr_X_openedOrHeard_30, zr_X_openedOrHeard_31, zr_X_openedOrHeard_33, zr_X_openedOrHeard_34, zr_X_openedOrHeard_37, zr_X_openedOrHeard_38, int_100, c, h0, h1, z_obs, z_pu_s, z_pu_n, z00, z10, ↓reduceIte, true_or, or_true, z_b_t, z_b_f]; rfl
    · have c : nI v < nI 100 := nI_lt (by omega) (by omega)
      simp only [zm_X_openedOrHeard, zr_X_openedOrHeard_0, zr_X_openedOrHeard_1, zr_X_openedOrHeard_3, zr_X_openedOrHeard_6, zr_X_openedOrHeard_7, zr_X_openedOrHeard_10, zr_X_openedOrHeard_11, zr_X_openedOrHeard_12, zr_X_openedOrHeard_13, zr_X_openedOrHeard_16, zr_X_openedOrHeard_17, zr_X_openedOrHeard_20, zr_X_openedOrHeard_21, zr_X_openedOrHeard_24, zr_X_openedOrHeard_25, zr_X_openedOrHeard_26, zr_X_openedOrHeard_27, zr_X_openedOrHeard_30, zr_X_openedOrHeard_31, zr_X_openedOrHeard_33, zr_X_openedOrHeard_34, zr_X_openedOrHeard_37, zr_X_openedOrHeard_38, int_100, c, h0, h1, z_obs, z_pu_s, z_pu_n, z00, z10, ↓reduceIte, true_or, or_true, z_b_t, z_b_f]; rfl
  · by_cases h1 : 100 ≤ v
    · have c : ¬ nI v < nI 100 := nI_nlt h1 hv
      simp only [zm_X_openedOrHeard, zr_X_openedOrHeard_0, zr_X_openedOrHeard_1, zr_X_openedOrHeard_3, zr_X_openedOrHeard_6, zr_X_openedOrHeard_7, zr_X_openedOrHeard_10, zr_X_openedOrHeard_11, zr_X_openedOrHeard_12, zr_X_openedOrHeard_13, zr_X_openedOrHeard_16, zr_X_openedOrHeard_17, zr_X_openedOrHeard_20, zr_X_openedOrHeard_21, zr_X_openedOrHeard_24, zr_X_openedOrHeard_25, zr_X_openedOrHeard_26, zr_X_openedOrHeard_27, zr_X_openedOrHeard_30, zr_X_openedOrHeard_31, zr_X_openedOrHeard_33, zr_X_openedOrHeard_34, zr_X_openedOrHeard_37, zr_X_openedOrHeard_38, int_100, c, h0, h1, z_obs, z_pu_s, z_pu_n, z00, z10, ↓reduceIte, true_or, or_true, z_b_t, z_b_f, pk_sub h1]
    · have c : nI v < nI 100 := nI_lt (by omega) (by omega)
      simp only [zm_X_openedOrHeard, zr_X_openedOrHeard_0, zr_X_openedOrHeard_1, zr_X_openedOrHeard_3, zr_X_openedOrHeard_6, zr_X_openedOrHeard_7, zr_X_openedOrHeard_10, zr_X_openedOrHeard_11, zr_X_openedOrHeard_12, zr_X_openedOrHeard_13, zr_X_openedOrHeard_16, zr_X_openedOrHeard_17, zr_X_openedOrHeard_20, zr_X_openedOrHeard_21, zr_X_openedOrHeard_24, zr_X_openedOrHeard_25, zr_X_openedOrHeard_26, zr_X_openedOrHeard_27, zr_X_openedOrHeard_30, zr_X_openedOrHeard_31, zr_X_openedOrHeard_33, zr_X_openedOrHeard_34, zr_X_openedOrHeard_37, zr_X_openedOrHeard_38, int_100, c, h0, h1, z_obs, z_pu_s, z_pu_n, z00, z10, ↓reduceIte, true_or, or_true, z_b_t, z_b_f]
theorem rgH_le {s : Nat → Nat} (w : WF s) {b : Nat} (hb : b < s 0) : rgH s b ≤ 125 := by
  obtain ⟨q1, q2, q3, q4, q5⟩ := w.2.2.2 b hb
  have q6 := wt_le _ q1 _ q2
  have a1 : 1 ≤ sW s b := q6.1
  have a2 : sS s b ≤ 25 := q6.2.2
  unfold rgH
  split
  · split
    · omega
    · next hn =>
      have : sS s b * (sR s b + 1) / sW s b ≤ sS s b := by
        apply Nat.div_le_of_le_mul
        rw [Nat.mul_comm (sW s b)]
        exact Nat.mul_le_mul_left _ (by omega)
      omega
  · omega
/-- in mind is t, as many bells as now, not much later -/
def MI (G0 : z_H) (x : Nat) (s : Nat → Nat) (ib : Bool) (u : Nat → Nat) (hs : Nat → Sh) (n D : Nat) (t : Nat → Nat) (G : z_H) : Prop := XW G x s ib u hs n ∧ FR (x + 10) 9 G0 G ∧ MA G (x + 10) t ∧ WF t ∧ t 0 = s 0 ∧ t 2 ≤ D
section
variable {E : z_E} {G0 G : z_H} {x : Nat} {s u t : Nat → Nat} {ib : Bool} {hs : Nat → Sh} {n D : Nat} (lv N k : Nat)
theorem MI.ring (h : MI G0 x s ib u hs n D t G) {j : Nat} (hj : j < s 0) : ∃ G', z_evM E i_M_hear 0 [.ref (x + 10), .int (nI j)] N k G = some (some (.int (nI (rgH t j))), N, k, G') ∧ MI G0 x s ib u hs n D (rgS t j) G' := by
  obtain ⟨h1, h2, h3, h4, h5, h6⟩ := h
  obtain ⟨G', g1, g2, g3⟩ := sM_hear (E := E) 0 N k h3 h4 (show j < t 0 by omega)
  exact ⟨G', g1, h1.mi g2 g3, h2.tr g3, g2, rgS_WF h4 j, by rw [rgS_0]; exact h5, by rw [rgS_2]; exact h6⟩
theorem MI.hour (h : MI G0 x s ib u hs n D t G) : ∃ G', z_evM E i_M_passOne 0 [.ref (x + 10)] N k G = some (none, N, k, G') ∧ MI G0 x s ib u hs n (D + 1) (hrS t) G' := by
  obtain ⟨h1, h2, h3, h4, h5, h6⟩ := h
  obtain ⟨G', g1, g2, g3⟩ := sM_passOne (E := E) 0 N k h3 h4
  refine ⟨G', g1, h1.mi g2 g3, h2.tr g3, g2, hrS_WF h4, by rw [hrS_0]; exact h5, ?_⟩
  rw [hrS_2]; split <;> omega
theorem MI.take (h : XW G x s ib u hs n) (hf : FR (x + 10) 9 G0 G) (w : WF s) (hD : s 2 ≤ D) : ∃ G', z_evM E i_M_takeFrom 0 [.ref (x + 10), .ref (x + 1)] N k G = some (none, N, k, G') ∧ MI G0 x s ib u hs n D s G' := by
  obtain ⟨t, ht⟩ := h.mind
  obtain ⟨G', g1, g2, g3⟩ := sM_takeFrom (E := E) 0 N k ht h.now (by omega) w.1
  exact ⟨G', g1, h.mi g2 g3, hf.tr g3, g2, w, rfl, hD⟩
theorem MI.mono (h : MI G0 x s ib u hs n D t G) {D' : Nat} (hD : D ≤ D') : MI G0 x s ib u hs n D' t G := ⟨h.1, h.2.1, h.2.2.1, h.2.2.2.1, h.2.2.2.2.1, Nat.le_trans h.2.2.2.2.2 hD⟩
theorem MI.mcls (h : MI G0 x s ib u hs n D t G) : z_clsOf G (x + 10) = some 8 := h.2.2.1.cls
theorem MI.rgle (h : MI G0 x s ib u hs n D t G) {j : Nat} (hj : j < s 0) : rgH t j ≤ 125 := rgH_le h.2.2.2.1 (by have := h.2.2.2.2.1; omega)
/-! behind -/
abbrev bhA : Type := (Nat → Nat) × Nat × Option Nat
def bhF (j : Nat) (_ : Nat) (a : bhA) : bhA := (hrS (rgS a.1 j), a.2.1 + ooN (rgH a.1 j) 0, some (rgH a.1 j))
def aBehind (s : Nat → Nat) (b m y : Int32) : Int32 := if isB s b = true ∧ inAB m 0 60 = true ∧ is01 y = true then (let q := foldN (bhF (jN b)) (jN m) 0 (s, 0, none)
  if y = 0 then nI q.2.1 else oI q.2.2) else -1
theorem xBehind (h : XW G x s ib u hs n) (w : WF s) (h2 : s 2 ≤ 999) (b m y : Int32) : ∃ G', z_evM E i_X_behind lv [.ref x, .int b, .int m, .int y] N k G = some (some (.int (aBehind s b m y)), N, k, G') ∧ XW G' x s ib u hs n ∧ XF x G G' := by
  unfold aBehind
  cases hb : isB s b
  · refine ⟨G, ?_, h, XF.rf⟩
    simp only [zm_X_behind, zr_X_behind_0, zr_X_behind_1, zr_X_behind_4, zr_X_behind_5, zr_X_behind_8, zr_X_behind_28, zr_X_behind_29, h.f0, h.now.cls, sM_has _ _ _ h.now, hb, z_obs, z_pu_s, z_pu_n, z00, z10, ↓reduceIte, true_or, or_true, z_b_t, z_b_f, Bool.false_eq_true, false_and]
  · obtain ⟨j, hj, rfl⟩ := isB_of w hb
    cases hm : inAB m 0 60
    · refine ⟨G, ?_, h, XF.rf⟩
      rcases inAB_f hm with c | ⟨c1, c2, c3, c4⟩
      · rw [nI_0] at c
        simp only [zm_X_behind, zr_X_behind_0, zr_X_behind_1, zr_X_behind_4, zr_X_behind_5, zr_X_behind_8, zr_X_behind_11, zr_X_behind_12, zr_X_behind_28, zr_X_behind_29, h.f0, h.now.cls, sM_has _ _ _ h.now, hb, c, z_obs, z_pu_s, z_pu_n, z00, z10, ↓reduceIte, true_or, or_true, z_b_t, z_b_f, Bool.false_eq_true, false_and, and_false]
      · rw [nI_0] at c1
        simp only [zm_X_behind, zr_X_behind_0, zr_X_behind_1, zr_X_behind_4, zr_X_behind_5, zr_X_behind_8, zr_X_behind_11, zr_X_behind_12, zr_X_behind_15, zr_X_behind_16, zr_X_behind_18, zr_X_behind_28, zr_X_behind_29, h.f0, h.now.cls, sM_has _ _ _ h.now, hb, c1, show (60 : Int32) = nI 60 from rfl, c4, z_obs, z_pu_s, z_pu_n, z00, z10, ↓reduceIte, true_or, or_true, z_b_t, z_b_f, Bool.false_eq_true, false_and, and_false]
    · obtain ⟨c1, c2, c3, c4⟩ := inAB_t hm
      rw [nI_0] at c1
      cases hy : is01 y
      · refine ⟨G, ?_, h, XF.rf⟩
        simp only [zm_X_behind, zr_X_behind_0, zr_X_behind_1, zr_X_behind_4, zr_X_behind_5, zr_X_behind_8, zr_X_behind_11, zr_X_behind_12, zr_X_behind_15, zr_X_behind_16, zr_X_behind_18, zr_X_behind_21, zr_X_behind_22, zr_X_behind_25, zr_X_behind_28, zr_X_behind_29, h.f0, h.now.cls, sM_has _ _ _ h.now, hb, c1, show (60 : Int32) = nI 60 from rfl, c4, sX_is01, hy, z_obs, z_pu_s, z_pu_n, z00, z10, ↓reduceIte, true_or, or_true, z_b_t, z_b_f, Bool.false_eq_true, false_and, and_false]
      · obtain ⟨m, m1, m2, rfl⟩ := inAB_of (by decide) (by decide) hm
        rw [jNb w hj, jN_nI (show m < 2 ^ 31 by omega)]
        obtain ⟨G1, g1, g2⟩ := MI.take (E := E) N k h FR.rf w (Nat.le_refl (s 2))
        obtain ⟨G', _, e, p⟩ := z_loopG (fun i (a : bhA) (_ : Unit) G => z_ev E i_X_behind lv 51 [some (.ref x), some (.int (nI j)), some (.int (nI m)), some (.int y), some (.int (nI a.2.1)), some (.int (oI a.2.2)), some (.int (nI i))] [] N k G) (bhF j) (fun i a G' => MI G x s ib u hs n (s 2 + i) a.1 G') m (fun a _ G => some (some (.int (if y = 0 then nI a.2.1 else oI a.2.2)), N, k, G)) (fun a _ G1 hP => by
          have c : nI m ≤ nI m := nI_le (Nat.le_refl _) (by omega)
          by_cases h0 : y = 0
          · simp only [zr_X_behind_51, zr_X_behind_53, zr_X_behind_54, zr_X_behind_91, zr_X_behind_92, zr_X_behind_95, zr_X_behind_97, zr_X_behind_102, c, h0, z_obs, z_pu_s, z_pu_n, z00, z10, ↓reduceIte, true_or, or_true, z_b_t, z_b_f]
          · simp only [zr_X_behind_51, zr_X_behind_53, zr_X_behind_54, zr_X_behind_91, zr_X_behind_92, zr_X_behind_100, zr_X_behind_102, c, h0, z_obs, z_pu_s, z_pu_n, z00, z10, ↓reduceIte, true_or, or_true, z_b_t, z_b_f]) (fun i a _ G1 hi hP => by
          have c : ¬ nI m ≤ nI i := nI_ge hi (by omega)
          obtain ⟨G2, a1, a2⟩ := hP.ring (E := E) N k hj
          obtain ⟨G3, b1, b2⟩ := a2.hour (E := E) N k
          have hv := hP.rgle hj
          refine ⟨G3, (), ?_, b2⟩
          rw [zr_X_behind_51]
          simp only [zr_X_behind_0, zr_X_behind_1, zr_X_behind_4, zr_X_behind_5, zr_X_behind_8, zr_X_behind_11, zr_X_behind_12, zr_X_behind_15, zr_X_behind_16, zr_X_behind_18, zr_X_behind_21, zr_X_behind_22, zr_X_behind_25, zr_X_behind_28, zr_X_behind_29, zr_X_behind_30, zr_X_behind_31, zr_X_behind_34, zr_X_behind_35, zr_X_behind_38, zr_X_behind_41, zr_X_behind_42, zr_X_behind_44, zr_X_behind_46, zr_X_behind_48, zr_X_behind_49, zr_X_behind_53, zr_X_behind_54, zr_X_behind_57, zr_X_behind_58, zr_X_behind_61, zr_X_behind_62, zr_X_behind_65, zr_X_behind_67, zr_X_behind_69, zr_X_behind_71, zr_X_behind_72, zr_X_behind_75, zr_X_behind_76, zr_X_behind_78, zr_X_behind_79, zr_X_behind_82, zr_X_behind_85, zr_X_behind_88, zr_X_behind_91, zr_X_behind_92, zr_X_behind_95, zr_X_behind_97, zr_X_behind_100, zr_X_behind_102, hP.1.f1, a2.1.f1, hP.mcls, a2.mcls, c, a1, b1, sX_oo _ _ _ _ (show rgH a.1 j < 2 ^ 31 by omega), z_obs, z_pu_s, z_pu_n, z00, z10, ↓reduceIte, true_or, or_true, z_b_t, z_b_f, nI_1, nI_add, bhF, oI]) m 0 (s, 0, none) () G1 (by omega) g2
        refine ⟨G', ?_, p.1, p.2.1.xf (by omega) (by omega)⟩
        simp only [and_self, ↓reduceIte]
        rw [← e]
        simp only [zm_X_behind, zr_X_behind_0, zr_X_behind_1, zr_X_behind_4, zr_X_behind_5, zr_X_behind_8, zr_X_behind_11, zr_X_behind_12, zr_X_behind_15, zr_X_behind_16, zr_X_behind_18, zr_X_behind_21, zr_X_behind_22, zr_X_behind_25, zr_X_behind_30, zr_X_behind_31, zr_X_behind_34, zr_X_behind_35, zr_X_behind_38, zr_X_behind_41, zr_X_behind_42, zr_X_behind_44, zr_X_behind_46, zr_X_behind_48, zr_X_behind_49, h.f0, h.f1, g2.mcls, h.now.cls, (show z_clsOf G (x + 10) = some 8 from by obtain ⟨t, ht⟩ := h.mind; exact ht.cls), sM_has _ _ _ h.now, hb, c1, show (60 : Int32) = nI 60 from rfl, c4, sX_is01, hy, g1, z_obs, z_pu_s, z_pu_n, z00, z10, ↓reduceIte, true_or, or_true, z_b_t, z_b_f]
        rfl
end
