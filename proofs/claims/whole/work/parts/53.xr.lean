/-! THE CLASS: tossed -/
def tsN (k f : Nat) : Nat := if k = 7 then prc k f + 200 else if k = 0 then f else f + 100
def noF (k f : Nat) : Bool := decide (f = 0) || (decide (k = 2) || decide (k = 6))
def aToss (hs : Nat → Sh) (d : Int32) : Int32 := if lkB hs d ≠ 0 then lkB hs d else match hs (jN d) with
  | .inr (.inl (k, f)) => if noF k f = true then -15 else nI (tsN k f)
  | _ => -1
theorem ts_all : ∀ k, k < 8 → ∀ f, f < 10 → (nI f = 0 ∨ kord k = 1 ∨ kord k = 2 ↔ noF k f = true) ∧ (noF k f = false → (if kord k = 0 then nI f else if kord k = 7 then nI (prc k f) + 200 else nI f + 100) = nI (tsN k f)) := by decide +kernel
section
variable {E : z_E} {G : z_H} {x : Nat} {s u : Nat → Nat} {ib : Bool} {hs : Nat → Sh} {n : Nat} (lv N k : Nat)
theorem xToss (h : XW G x s ib u hs n) (d : Int32) : ∃ N' k', z_evM E i_X_toss lv [.ref x, .int d] N k G = some (some (.int (aToss hs d)), N', k', G) ∧ N ≤ N' ∧ N' ≤ N + 1 ∧ k ≤ k' ∧ k' ≤ k + 6 := by
  unfold aToss
  by_cases hl : lkB hs d ≠ 0
  · rw [if_pos hl]
    refine ⟨N, k, ?_, Nat.le_refl _, by omega, Nat.le_refl _, by omega⟩
    simp only [zm_X_toss, zr_X_toss_0, zr_X_toss_1, zr_X_toss_2, zr_X_toss_5, zr_X_toss_5n, zr_X_toss_6, zr_X_toss_6n, zr_X_toss_7, zr_X_toss_7n, zr_X_toss_10, zr_X_toss_11, zr_X_toss_12, zr_X_toss_15, zr_X_toss_18, zr_X_toss_18n, zr_X_toss_19, zr_X_toss_22, h.cls, bellOn_lk _ _ _ h hl, sX_lackOfBell _ _ _ h hl, z_obs, z_pu_s, z_pu_n, z00, z10, ↓reduceIte, true_or, or_true, z_b_t, z_b_f]
  · rw [if_neg hl]
    obtain ⟨d, kk, ff, hd, rfl, e⟩ := lkB_be hl
    obtain ⟨r1, r2, r3, r4⟩ := sX_bellOn_be (E := E) 0 N k h hd e
    rw [jN_nI (by omega), e]
    dsimp only
    obtain ⟨t1, t2⟩ := ts_all kk r3 ff r4
    have hk7 : ¬ 7 < kord kk := by have := kord_le kk; omega
    have hp : z_evM E 1000 0 [.ref (x + 38 + (10 * kk + ff))] N k G = z_prim 1000 [.ref (x + 38 + (10 * kk + ff))] N k G := by
      unfold z_evM
      rfl
    have hB : G (x + 38 + (10 * kk + ff)) = some (.inl (kord kk, [.int (nI kk), .int (nI ff), .int (hb kk ff), .int (nI (wt kk ff)), .int (nI (stp kk ff)), .int (nI (prc kk ff))])) := r2
    cases hn : noF kk ff
    · have c : ¬ (nI ff = 0 ∨ kord kk = 1 ∨ kord kk = 2) := fun z => by have := t1.mp z; rw [hn] at this; cases this
      refine ⟨N + 1, k + 6, ?_, by omega, Nat.le_refl _, by omega, Nat.le_refl _⟩
      have hz : z_prim 1000 [.ref (x + 38 + (10 * kk + ff))] N k G = some (some (.int (nI (tsN kk ff))), N + 1, k + 6, G) := by
        unfold z_prim
        simp only [hB, ↓reduceIte]
        rw [if_neg hk7, if_neg c, t2 hn]
      simp only [zm_X_toss, zr_X_toss_0, zr_X_toss_1, zr_X_toss_2, zr_X_toss_5, zr_X_toss_5n, zr_X_toss_6, zr_X_toss_6n, zr_X_toss_7, zr_X_toss_7n, zr_X_toss_10, zr_X_toss_11, zr_X_toss_12, zr_X_toss_15, zr_X_toss_18, zr_X_toss_18n, zr_X_toss_19, zr_X_toss_22, h.cls, r1, hp, hz, z_obs, z_pu_s, z_pu_n, z00, z10, ↓reduceIte, true_or, or_true, z_b_t, z_b_f, Bool.false_eq_true]
    · have c : nI ff = 0 ∨ kord kk = 1 ∨ kord kk = 2 := t1.mpr hn
      refine ⟨N, k, ?_, Nat.le_refl _, by omega, Nat.le_refl _, by omega⟩
      have hz : z_prim 1000 [.ref (x + 38 + (10 * kk + ff))] N k G = some (some (.int (-15)), N, k, G) := by
        unfold z_prim
        simp only [hB, ↓reduceIte]
        rw [if_neg hk7, if_pos c]
      simp only [zm_X_toss, zr_X_toss_0, zr_X_toss_1, zr_X_toss_2, zr_X_toss_5, zr_X_toss_5n, zr_X_toss_6, zr_X_toss_6n, zr_X_toss_7, zr_X_toss_7n, zr_X_toss_10, zr_X_toss_11, zr_X_toss_12, zr_X_toss_15, zr_X_toss_18, zr_X_toss_18n, zr_X_toss_19, zr_X_toss_22, h.cls, r1, hp, hz, z_obs, z_pu_s, z_pu_n, z00, z10, ↓reduceIte, true_or, or_true, z_b_t, z_b_f]
end
