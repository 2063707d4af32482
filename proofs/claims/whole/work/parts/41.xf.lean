/-! THE CLASS: what rang, the ring that would tell most -/
def g1H (k f r h : Nat) : Nat := if hm k f h = true then (if wt k f ≤ r + 1 then stp k f + 100 else stp k f * (r + 1) / wt k f) else 0
def g1R (k f r h : Nat) : Nat := if hm k f h = true then (if wt k f ≤ r + 1 then 0 else r + 1) else 0
theorem rgH_1 {t : Nat → Nat} {b : Nat} (h : t 1 < 24) : rgH t b = g1H (sK t b) (sF t b) (sR t b) (t 1) := by
  unfold rgH g1H sH sW sS
  rw [Nat.mod_eq_of_lt h]
theorem rgR_1 {t : Nat → Nat} {b : Nat} (h : t 1 < 24) : sR (rgS t b) b = g1R (sK t b) (sF t b) (sR t b) (t 1) := by
  rw [rgS_R, if_pos rfl]
  unfold g1R sH sW
  rw [Nat.mod_eq_of_lt h]
theorem hrS_1m {t : Nat → Nat} (h : t 1 < 24) : hrS t 1 = (t 1 + 1) % 24 := by
  rw [hrS_1]
  split
  · rw [Nat.mod_eq_of_lt (by omega)]
  · rw [show t 1 + 1 = 24 by omega]
theorem g1R_lt (k f r h : Nat) (hk : k < 8) (hf : f < 10) : g1R k f r h < 10 := by
  have := (wt_le k hk f hf).2.1
  unfold g1R
  split
  · split <;> omega
  · omega
/-- could it have rung so -/
def crP (so : Nat) (el : Nat → Int32) (k f : Nat) : Nat → Nat → Nat → Nat → Bool
  | 0, _, _, _ => true
  | m + 1, i, r, h => if el i ≠ lstI so ∧ el i ≠ nI (g1H k f r h) then false else crP so el k f m (i + 1) (g1R k f r h) ((h + 1) % 24)
/-- all but what is in mind and the row of what is heard by KIND is as it was -/
def FX (x : Nat) (G0 G : z_H) : Prop := ∀ q, (q < x + 10 ∨ x + 19 ≤ q) → q ≠ x + 36 → G q = G0 q
theorem FX.rf {x : Nat} {G : z_H} : FX x G G := fun _ _ _ => rfl
theorem FX.xf {x : Nat} {G G' : z_H} (h : FX x G G') : XF x G G' := fun q hq => h q (by omega) (by omega)
def MJ (G0 : z_H) (x : Nat) (s : Nat → Nat) (ib : Bool) (u : Nat → Nat) (hs : Nat → Sh) (n k f r h : Nat) (G : z_H) : Prop := XW G x s ib u hs n ∧ FX x G0 G ∧ ∃ t, MA G (x + 10) t ∧ WF t ∧ t 0 = 1 ∧ sK t 0 = k ∧ sF t 0 = f ∧ sR t 0 = r ∧ t 1 = h
section
variable {E : z_E} {G0 G : z_H} {x : Nat} {s u : Nat → Nat} {ib : Bool} {hs : Nat → Sh} {n kd f r h : Nat} (lv N k : Nat)
theorem MJ.ring (hJ : MJ G0 x s ib u hs n kd f r h G) : ∃ G', z_evM E i_M_hear 0 [.ref (x + 10), .int 0] N k G = some (some (.int (nI (g1H kd f r h))), N, k, G') ∧ MJ G0 x s ib u hs n kd f (g1R kd f r h) h G' ∧ G' (x + 36) = G (x + 36) := by
  obtain ⟨h1, h2, t, h3, h4, h5, h6, h7, h8, h9⟩ := hJ
  obtain ⟨G', g1, g2, g3⟩ := sM_hear (E := E) 0 N k h3 h4 (show 0 < t 0 by omega)
  have ht := h4.2.1
  rw [rgH_1 ht, h6, h7, h8, h9, nI_0] at g1
  refine ⟨G', g1, ⟨h1.mi g2 g3, fun q q1 q2 => by rw [g3 q (by omega)]; exact h2 q q1 q2, _, g2, rgS_WF h4 0, by rw [rgS_0]; exact h5, by rw [rgS_K]; exact h6, by rw [rgS_F]; exact h7, ?_, by rw [rgS_1]; exact h9⟩, g3 _ (by omega)⟩
  rw [rgR_1 ht, h6, h7, h8, h9]
theorem MJ.hour (hJ : MJ G0 x s ib u hs n kd f r h G) : ∃ G', z_evM E i_M_passOne 0 [.ref (x + 10)] N k G = some (none, N, k, G') ∧ MJ G0 x s ib u hs n kd f r ((h + 1) % 24) G' := by
  obtain ⟨h1, h2, t, h3, h4, h5, h6, h7, h8, h9⟩ := hJ
  obtain ⟨G', g1, g2, g3⟩ := sM_passOne (E := E) 0 N k h3 h4
  have e : ∀ i, 3 ≤ i → hrS t i = t i := fun i hi => hrS_ge hi
  exact ⟨G', g1, h1.mi g2 g3, fun q q1 q2 => by rw [g3 q (by omega)]; exact h2 q q1 q2, _, g2, hrS_WF h4, by rw [hrS_0]; exact h5, by unfold sK; rw [e _ (by omega)]; exact h6, by unfold sF; rw [e _ (by omega)]; exact h7, by unfold sR; rw [e _ (by omega)]; exact h8, by rw [hrS_1m h4.2.1, h9]⟩
theorem MJ.hold (h1 : XW G x s ib u hs n) (h2 : FX x G0 G) (hk : kd < 8) (hf : f < 10) (hr : r < 10) (hh : h < 24) : ∃ G', z_evM E i_M_holdOnly 0 [.ref (x + 10), .ref (x + 38 + (10 * kd + f)), .int (nI r), .int (nI h)] N k G = some (none, N, k, G') ∧ MJ G0 x s ib u hs n kd f r h G' ∧ G' (x + 36) = G (x + 36) := by
  obtain ⟨t, ht⟩ := h1.mind
  obtain ⟨G', g1, g2, g3⟩ := sM_holdOnly (E := E) 0 N k (r := r) (t := h) ht (h1.bs _ hk _ hf) (by omega)
  exact ⟨G', g1, ⟨h1.mi g2 g3, fun q q1 q2 => by rw [g3 q (by omega)]; exact h2 q q1 q2, _, g2, hoS_WF hk hf hr hh, hoS_0, hoS_K, hoS_F, hoS_R, hoS_1⟩, g3 _ (by omega)⟩
theorem MJ.mcls (hJ : MJ G0 x s ib u hs n kd f r h G) : z_clsOf G (x + 10) = some 8 := by obtain ⟨h1, h2, t, h3, -⟩ := hJ; exact h3.cls
theorem sX_couldRing (h1 : XW G x s ib u hs n) (w : WF s) (h2 : FX x G0 G) {q so sz : Nat} {el : Nat → Int32} (hR : RA G0 q so sz el) (hq : x + 134 ≤ q) (hso : so < 3) (hz : sz ≤ 100) (hk : kd < 8) (hf : f < 10) (hr : r < 10) : ∃ G', z_evM E i_X_couldRing lv [.ref x, .ref q, .ref (x + 38 + (10 * kd + f)), .int (nI r)] N k G = some (some (.int (z_b (crP so el kd f sz 0 r (s 1)))), N, k, G') ∧ XW G' x s ib u hs n ∧ FX x G0 G' := by
  have hRR : ∀ {G'}, FX x G0 G' → RA G' q so sz el := fun {G'} hF => hR.mono (hF _ (by omega) (by omega)) (hF _ (by omega) (by omega))
  have key : ∀ m i r h rr l6 l7 G1, i + m = sz → MJ G0 x s ib u hs n kd f r h G1 → ∃ G', z_ev E i_X_couldRing lv 31 (some (.ref x) :: some (.ref q) :: some (.ref (x + 38 + (10 * kd + f))) :: some (.int rr) :: some (.int (lstI so)) :: some (.int (nI i)) :: l6 :: l7 :: []) [] N k G1 = some (some (.int (z_b (crP so el kd f m i r h))), N, k, G') ∧ XW G' x s ib u hs n ∧ FX x G0 G' := by
    intro m
    induction m with
    | zero =>
      intro i r h rr l6 l7 G1 hi hJ
      have : i = sz := by omega
      subst this
      have c : nI i ≤ nI i := nI_le (Nat.le_refl _) (by omega)
      have q2 := hRR hJ.2.1
      refine ⟨G1, ?_, hJ.1, hJ.2.1⟩
      simp only [zr_X_couldRing_0, zr_X_couldRing_0n, zr_X_couldRing_1, zr_X_couldRing_1n, zr_X_couldRing_4, zr_X_couldRing_5, zr_X_couldRing_6, zr_X_couldRing_7, zr_X_couldRing_10, zr_X_couldRing_10n, zr_X_couldRing_11, zr_X_couldRing_12, zr_X_couldRing_13, zr_X_couldRing_16, zr_X_couldRing_19, zr_X_couldRing_22, zr_X_couldRing_22n, zr_X_couldRing_23, zr_X_couldRing_26, zr_X_couldRing_28, zr_X_couldRing_29, zr_X_couldRing_31, zr_X_couldRing_33, zr_X_couldRing_33n, zr_X_couldRing_34, zr_X_couldRing_37, zr_X_couldRing_40, zr_X_couldRing_40n, zr_X_couldRing_41, zr_X_couldRing_43, zr_X_couldRing_46, zr_X_couldRing_48, zr_X_couldRing_49, zr_X_couldRing_52, zr_X_couldRing_53, zr_X_couldRing_56, zr_X_couldRing_58, zr_X_couldRing_60, zr_X_couldRing_62, zr_X_couldRing_65, zr_X_couldRing_67, zr_X_couldRing_69, zr_X_couldRing_72, zr_X_couldRing_73, zr_X_couldRing_74, zr_X_couldRing_75, zr_X_couldRing_78, zr_X_couldRing_81, zr_X_couldRing_84, zr_X_couldRing_87, zr_X_couldRing_88, q2.cls, sR_length _ _ _ q2, c, z_obs, z_pu_s, z_pu_n, z00, z10, ↓reduceIte, true_or, or_true, z_b_t, z_b_f]
      rfl
    | succ m ih =>
      intro i r h rr l6 l7 G1 hi hJ
      have c : ¬ nI sz ≤ nI i := nI_ge (by omega) (by omega)
      have q2 := hRR hJ.2.1
      have eat : rAt sz el (nI i) = el i := by unfold rAt; rw [inR_nI (by omega) (by omega), jN_nI (by omega)]; rfl
      obtain ⟨G2, a1, a2, -⟩ := hJ.ring (E := E) N k
      unfold crP
      by_cases e1 : el i = lstI so
      · obtain ⟨G3, b1, b2⟩ := a2.hour (E := E) N k
        obtain ⟨G', g1, g2⟩ := ih (i + 1) _ _ rr (some (.int (lstI so))) (some (.int (nI (g1H kd f r h)))) G3 (by omega) b2
        refine ⟨G', ?_, g2⟩
        simp only [ne_eq, e1, not_true_eq_false, false_and, ↓reduceIte]
        rw [← g1, zr_X_couldRing_31]
        simp only [zr_X_couldRing_0, zr_X_couldRing_0n, zr_X_couldRing_1, zr_X_couldRing_1n, zr_X_couldRing_4, zr_X_couldRing_5, zr_X_couldRing_6, zr_X_couldRing_7, zr_X_couldRing_10, zr_X_couldRing_10n, zr_X_couldRing_11, zr_X_couldRing_12, zr_X_couldRing_13, zr_X_couldRing_16, zr_X_couldRing_19, zr_X_couldRing_22, zr_X_couldRing_22n, zr_X_couldRing_23, zr_X_couldRing_26, zr_X_couldRing_28, zr_X_couldRing_29, zr_X_couldRing_33, zr_X_couldRing_33n, zr_X_couldRing_34, zr_X_couldRing_37, zr_X_couldRing_40, zr_X_couldRing_40n, zr_X_couldRing_41, zr_X_couldRing_43, zr_X_couldRing_46, zr_X_couldRing_48, zr_X_couldRing_49, zr_X_couldRing_52, zr_X_couldRing_53, zr_X_couldRing_56, zr_X_couldRing_58, zr_X_couldRing_60, zr_X_couldRing_62, zr_X_couldRing_65, zr_X_couldRing_67, zr_X_couldRing_69, zr_X_couldRing_72, zr_X_couldRing_73, zr_X_couldRing_74, zr_X_couldRing_75, zr_X_couldRing_78, zr_X_couldRing_81, zr_X_couldRing_84, zr_X_couldRing_87, zr_X_couldRing_88, q2.cls, sR_length _ _ _ q2, c, hJ.1.f1, hJ.mcls, a2.1.f1, a2.mcls, sR_at _ _ _ q2 hz, eat, e1, a1, b1, z_obs, z_pu_s, z_pu_n, z00, z10, ↓reduceIte, true_or, or_true, z_b_t, z_b_f, nI_1]
      · by_cases e2 : el i = nI (g1H kd f r h)
        · obtain ⟨G3, b1, b2⟩ := a2.hour (E := E) N k
          obtain ⟨G', g1, g2⟩ := ih (i + 1) _ _ rr (some (.int (el i))) (some (.int (nI (g1H kd f r h)))) G3 (by omega) b2
          refine ⟨G', ?_, g2⟩
          have hno : ¬ (el i ≠ lstI so ∧ el i ≠ nI (g1H kd f r h)) := fun z => z.2 e2
          rw [if_neg hno]
          rw [← g1, zr_X_couldRing_31]
          rw [e2] at e1 eat ⊢
          simp only [zr_X_couldRing_0, zr_X_couldRing_0n, zr_X_couldRing_1, zr_X_couldRing_1n, zr_X_couldRing_4, zr_X_couldRing_5, zr_X_couldRing_6, zr_X_couldRing_7, zr_X_couldRing_10, zr_X_couldRing_10n, zr_X_couldRing_11, zr_X_couldRing_12, zr_X_couldRing_13, zr_X_couldRing_16, zr_X_couldRing_19, zr_X_couldRing_22, zr_X_couldRing_22n, zr_X_couldRing_23, zr_X_couldRing_26, zr_X_couldRing_28, zr_X_couldRing_29, zr_X_couldRing_33, zr_X_couldRing_33n, zr_X_couldRing_34, zr_X_couldRing_37, zr_X_couldRing_40, zr_X_couldRing_40n, zr_X_couldRing_41, zr_X_couldRing_43, zr_X_couldRing_46, zr_X_couldRing_48, zr_X_couldRing_49, zr_X_couldRing_52, zr_X_couldRing_53, zr_X_couldRing_56, zr_X_couldRing_58, zr_X_couldRing_60, zr_X_couldRing_62, zr_X_couldRing_65, zr_X_couldRing_67, zr_X_couldRing_69, zr_X_couldRing_72, zr_X_couldRing_73, zr_X_couldRing_74, zr_X_couldRing_75, zr_X_couldRing_78, zr_X_couldRing_81, zr_X_couldRing_84, zr_X_couldRing_87, zr_X_couldRing_88, q2.cls, sR_length _ _ _ q2, c, hJ.1.f1, hJ.mcls, a2.1.f1, a2.mcls, sR_at _ _ _ q2 hz, eat, e1, a1, b1, z_obs, z_pu_s, z_pu_n, z00, z10, ↓reduceIte, true_or, or_true, z_b_t, z_b_f, nI_1]
        · refine ⟨G2, ?_, a2.1, a2.2.1⟩
          rw [if_pos ⟨e1, e2⟩, zr_X_couldRing_31]
          simp only [zr_X_couldRing_0, zr_X_couldRing_0n, zr_X_couldRing_1, zr_X_couldRing_1n, zr_X_couldRing_4, zr_X_couldRing_5, zr_X_couldRing_6, zr_X_couldRing_7, zr_X_couldRing_10, zr_X_couldRing_10n, zr_X_couldRing_11, zr_X_couldRing_12, zr_X_couldRing_13, zr_X_couldRing_16, zr_X_couldRing_19, zr_X_couldRing_22, zr_X_couldRing_22n, zr_X_couldRing_23, zr_X_couldRing_26, zr_X_couldRing_28, zr_X_couldRing_29, zr_X_couldRing_33, zr_X_couldRing_33n, zr_X_couldRing_34, zr_X_couldRing_37, zr_X_couldRing_40, zr_X_couldRing_40n, zr_X_couldRing_41, zr_X_couldRing_43, zr_X_couldRing_46, zr_X_couldRing_48, zr_X_couldRing_49, zr_X_couldRing_52, zr_X_couldRing_53, zr_X_couldRing_56, zr_X_couldRing_58, zr_X_couldRing_60, zr_X_couldRing_62, zr_X_couldRing_65, zr_X_couldRing_67, zr_X_couldRing_69, zr_X_couldRing_72, zr_X_couldRing_73, zr_X_couldRing_74, zr_X_couldRing_75, zr_X_couldRing_78, zr_X_couldRing_81, zr_X_couldRing_84, zr_X_couldRing_87, zr_X_couldRing_88, q2.cls, sR_length _ _ _ q2, c, hJ.1.f1, hJ.mcls, sR_at _ _ _ q2 hz, eat, e1, e2, a1, z_obs, z_pu_s, z_pu_n, z00, z10, ↓reduceIte, true_or, or_true, z_b_t, z_b_f]
  obtain ⟨G1, g1, g2, -⟩ := MJ.hold (E := E) N k h1 h2 hk hf hr w.2.1
  obtain ⟨G', k1, k2⟩ := key sz 0 r (s 1) (nI r) none none G1 (by omega) g2
  refine ⟨G', ?_, k2⟩
  have q2 := hRR g2.2.1
  rw [← k1]
  simp only [zm_X_couldRing, zr_X_couldRing_0, zr_X_couldRing_1, zr_X_couldRing_6, zr_X_couldRing_7, zr_X_couldRing_10, zr_X_couldRing_10n, zr_X_couldRing_11, zr_X_couldRing_12, zr_X_couldRing_13, zr_X_couldRing_16, zr_X_couldRing_19, zr_X_couldRing_22, zr_X_couldRing_22n, zr_X_couldRing_23, zr_X_couldRing_26, zr_X_couldRing_28, zr_X_couldRing_29, h1.f0, h1.f1, h1.now.f9, h1.mcls, g1, q2.cls, sR_least _ _ _ q2 hso, z_obs, z_pu_s, z_pu_n, z00, z10, ↓reduceIte, true_or, or_true, z_b_t, z_b_f]
  rfl
end
