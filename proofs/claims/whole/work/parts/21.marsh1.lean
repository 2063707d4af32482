/-! MARSH: reads -/
section
variable {E : z_E} {G : z_H} {a : Nat} {s : Nat → Nat} (lv n k : Nat)
theorem sM_has (h : MA G a s) (x : Int32) : z_evM E i_M_has lv [.ref a, .int x] n k G = some (some (.int (z_b (isB s x))), n, k, G) := by
  simp only [zm_M_has, zr_M_has_0, zr_M_has_1, zr_M_has_4, zr_M_has_5, zr_M_has_6, zr_M_has_9, zr_M_has_12, zr_M_has_13, zr_M_has_16, zr_M_has_17, h.f8, z_obs, z00, z10, true_or, or_true]
  unfold isB
  by_cases h1 : x < 0
  · have : ¬ 0 ≤ x := fun z => absurd (Int32.not_lt.mpr z) (fun q => q h1)
    simp [h1, this, z_b]
  · have h1' : 0 ≤ x := Int32.not_lt.mp h1
    by_cases h2 : nI (s 0) ≤ x
    · have : ¬ x < nI (s 0) := Int32.not_lt.mpr h2
      simp [h1, h2, this, z_b]
    · have : x < nI (s 0) := Int32.not_le.mp h2
      simp [h1, h2, h1', this, z_b]
theorem sM_isHomeAt (h : MA G a s) (w : WF s) {j t : Nat} (hj : j < s 0) (ht : t < 24) : z_evM E i_M_isHomeAt lv [.ref a, .int (nI j), .int (nI t)] n k G = some (some (.int (z_b (hm (sK s j) (sF s j) t))), n, k, G) := by
  have h6 := w.1
  have c1 : ¬ nI j < 0 := nI_pos (by omega)
  have c2 : ¬ nI (s 0) ≤ nI j := nI_ge hj (by omega)
  have hk := w.2.2.2 j hj
  simp only [zm_M_isHomeAt, zr_M_isHomeAt_0, zr_M_isHomeAt_1, zr_M_isHomeAt_4, zr_M_isHomeAt_5, zr_M_isHomeAt_6, zr_M_isHomeAt_9, zr_M_isHomeAt_12, zr_M_isHomeAt_13, zr_M_isHomeAt_16, zr_M_isHomeAt_17, zr_M_isHomeAt_18, zr_M_isHomeAt_19, zr_M_isHomeAt_20, zr_M_isHomeAt_21, zr_M_isHomeAt_22, zr_M_isHomeAt_25, zr_M_isHomeAt_26, zr_M_isHomeAt_29, zr_M_isHomeAt_30, h.f8, h.f5, h.a6 w hj, c1, c2, z_obs, z00, z10, true_or, or_true, ↓reduceIte, hb_bit _ hk.1 _ hk.2.1 _ ht]
  cases hm (sK s j) (sF s j) t <;> simp [z_b]
end
