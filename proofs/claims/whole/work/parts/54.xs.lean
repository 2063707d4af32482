/-! THE CLASS: the text of a marsh: signs, where it strays -/
/-- a byte as an int of the machine; 256 stands for no byte at all -/
def byI (c : Nat) : Int32 := if c < 128 then nI c else if c < 256 then nI c - 256 else 0
/-- how many digits stand behind a letter -/
def dgN (c : Nat) : Option Nat := if c = 98 then some 4 else if c = 104 then some 2 else if c = 112 then some 3 else if c = 114 then some 1 else none
def isDg (c : Nat) : Bool := decide (48 ≤ c) && decide (c ≤ 57)
/-- the byte at a place -/
def txN (sz : Nat) (el : Nat → Int32) (i : Nat) : Nat := if i < sz then (el i &&& 255).toNatClampNeg else 256
theorem by_n : ∀ c, c < 257 → (byI c = 98 ↔ c = 98) ∧ (byI c = 104 ↔ c = 104) ∧ (byI c = 112 ↔ c = 112) ∧ (byI c = 114 ↔ c = 114) ∧ (byI c = 59 ↔ c = 59) ∧ (byI c < 48 ∨ (¬ byI c < 48 ∧ 57 < byI c) ↔ isDg c = false) ∧ (isDg c = true → byI c - 48 = nI (c - 48) ∧ c - 48 < 10 ∧ ¬ byI c < 48 ∧ ¬ 57 < byI c) := by decide +kernel
theorem by_and : ∀ c, c < 256 → byI c &&& 255 = nI c := by decide +kernel
theorem by_8 (v : Int32) : ∃ c, c < 256 ∧ v.toInt8.toInt32 = byI c := by
  have h : ∀ c, c < 256 → (Int32.ofBitVec ((BitVec.ofNat 8 c).signExtend 32)) = byI c := by decide +kernel
  refine ⟨v.toInt8.toBitVec.toNat, v.toInt8.toBitVec.isLt, ?_⟩
  rw [← h _ v.toInt8.toBitVec.isLt, BitVec.ofNat_toNat, BitVec.setWidth_eq]
  rfl
/-- a row of bytes holds bytes -/
def okB (sz : Nat) (el : Nat → Int32) : Prop := ∀ i, i < sz → ∃ c, c < 256 ∧ el i = byI c
theorem txN_by {sz : Nat} {el : Nat → Int32} (h : okB sz el) (i : Nat) : txN sz el i < 257 ∧ (i < sz → txN sz el i < 256) ∧ (if i < sz then el i else 0) = byI (txN sz el i) := by
  unfold txN
  by_cases hi : i < sz
  · obtain ⟨c, c1, c2⟩ := h i hi
    rw [if_pos hi, if_pos hi, c2, by_and c c1, nI_clamp (by omega)]
    exact ⟨by omega, fun _ => c1, rfl⟩
  · rw [if_neg hi, if_neg hi]
    exact ⟨by omega, fun z => absurd z hi, rfl⟩
section
variable {E : z_E} {G : z_H} (lv N k : Nat)
theorem sX_digitsBehind {c : Nat} (hc : c < 257) : z_evM E i_X_digitsBehind lv [.int (byI c)] N k G = some (some (.int (match dgN c with
  | some d => nI d
  | none => -1)), N, k, G) := by
  obtain ⟨h1, h2, h3, h4, -⟩ := by_n c hc
  unfold dgN
  by_cases e1 : c = 98
  · simp only [zm_X_digitsBehind, zr_X_digitsBehind_0, zr_X_digitsBehind_1, zr_X_digitsBehind_44, zr_X_digitsBehind_45, zr_X_digitsBehind_46, zr_X_digitsBehind_47, zr_X_digitsBehind_48, zr_X_digitsBehind_49, zr_X_digitsBehind_50, zr_X_digitsBehind_51, zr_X_digitsBehind_52, zr_X_digitsBehind_53, h1.mpr e1, e1, z_obs, z_pu_s, z_pu_n, z00, z10, ↓reduceIte, true_or, or_true, z_b_t, z_b_f]; rfl
  · by_cases e2 : c = 104
    · simp only [zm_X_digitsBehind, zr_X_digitsBehind_0, zr_X_digitsBehind_1, zr_X_digitsBehind_44, zr_X_digitsBehind_45, zr_X_digitsBehind_46, zr_X_digitsBehind_47, zr_X_digitsBehind_48, zr_X_digitsBehind_49, zr_X_digitsBehind_50, zr_X_digitsBehind_51, zr_X_digitsBehind_52, zr_X_digitsBehind_53, fun z => e1 (h1.mp z), h2.mpr e2, e2, show ¬ (104 : Int32) = 98 by decide, show ¬ (104 : Nat) = 98 by decide, z_obs, z_pu_s, z_pu_n, z00, z10, ↓reduceIte, true_or, or_true, z_b_t, z_b_f]; rfl
    · by_cases e3 : c = 112
      · simp only [zm_X_digitsBehind, zr_X_digitsBehind_0, zr_X_digitsBehind_1, zr_X_digitsBehind_44, zr_X_digitsBehind_45, zr_X_digitsBehind_46, zr_X_digitsBehind_47, zr_X_digitsBehind_48, zr_X_digitsBehind_49, zr_X_digitsBehind_50, zr_X_digitsBehind_51, zr_X_digitsBehind_52, zr_X_digitsBehind_53, h3.mpr e3, e3, show ¬ (112 : Int32) = 98 by decide, show ¬ (112 : Int32) = 104 by decide, show ¬ (112 : Nat) = 98 by decide, show ¬ (112 : Nat) = 104 by decide, z_obs, z_pu_s, z_pu_n, z00, z10, ↓reduceIte, true_or, or_true, z_b_t, z_b_f]; rfl
      · by_cases e4 : c = 114
        · simp only [zm_X_digitsBehind, zr_X_digitsBehind_0, zr_X_digitsBehind_1, zr_X_digitsBehind_44, zr_X_digitsBehind_45, zr_X_digitsBehind_46, zr_X_digitsBehind_47, zr_X_digitsBehind_48, zr_X_digitsBehind_49, zr_X_digitsBehind_50, zr_X_digitsBehind_51, zr_X_digitsBehind_52, zr_X_digitsBehind_53, h4.mpr e4, e4, show ¬ (114 : Int32) = 98 by decide, show ¬ (114 : Int32) = 104 by decide, show ¬ (114 : Int32) = 112 by decide, show ¬ (114 : Nat) = 98 by decide, show ¬ (114 : Nat) = 104 by decide, show ¬ (114 : Nat) = 112 by decide, z_obs, z_pu_s, z_pu_n, z00, z10, ↓reduceIte, true_or, or_true, z_b_t, z_b_f]; rfl
        · have q1 : ¬ byI c = 98 := fun z => e1 (h1.mp z)
          have q2 : ¬ byI c = 104 := fun z => e2 (h2.mp z)
          have q3 : ¬ byI c = 112 := fun z => e3 (h3.mp z)
          have q4 : ¬ byI c = 114 := fun z => e4 (h4.mp z)
          simp only [zm_X_digitsBehind, zr_X_digitsBehind_0, zr_X_digitsBehind_1, zr_X_digitsBehind_44, zr_X_digitsBehind_45, zr_X_digitsBehind_46, zr_X_digitsBehind_47, zr_X_digitsBehind_48, zr_X_digitsBehind_49, zr_X_digitsBehind_50, zr_X_digitsBehind_51, zr_X_digitsBehind_52, zr_X_digitsBehind_53, q1, q2, q3, q4, e1, e2, e3, e4, z_obs, z_pu_s, z_pu_n, z00, z10, ↓reduceIte, true_or, or_true, z_b_t, z_b_f]
theorem sX_isDigit {c : Nat} (hc : c < 257) : z_evM E i_X_isDigit lv [.int (byI c)] N k G = some (some (.int (z_b (isDg c))), N, k, G) := by
  obtain ⟨-, -, -, -, -, h6, h7⟩ := by_n c hc
  cases hd : isDg c
  · rcases h6.mpr hd with q | ⟨q1, q2⟩
    · simp only [zm_X_isDigit, zr_X_isDigit_0, zr_X_isDigit_1, zr_X_isDigit_3, zr_X_isDigit_6, zr_X_isDigit_7, zr_X_isDigit_9, zr_X_isDigit_12, zr_X_isDigit_13, zr_X_isDigit_16, zr_X_isDigit_17, q, z_obs, z_pu_s, z_pu_n, z00, z10, ↓reduceIte, true_or, or_true, z_b_t, z_b_f]
    · simp only [zm_X_isDigit, zr_X_isDigit_0, zr_X_isDigit_1, zr_X_isDigit_3, zr_X_isDigit_6, zr_X_isDigit_7, zr_X_isDigit_9, zr_X_isDigit_12, zr_X_isDigit_13, zr_X_isDigit_16, zr_X_isDigit_17, q1, q2, z_obs, z_pu_s, z_pu_n, z00, z10, ↓reduceIte, true_or, or_true, z_b_t, z_b_f]
  · obtain ⟨-, -, q1, q2⟩ := h7 hd
    simp only [zm_X_isDigit, zr_X_isDigit_0, zr_X_isDigit_1, zr_X_isDigit_3, zr_X_isDigit_6, zr_X_isDigit_7, zr_X_isDigit_9, zr_X_isDigit_12, zr_X_isDigit_13, zr_X_isDigit_16, zr_X_isDigit_17, q1, q2, z_obs, z_pu_s, z_pu_n, z00, z10, ↓reduceIte, true_or, or_true, z_b_t, z_b_f]
variable {r so sz : Nat} {el : Nat → Int32}
theorem sR_atB (h : RA G r so sz el) (hz : sz ≤ 100) (ho : okB sz el) {i : Nat} (hi : i < 2 ^ 31) : z_evM E i_R_at lv [.ref r, .int (nI i)] N k G = some (some (.int (byI (txN sz el i))), N, k, G) := by
  rw [sR_at _ _ _ h hz, ← (txN_by ho i).2.2]
  unfold rAt
  by_cases e : i < sz
  · rw [inR_nI (by omega) e, if_pos rfl, if_pos e, jN_nI hi]
  · have : inR (nI i) sz = false := by
      cases hr : inR (nI i) sz
      · rfl
      · obtain ⟨j, a, b⟩ := inR_of (by omega) hr
        have := (nI_eq hi (by omega)).mp b
        omega
    rw [this, if_neg e]; rfl
theorem sX_digit (h : RA G r so sz el) (hz : sz ≤ 100) (ho : okB sz el) {i : Nat} (hi : i < 2 ^ 31) (hd : isDg (txN sz el i) = true) : z_evM E i_X_digit lv [.ref r, .int (nI i)] N k G = some (some (.int (nI (txN sz el i - 48))), N, k, G) := by
  have q := ((by_n _ (txN_by ho i).1).2.2.2.2.2.2 hd).1
  simp only [zm_X_digit, zr_X_digit_0, zr_X_digit_0n, zr_X_digit_1, zr_X_digit_2, zr_X_digit_5, zr_X_digit_7, zr_X_digit_8, h.cls, sR_atB _ _ _ h hz ho hi, q, z_obs, z_pu_s, z_pu_n, z00, z10, ↓reduceIte, true_or, or_true, z_b_t, z_b_f]
theorem sX_twoDigits (h : RA G r so sz el) (hz : sz ≤ 100) (ho : okB sz el) {i : Nat} (hi : i + 1 < 2 ^ 31) (hd : isDg (txN sz el i) = true) (hd2 : isDg (txN sz el (i + 1)) = true) : z_evM E i_X_twoDigits lv [.ref r, .int (nI i)] N k G = some (some (.int (nI (10 * (txN sz el i - 48) + (txN sz el (i + 1) - 48)))), N, k, G) := by
  simp only [zm_X_twoDigits, zr_X_twoDigits_0, zr_X_twoDigits_2, zr_X_twoDigits_2n, zr_X_twoDigits_3, zr_X_twoDigits_4, zr_X_twoDigits_7, zr_X_twoDigits_8, zr_X_twoDigits_8n, zr_X_twoDigits_9, zr_X_twoDigits_10, zr_X_twoDigits_11, zr_X_twoDigits_12, zr_X_twoDigits_15, zr_X_twoDigits_16, sX_digit _ _ _ h hz ho (show i < 2 ^ 31 by omega) hd, nI_1, sX_digit _ _ _ h hz ho hi hd2, int_10, pk_mul, nI_add, z_obs, z_pu_s, z_pu_n, z00, z10, ↓reduceIte, true_or, or_true, z_b_t, z_b_f]
end
