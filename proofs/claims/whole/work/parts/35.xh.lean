/-! THE CLASS: what is refused, what stands on the shelves -/
def is01 (x : Int32) : Bool := decide (x = 0) || decide (x = 1)
theorem is01_of {x : Int32} (h : is01 x = true) : x = 0 ∨ x = 1 := by simpa [is01] using h
/-- why no row stands there, 0 if one does -/
def lkR (hs : Nat → Sh) (x : Int32) : Int32 := if inR x 8 = true then (match hs x.toNatClampNeg with
  | .inl () => -11
  | .inr (.inl _) => -12
  | .inr (.inr _) => 0) else -1
def lkB (hs : Nat → Sh) (x : Int32) : Int32 := if inR x 8 = true then (match hs x.toNatClampNeg with
  | .inl () => -11
  | .inr (.inl _) => 0
  | .inr (.inr _) => -12) else -1
/-- what the class's methods leave -/
def XF (x : Nat) (G G' : z_H) : Prop := ∀ q, (q < x ∨ (x + 118 ≤ q ∧ q < x + 134)) → G' q = G q
theorem XF.rf {x : Nat} {G : z_H} : XF x G G := fun _ _ => rfl
theorem XF.tr {x : Nat} {G G' G'' : z_H} (h : XF x G G') (h' : XF x G' G'') : XF x G G'' := fun q hq => (h' q hq).trans (h q hq)
theorem FR.xf {x a w : Nat} {G G' : z_H} (h : FR a w G G') (h1 : x ≤ a) (h2 : a + w ≤ x + 118) : XF x G G' := fun q hq => h q (by omega)
theorem nI_lt8 {j : Nat} (h : j < 8) : (nI j).toNatClampNeg = j := nI_clamp (by omega)
section
variable {E : z_E} (lv n k : Nat) (G : z_H)
theorem sX_isShelf (x : Int32) : z_evM E i_X_isShelf lv [.int x] n k G = some (some (.int (z_b (inR x 8))), n, k, G) := by
  simp only [zm_X_isShelf, zr_X_isShelf_0, zr_X_isShelf_1, zr_X_isShelf_4, zr_X_isShelf_5, zr_X_isShelf_7, zr_X_isShelf_10, zr_X_isShelf_11, zr_X_isShelf_14, zr_X_isShelf_15, z00, z10, true_or, or_true]
  rw [int_8, z_tt rfl]
  cases inR x 8 <;> simp [z_b]
theorem sX_isHour (x : Int32) : z_evM E i_X_isHour lv [.int x] n k G = some (some (.int (z_b (inR x 24))), n, k, G) := by
  simp only [zm_X_isHour, zr_X_isHour_0, zr_X_isHour_1, zr_X_isHour_4, zr_X_isHour_5, zr_X_isHour_7, zr_X_isHour_10, zr_X_isHour_11, zr_X_isHour_14, zr_X_isHour_15, z00, z10, true_or, or_true]
  rw [int_24, z_tt rfl]
  cases inR x 24 <;> simp [z_b]
theorem sX_is01 (x : Int32) : z_evM E i_X_isFirstOrSecond lv [.int x] n k G = some (some (.int (z_b (is01 x))), n, k, G) := by
  simp only [zm_X_isFirstOrSecond, zr_X_isFirstOrSecond_0, zr_X_isFirstOrSecond_1, zr_X_isFirstOrSecond_4, zr_X_isFirstOrSecond_5, zr_X_isFirstOrSecond_6, zr_X_isFirstOrSecond_9, zr_X_isFirstOrSecond_10, zr_X_isFirstOrSecond_13, zr_X_isFirstOrSecond_14, z00, z10, true_or, or_true]
  unfold is01
  by_cases h0 : x = 0
  · simp [h0, z_b]
  · by_cases h1 : x = 1 <;> simp [h0, h1, z_b]
theorem sX_refused (x : Int32) : z_evM E i_X_refusedAsLong lv [.int x] n k G = some (some (.long (1000000000 - x.toInt64)), n, k, G) := by
  simp only [zm_X_refusedAsLong, zr_X_refusedAsLong_0, zr_X_refusedAsLong_3, zr_X_refusedAsLong_4, zr_X_refusedAsLong_5, zr_X_refusedAsLong_6]
end
section
variable {E : z_E} {G : z_H} {x : Nat} {s u : Nat → Nat} {ib : Bool} {hs : Nat → Sh} {n : Nat} (lv N k : Nat)
theorem sX_rowOn_f (h : XW G x s ib u hs n) {y : Int32} (hy : inR y 8 = false) : z_evM E i_X_rowOn lv [.ref x, .int y] N k G = some (some .null, N, k, G) := by
  simp only [zm_X_rowOn, zr_X_rowOn_0, zr_X_rowOn_1, zr_X_rowOn_4, zr_X_rowOn_7, zr_X_rowOn_8, zr_X_rowOn_11, zr_X_rowOn_12, zr_X_rowOn_13, zr_X_rowOn_16, zr_X_rowOn_17, zr_X_rowOn_17n, sX_isShelf, hy, z_b_f, z_obs, z_pu_s, ↓reduceIte]
theorem sX_bellOn_f (h : XW G x s ib u hs n) {y : Int32} (hy : inR y 8 = false) : z_evM E i_X_bellOn lv [.ref x, .int y] N k G = some (some .null, N, k, G) := by
  simp only [zm_X_bellOn, zr_X_bellOn_0, zr_X_bellOn_1, zr_X_bellOn_4, zr_X_bellOn_7, zr_X_bellOn_8, zr_X_bellOn_11, zr_X_bellOn_12, zr_X_bellOn_13, zr_X_bellOn_16, zr_X_bellOn_17, zr_X_bellOn_17n, sX_isShelf, hy, z_b_f, z_obs, z_pu_s, ↓reduceIte]
theorem sX_rowOn_no (h : XW G x s ib u hs n) {d : Nat} (hd : d < 8) (e : hs d = Sh.no) : z_evM E i_X_rowOn lv [.ref x, .int (nI d)] N k G = some (some .null, N, k, G) := by
  obtain ⟨fB, fR, s1, s2, s3, s4⟩ := h.sh
  have q := s3 d hd
  rw [e] at q
  have r := z_aqI s2 hd (by decide)
  rw [q.2] at r
  simp only [zm_X_rowOn, zr_X_rowOn_0, zr_X_rowOn_1, zr_X_rowOn_4, zr_X_rowOn_7, zr_X_rowOn_8, zr_X_rowOn_11, zr_X_rowOn_12, zr_X_rowOn_13, zr_X_rowOn_16, zr_X_rowOn_17, zr_X_rowOn_17n, sX_isShelf, inR_nI (show 8 < 2 ^ 31 by decide) hd, z_b_t, z10, z_obs, z_pu_s, ↓reduceIte, h.f6, r, va_rf]
theorem sX_rowOn_be (h : XW G x s ib u hs n) {d kk ff : Nat} (hd : d < 8) (e : hs d = Sh.be kk ff) : z_evM E i_X_rowOn lv [.ref x, .int (nI d)] N k G = some (some .null, N, k, G) := by
  obtain ⟨fB, fR, s1, s2, s3, s4⟩ := h.sh
  have q := s3 d hd
  rw [e] at q
  have r := z_aqI s2 hd (by decide)
  rw [q.2.2.2] at r
  simp only [zm_X_rowOn, zr_X_rowOn_0, zr_X_rowOn_1, zr_X_rowOn_4, zr_X_rowOn_7, zr_X_rowOn_8, zr_X_rowOn_11, zr_X_rowOn_12, zr_X_rowOn_13, zr_X_rowOn_16, zr_X_rowOn_17, zr_X_rowOn_17n, sX_isShelf, inR_nI (show 8 < 2 ^ 31 by decide) hd, z_b_t, z10, z_obs, z_pu_s, ↓reduceIte, h.f6, r, va_rf]
theorem sX_rowOn_ro (h : XW G x s ib u hs n) {d so sz : Nat} {el : Nat → Int32} (hd : d < 8) (e : hs d = Sh.ro so sz el) : ∃ r, (∀ lv N k, z_evM E i_X_rowOn lv [.ref x, .int (nI d)] N k G = some (some (.ref r), N, k, G)) ∧ RA G r so sz el ∧ x + 134 ≤ r ∧ r + 1 < n ∧ so < 3 ∧ sz ≤ 100 := by
  obtain ⟨fB, fR, s1, s2, s3, s4⟩ := h.sh
  have q := s3 d hd
  rw [e] at q
  obtain ⟨q1, q2, q3, r, q4, q5, q6, q7⟩ := q
  have z := z_aqI s2 hd (by decide)
  rw [q4] at z
  refine ⟨r, fun lv N k => ?_, q7, q5, q6, q1, q2⟩
  simp only [zm_X_rowOn, zr_X_rowOn_0, zr_X_rowOn_1, zr_X_rowOn_4, zr_X_rowOn_7, zr_X_rowOn_8, zr_X_rowOn_11, zr_X_rowOn_12, zr_X_rowOn_13, zr_X_rowOn_16, zr_X_rowOn_17, zr_X_rowOn_17n, sX_isShelf, inR_nI (show 8 < 2 ^ 31 by decide) hd, z_b_t, z10, z_obs, z_pu_s, ↓reduceIte, h.f6, z, va_rf]
theorem sX_bellOn_no (h : XW G x s ib u hs n) {d : Nat} (hd : d < 8) (e : hs d = Sh.no) : z_evM E i_X_bellOn lv [.ref x, .int (nI d)] N k G = some (some .null, N, k, G) := by
  obtain ⟨fB, fR, s1, s2, s3, s4⟩ := h.sh
  have q := s3 d hd
  rw [e] at q
  have r := z_aqI s1 hd (by decide)
  rw [q.1] at r
  simp only [zm_X_bellOn, zr_X_bellOn_0, zr_X_bellOn_1, zr_X_bellOn_4, zr_X_bellOn_7, zr_X_bellOn_8, zr_X_bellOn_11, zr_X_bellOn_12, zr_X_bellOn_13, zr_X_bellOn_16, zr_X_bellOn_17, zr_X_bellOn_17n, sX_isShelf, inR_nI (show 8 < 2 ^ 31 by decide) hd, z_b_t, z10, z_obs, z_pu_s, ↓reduceIte, h.f5, r, va_rf]
theorem sX_bellOn_ro (h : XW G x s ib u hs n) {d so sz : Nat} {el : Nat → Int32} (hd : d < 8) (e : hs d = Sh.ro so sz el) : z_evM E i_X_bellOn lv [.ref x, .int (nI d)] N k G = some (some .null, N, k, G) := by
  obtain ⟨fB, fR, s1, s2, s3, s4⟩ := h.sh
  have q := s3 d hd
  rw [e] at q
  have r := z_aqI s1 hd (by decide)
  rw [q.2.2.1] at r
  simp only [zm_X_bellOn, zr_X_bellOn_0, zr_X_bellOn_1, zr_X_bellOn_4, zr_X_bellOn_7, zr_X_bellOn_8, zr_X_bellOn_11, zr_X_bellOn_12, zr_X_bellOn_13, zr_X_bellOn_16, zr_X_bellOn_17, zr_X_bellOn_17n, sX_isShelf, inR_nI (show 8 < 2 ^ 31 by decide) hd, z_b_t, z10, z_obs, z_pu_s, ↓reduceIte, h.f5, r, va_rf]
theorem sX_bellOn_be (h : XW G x s ib u hs n) {d kk ff : Nat} (hd : d < 8) (e : hs d = Sh.be kk ff) : z_evM E i_X_bellOn lv [.ref x, .int (nI d)] N k G = some (some (.ref (x + 38 + (10 * kk + ff))), N, k, G) ∧ BA G (x + 38 + (10 * kk + ff)) kk ff ∧ kk < 8 ∧ ff < 10 := by
  obtain ⟨fB, fR, s1, s2, s3, s4⟩ := h.sh
  have q := s3 d hd
  rw [e] at q
  obtain ⟨q1, q2, q3, q4⟩ := q
  have r := z_aqI s1 hd (by decide)
  rw [q3] at r
  refine ⟨?_, h.bs _ q1 _ q2, q1, q2⟩
  simp only [zm_X_bellOn, zr_X_bellOn_0, zr_X_bellOn_1, zr_X_bellOn_4, zr_X_bellOn_7, zr_X_bellOn_8, zr_X_bellOn_11, zr_X_bellOn_12, zr_X_bellOn_13, zr_X_bellOn_16, zr_X_bellOn_17, zr_X_bellOn_17n, sX_isShelf, inR_nI (show 8 < 2 ^ 31 by decide) hd, z_b_t, z10, z_obs, z_pu_s, ↓reduceIte, h.f5, r, va_rf]
theorem sX_lackOfRow (h : XW G x s ib u hs n) {y : Int32} (hy : lkR hs y ≠ 0) : z_evM E i_X_lackOfRow lv [.ref x, .int y] N k G = some (some (.int (lkR hs y)), N, k, G) := by
  cases hy8 : inR y 8
  · have e : lkR hs y = -1 := by unfold lkR; rw [hy8]; rfl
    rw [e]
    simp only [zm_X_lackOfRow, zr_X_lackOfRow_0, zr_X_lackOfRow_1, zr_X_lackOfRow_4, zr_X_lackOfRow_7, zr_X_lackOfRow_8, zr_X_lackOfRow_9, zr_X_lackOfRow_10, zr_X_lackOfRow_13, zr_X_lackOfRow_14, zr_X_lackOfRow_15, zr_X_lackOfRow_15n, zr_X_lackOfRow_18, zr_X_lackOfRow_20, zr_X_lackOfRow_23, zr_X_lackOfRow_25, sX_isShelf, hy8, z_b_f, z_obs, z_pu_s, ↓reduceIte]
  · obtain ⟨d, hd, rfl⟩ := inR_of (by decide) hy8
    obtain ⟨fB, fR, s1, s2, s3, s4⟩ := h.sh
    have q := s3 d hd
    have r := z_aqI s1 hd (by decide)
    unfold lkR at hy ⊢
    rw [hy8, nI_lt8 hd] at hy ⊢
    simp only [↓reduceIte] at hy ⊢
    rcases e : hs d with _ | ⟨kk, ff⟩ | ⟨so, sz, el⟩
    · rw [e] at q
      rw [q.1] at r
      simp only [zm_X_lackOfRow, zr_X_lackOfRow_0, zr_X_lackOfRow_1, zr_X_lackOfRow_4, zr_X_lackOfRow_7, zr_X_lackOfRow_8, zr_X_lackOfRow_9, zr_X_lackOfRow_10, zr_X_lackOfRow_13, zr_X_lackOfRow_14, zr_X_lackOfRow_15, zr_X_lackOfRow_15n, zr_X_lackOfRow_18, zr_X_lackOfRow_20, zr_X_lackOfRow_23, zr_X_lackOfRow_25, sX_isShelf, hy8, z_b_t, z10, z_obs, z_pu_s, ↓reduceIte, h.f5, r, va_rf]
    · rw [e] at q
      rw [q.2.2.1] at r
      simp only [zm_X_lackOfRow, zr_X_lackOfRow_0, zr_X_lackOfRow_1, zr_X_lackOfRow_4, zr_X_lackOfRow_7, zr_X_lackOfRow_8, zr_X_lackOfRow_9, zr_X_lackOfRow_10, zr_X_lackOfRow_13, zr_X_lackOfRow_14, zr_X_lackOfRow_15, zr_X_lackOfRow_15n, zr_X_lackOfRow_18, zr_X_lackOfRow_20, zr_X_lackOfRow_23, zr_X_lackOfRow_25, sX_isShelf, hy8, z_b_t, z10, z_obs, z_pu_s, ↓reduceIte, h.f5, r, va_rf]
    · rw [e] at hy
      exact absurd rfl hy
theorem sX_lackOfBell (h : XW G x s ib u hs n) {y : Int32} (hy : lkB hs y ≠ 0) : z_evM E i_X_lackOfBell lv [.ref x, .int y] N k G = some (some (.int (lkB hs y)), N, k, G) := by
  cases hy8 : inR y 8
  · have e : lkB hs y = -1 := by unfold lkB; rw [hy8]; rfl
    rw [e]
    simp only [zm_X_lackOfBell, zr_X_lackOfBell_0, zr_X_lackOfBell_1, zr_X_lackOfBell_4, zr_X_lackOfBell_7, zr_X_lackOfBell_8, zr_X_lackOfBell_9, zr_X_lackOfBell_10, zr_X_lackOfBell_13, zr_X_lackOfBell_14, zr_X_lackOfBell_15, zr_X_lackOfBell_15n, zr_X_lackOfBell_18, zr_X_lackOfBell_20, zr_X_lackOfBell_23, zr_X_lackOfBell_25, sX_isShelf, hy8, z_b_f, z_obs, z_pu_s, ↓reduceIte]
  · obtain ⟨d, hd, rfl⟩ := inR_of (by decide) hy8
    obtain ⟨fB, fR, s1, s2, s3, s4⟩ := h.sh
    have q := s3 d hd
    have r := z_aqI s2 hd (by decide)
    unfold lkB at hy ⊢
    rw [hy8, nI_lt8 hd] at hy ⊢
    simp only [↓reduceIte] at hy ⊢
    rcases e : hs d with _ | ⟨kk, ff⟩ | ⟨so, sz, el⟩
    · rw [e] at q
      rw [q.2] at r
      simp only [zm_X_lackOfBell, zr_X_lackOfBell_0, zr_X_lackOfBell_1, zr_X_lackOfBell_4, zr_X_lackOfBell_7, zr_X_lackOfBell_8, zr_X_lackOfBell_9, zr_X_lackOfBell_10, zr_X_lackOfBell_13, zr_X_lackOfBell_14, zr_X_lackOfBell_15, zr_X_lackOfBell_15n, zr_X_lackOfBell_18, zr_X_lackOfBell_20, zr_X_lackOfBell_23, zr_X_lackOfBell_25, sX_isShelf, hy8, z_b_t, z10, z_obs, z_pu_s, ↓reduceIte, h.f6, r, va_rf]
    · rw [e] at hy
      exact absurd rfl hy
    · rw [e] at q
      obtain ⟨q1, q2, q3, r', q4, q5⟩ := q
      rw [q4] at r
      simp only [zm_X_lackOfBell, zr_X_lackOfBell_0, zr_X_lackOfBell_1, zr_X_lackOfBell_4, zr_X_lackOfBell_7, zr_X_lackOfBell_8, zr_X_lackOfBell_9, zr_X_lackOfBell_10, zr_X_lackOfBell_13, zr_X_lackOfBell_14, zr_X_lackOfBell_15, zr_X_lackOfBell_15n, zr_X_lackOfBell_18, zr_X_lackOfBell_20, zr_X_lackOfBell_23, zr_X_lackOfBell_25, sX_isShelf, hy8, z_b_t, z10, z_obs, z_pu_s, ↓reduceIte, h.f6, r, va_rf]
/-- who has no row, no bell -/
theorem rowOn_lk (h : XW G x s ib u hs n) {y : Int32} (hy : lkR hs y ≠ 0) : z_evM E i_X_rowOn lv [.ref x, .int y] N k G = some (some .null, N, k, G) := by
  cases hy8 : inR y 8
  · exact sX_rowOn_f _ _ _ h hy8
  · obtain ⟨d, hd, rfl⟩ := inR_of (by decide) hy8
    unfold lkR at hy
    rw [hy8, nI_lt8 hd] at hy
    simp only [↓reduceIte] at hy
    rcases e : hs d with _ | ⟨kk, ff⟩ | ⟨so, sz, el⟩
    · exact sX_rowOn_no _ _ _ h hd e
    · exact sX_rowOn_be _ _ _ h hd e
    · rw [e] at hy
      exact absurd rfl hy
theorem bellOn_lk (h : XW G x s ib u hs n) {y : Int32} (hy : lkB hs y ≠ 0) : z_evM E i_X_bellOn lv [.ref x, .int y] N k G = some (some .null, N, k, G) := by
  cases hy8 : inR y 8
  · exact sX_bellOn_f _ _ _ h hy8
  · obtain ⟨d, hd, rfl⟩ := inR_of (by decide) hy8
    unfold lkB at hy
    rw [hy8, nI_lt8 hd] at hy
    simp only [↓reduceIte] at hy
    rcases e : hs d with _ | ⟨kk, ff⟩ | ⟨so, sz, el⟩
    · exact sX_bellOn_no _ _ _ h hd e
    · rw [e] at hy
      exact absurd rfl hy
    · exact sX_bellOn_ro _ _ _ h hd e
theorem lkR_ro {y : Int32} (hy : ¬ lkR hs y ≠ 0) : ∃ d so sz el, d < 8 ∧ y = nI d ∧ hs d = Sh.ro so sz el := by
  cases hy8 : inR y 8
  · exact absurd (show lkR hs y ≠ 0 by unfold lkR; rw [hy8]; simp) hy
  · obtain ⟨d, hd, rfl⟩ := inR_of (by decide) hy8
    unfold lkR at hy
    rw [hy8, nI_lt8 hd] at hy
    simp only [↓reduceIte] at hy
    rcases e : hs d with _ | ⟨kk, ff⟩ | ⟨so, sz, el⟩
    · rw [e] at hy; simp at hy
    · rw [e] at hy; simp at hy
    · exact ⟨d, so, sz, el, hd, rfl, e⟩
theorem lkB_be {y : Int32} (hy : ¬ lkB hs y ≠ 0) : ∃ d kk ff, d < 8 ∧ y = nI d ∧ hs d = Sh.be kk ff := by
  cases hy8 : inR y 8
  · exact absurd (show lkB hs y ≠ 0 by unfold lkB; rw [hy8]; simp) hy
  · obtain ⟨d, hd, rfl⟩ := inR_of (by decide) hy8
    unfold lkB at hy
    rw [hy8, nI_lt8 hd] at hy
    simp only [↓reduceIte] at hy
    rcases e : hs d with _ | ⟨kk, ff⟩ | ⟨so, sz, el⟩
    · rw [e] at hy; simp at hy
    · exact ⟨d, kk, ff, hd, rfl, e⟩
    · rw [e] at hy; simp at hy
theorem sX_houseOf (h : XW G x s ib u hs n) {kd f : Nat} (hk : kd < 8) (hf : f < 10) : z_evM E i_X_houseOf lv [.ref x, .int (nI kd), .int (nI f)] N k G = some (some (.ref (x + 38 + (10 * kd + f))), N, k, G) := by
  obtain ⟨g, h1, h2⟩ := h.ho
  have c1 : ¬ nI kd < 0 := nI_pos (by omega)
  have c2 : ¬ nI 8 ≤ nI kd := nI_ge (by omega) (by omega)
  have c3 : ¬ nI f < 0 := nI_pos (by omega)
  have c4 : ¬ nI 10 ≤ nI f := nI_ge (by omega) (by omega)
  have e1 : nI kd * nI 10 + nI f = nI (10 * kd + f) := by rw [pk_mul, nI_add, Nat.mul_comm]
  have r := z_aqI (j := 10 * kd + f) h1 (by omega) (by decide)
  rw [h2 _ (by omega)] at r
  simp only [zm_X_houseOf, zr_X_houseOf_0, zr_X_houseOf_1, zr_X_houseOf_4, zr_X_houseOf_5, zr_X_houseOf_7, zr_X_houseOf_10, zr_X_houseOf_11, zr_X_houseOf_14, zr_X_houseOf_15, zr_X_houseOf_17, zr_X_houseOf_20, zr_X_houseOf_21, zr_X_houseOf_24, zr_X_houseOf_25, zr_X_houseOf_26, zr_X_houseOf_27, zr_X_houseOf_30, zr_X_houseOf_31, zr_X_houseOf_34, zr_X_houseOf_35, zr_X_houseOf_37, zr_X_houseOf_38, zr_X_houseOf_39, zr_X_houseOf_40, zr_X_houseOf_41, zr_X_houseOf_44, zr_X_houseOf_45, zr_X_houseOf_45n, int_8, int_10, c1, c2, c3, c4, ↓reduceIte, z10, h.f4, z_obs, e1, r, va_rf]
theorem sX_houseOf_f (h : XW G x s ib u hs n) {y z : Int32} (hy : inR y 8 = false ∨ inR z 10 = false) : z_evM E i_X_houseOf lv [.ref x, .int y, .int z] N k G = some (some .null, N, k, G) := by
  simp only [zm_X_houseOf, zr_X_houseOf_0, zr_X_houseOf_1, zr_X_houseOf_4, zr_X_houseOf_5, zr_X_houseOf_7, zr_X_houseOf_10, zr_X_houseOf_11, zr_X_houseOf_14, zr_X_houseOf_15, zr_X_houseOf_17, zr_X_houseOf_20, zr_X_houseOf_21, zr_X_houseOf_24, zr_X_houseOf_25, zr_X_houseOf_26, zr_X_houseOf_27, zr_X_houseOf_30, zr_X_houseOf_31, zr_X_houseOf_34, zr_X_houseOf_35, zr_X_houseOf_37, zr_X_houseOf_38, zr_X_houseOf_39, zr_X_houseOf_40, zr_X_houseOf_41, zr_X_houseOf_44, zr_X_houseOf_45, zr_X_houseOf_45n, int_8, int_10, z10, z00, ↓reduceIte]
  have hn : ∀ {w : Int32} {M : Nat}, inR w M = false → ¬ w < 0 → nI M ≤ w := by
    intro w M hw h0
    unfold inR at hw
    have h0' : 0 ≤ w := Int32.not_lt.mp h0
    simp only [h0', decide_true, Bool.true_and, decide_eq_false_iff_not] at hw
    exact Int32.not_lt.mp hw
  by_cases a1 : y < 0
  · simp only [a1, ↓reduceIte]
  · by_cases a2 : nI 8 ≤ y
    · simp only [a1, a2, ↓reduceIte]
    · by_cases a3 : z < 0
      · simp only [a1, a2, a3, ↓reduceIte]
      · by_cases a4 : nI 10 ≤ z
        · simp only [a1, a2, a3, a4, ↓reduceIte]
        · rcases hy with hy | hy
          · exact absurd (hn hy a1) a2
          · exact absurd (hn hy a3) a4
end
