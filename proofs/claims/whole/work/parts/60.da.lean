/-! THE MODEL: rows of 33 numbers; its helpers -/
def IA (G : z_H) (p : Nat) (s : Nat → Nat) : Prop := ∃ f, G p = some (.inr (.int, 33, .inl f)) ∧ ∀ j, j < 33 → f j = nI (s j)
def IX (G : z_H) (p N : Nat) : Prop := ∃ f, G p = some (.inr (.int, N, .inl f))
theorem IA.x {G : z_H} {p : Nat} {s : Nat → Nat} (h : IA G p s) : IX G p 33 := by obtain ⟨f, h1, -⟩ := h; exact ⟨f, h1⟩
theorem IA.mono {G G' : z_H} {p : Nat} {s : Nat → Nat} (h : IA G p s) (e : G' p = G p) : IA G' p s := by unfold IA; rw [e]; exact h
theorem IX.mono {G G' : z_H} {p N : Nat} (h : IX G p N) (e : G' p = G p) : IX G' p N := by unfold IX; rw [e]; exact h
section
variable {E : z_E} {G : z_H} {p : Nat} {s : Nat → Nat}
theorem IA.rd (h : IA G p s) {j : Nat} (hj : j < 33) : z_ai E G p (nI j) = some (nI (s j)) := by obtain ⟨f, e, q⟩ := h; rw [z_aiI e hj (by decide), q j hj]
theorem IA.r0 (h : IA G p s) : z_ai E G p 0 = some (nI (s 0)) := h.rd (j := 0) (by decide)
theorem IA.r1 (h : IA G p s) : z_ai E G p 1 = some (nI (s 1)) := h.rd (j := 1) (by decide)
theorem IA.r2 (h : IA G p s) : z_ai E G p 2 = some (nI (s 2)) := h.rd (j := 2) (by decide)
theorem IA.k0 (h : IA G p s) {b : Nat} (hb : b < 6) : z_ai E G p (nI (3 + 5 * b)) = some (nI (sK s b)) := h.rd (by omega)
theorem IA.k1 (h : IA G p s) {b : Nat} (hb : b < 6) : z_ai E G p (nI (4 + 5 * b)) = some (nI (sF s b)) := h.rd (by omega)
theorem IA.k2 (h : IA G p s) {b : Nat} (hb : b < 6) : z_ai E G p (nI (5 + 5 * b)) = some (nI (sP s b)) := h.rd (by omega)
theorem IA.k3 (h : IA G p s) {b : Nat} (hb : b < 6) : z_ai E G p (nI (6 + 5 * b)) = some (nI (sR s b)) := h.rd (by omega)
theorem IA.k4 (h : IA G p s) {b : Nat} (hb : b < 6) : z_ai E G p (nI (7 + 5 * b)) = some (nI (sO s b)) := h.rd (by omega)
theorem IA.wr (h : IA G p s) {j : Nat} (v : Nat) (hj : j < 33) : ∃ G1, z_pi G p (nI j) (nI v) = some G1 ∧ IA G1 p (uN s j v) ∧ FR p 1 G G1 := by
  obtain ⟨f, e, q⟩ := h
  refine ⟨_, z_piI e hj (by decide), ⟨_, z_up_s _ _ _, fun b hb => ?_⟩, fun q hq => z_up_n _ _ (by omega)⟩
  unfold upd uN
  by_cases hbj : b = j
  · rw [if_pos hbj, if_pos hbj]
  · rw [if_neg hbj, if_neg hbj, q b hb]
theorem IX.rd {N : Nat} (h : IX G p N) (hN : N < 2 ^ 31) {j : Nat} (hj : j < N) : ∃ v, z_ai E G p (nI j) = some v := by obtain ⟨f, e⟩ := h; exact ⟨_, z_aiI e hj hN⟩
theorem IX.wr {N : Nat} (h : IX G p N) (hN : N < 2 ^ 31) {j : Nat} (hj : j < N) (v : Int32) : ∃ G1, z_pi G p (nI j) v = some G1 ∧ IX G1 p N ∧ FR p 1 G G1 := by
  obtain ⟨f, e⟩ := h
  exact ⟨_, z_piI e hj hN, ⟨_, z_up_s _ _ _⟩, fun q hq => z_up_n _ _ (by omega)⟩
end
/-! tests of a stretch -/
def inL (x a b : Int32) : Bool := decide (a ≤ x) && decide (x ≤ b)
theorem inL_N (x : Int32) {N : Nat} (h0 : 0 < N) (hN : N < 2 ^ 31) : inL x 0 (nI (N - 1)) = inR x N := by
  unfold inL inR
  congr 1
  rw [decide_eq_decide]
  rw [Int32.le_iff_toInt_le, Int32.lt_iff_toInt_lt, nI_toInt (show N - 1 < 2 ^ 31 by omega), nI_toInt hN]
  omega
theorem inL_m (x : Int32) {N : Nat} (hN : N < 2 ^ 31) : inL x 0 (nI N - 1) = inR x N := by
  by_cases h : N = 0
  · subst h
    unfold inL inR
    by_cases h1 : 0 ≤ x
    · have h2 : ¬ x < nI 0 := Int32.not_lt.mpr h1
      have h3 : ¬ x ≤ nI 0 - 1 := by
        intro z
        have := Int32.le_trans h1 z
        exact absurd this (by decide)
      simp [h2, h3]
    · simp [h1]
  · rw [pk_m1' (by omega)]; exact inL_N x (by omega) hN
theorem il_31 (x : Int32) : inL x 0 30 = inR x 31 := inL_N x (N := 31) (by decide) (by decide)
theorem il_8 (x : Int32) : inL x 0 7 = inR x 8 := inL_N x (N := 8) (by decide) (by decide)
theorem il_24 (x : Int32) : inL x 0 23 = inR x 24 := inL_N x (N := 24) (by decide) (by decide)
theorem il_10 (x : Int32) : inL x 0 9 = inR x 10 := inL_N x (N := 10) (by decide) (by decide)
theorem il_3 (x : Int32) : inL x 0 2 = inR x 3 := inL_N x (N := 3) (by decide) (by decide)
theorem il_01 (x : Int32) : inL x 0 1 = is01 x := by
  have e : (0 ≤ x ∧ x ≤ 1) ↔ (x = 0 ∨ x = 1) := by
    rw [Int32.le_iff_toInt_le, Int32.le_iff_toInt_le, ← Int32.toInt_inj, ← Int32.toInt_inj, show (0 : Int32).toInt = 0 by decide, show (1 : Int32).toInt = 1 by decide]
    omega
  unfold inL is01
  rw [Bool.eq_iff_iff]
  simp only [Bool.and_eq_true, Bool.or_eq_true, decide_eq_true_eq]
  exact e
theorem il_ab (x : Int32) (a b : Nat) : inL x (nI a) (nI b) = inAB x a b := rfl
section
variable {E : z_E} (lv N k : Nat) (G : z_H)
theorem sD_isIn (x a b : Int32) : z_evM E i_D_isIn lv [.int x, .int a, .int b] N k G = some (some (.int (z_b (inL x a b))), N, k, G) := by
  simp only [zm_D_isIn, zr_D_isIn_0, zr_D_isIn_1, zr_D_isIn_2, zr_D_isIn_5, zr_D_isIn_6, zr_D_isIn_7, zr_D_isIn_10, zr_D_isIn_11, zr_D_isIn_14, zr_D_isIn_15, z00, z10, true_or, or_true]
  unfold inL
  by_cases h1 : x < a
  · have : ¬ a ≤ x := Int32.not_le.mpr h1
    simp [h1, this, z_b]
  · have h1' : a ≤ x := Int32.not_lt.mp h1
    by_cases h2 : b < x
    · have : ¬ x ≤ b := Int32.not_le.mpr h2
      simp [h1, h2, this, z_b]
    · have : x ≤ b := Int32.not_lt.mp h2
      simp [h1, h2, h1', this, z_b]
theorem sD_least (a b : Nat) (ha : a < 2 ^ 31) (hb : b < 2 ^ 31) : z_evM E i_D_least lv [.int (nI a), .int (nI b)] N k G = some (some (.int (nI (min a b))), N, k, G) := by
  by_cases h : a < b
  · have c : ¬ nI b ≤ nI a := nI_ge h hb
    simp only [zm_D_least, zr_D_least_0, zr_D_least_1, zr_D_least_2, zr_D_least_5, zr_D_least_6, zr_D_least_9, zr_D_least_10, c, z_obs, z_pu_s, z_pu_n, z00, z10, ↓reduceIte, true_or, or_true, z_b_t, z_b_f, Nat.min_eq_left (Nat.le_of_lt h)]
  · have c : nI b ≤ nI a := nI_le (by omega) ha
    simp only [zm_D_least, zr_D_least_0, zr_D_least_1, zr_D_least_2, zr_D_least_5, zr_D_least_6, zr_D_least_9, zr_D_least_10, c, z_obs, z_pu_s, z_pu_n, z00, z10, ↓reduceIte, true_or, or_true, z_b_t, z_b_f, Nat.min_eq_right (show b ≤ a by omega)]
theorem sD_of (b w : Nat) : z_evM E i_D_of lv [.int (nI b), .int (nI w)] N k G = some (some (.int (nI (3 + 5 * b + w))), N, k, G) := by
  simp only [zm_D_of, zr_D_of_0, zr_D_of_1, zr_D_of_2, zr_D_of_3, zr_D_of_4, zr_D_of_5, zr_D_of_6, zr_D_of_7, show (3 : Int32) = nI 3 from rfl, show (5 : Int32) = nI 5 from rfl, pk_mul, nI_add]
theorem sD_of0 (b : Nat) : z_evM E i_D_of lv [.int (nI b), .int 0] N k G = some (some (.int (nI (3 + 5 * b))), N, k, G) := sD_of lv N k G b 0
theorem sD_of1 (b : Nat) : z_evM E i_D_of lv [.int (nI b), .int 1] N k G = some (some (.int (nI (4 + 5 * b))), N, k, G) := by rw [show 4 + 5 * b = 3 + 5 * b + 1 by omega]; exact sD_of lv N k G b 1
theorem sD_of2 (b : Nat) : z_evM E i_D_of lv [.int (nI b), .int 2] N k G = some (some (.int (nI (5 + 5 * b))), N, k, G) := by rw [show 5 + 5 * b = 3 + 5 * b + 2 by omega]; exact sD_of lv N k G b 2
theorem sD_of3 (b : Nat) : z_evM E i_D_of lv [.int (nI b), .int 3] N k G = some (some (.int (nI (6 + 5 * b))), N, k, G) := by rw [show 6 + 5 * b = 3 + 5 * b + 3 by omega]; exact sD_of lv N k G b 3
theorem sD_of4 (b : Nat) : z_evM E i_D_of lv [.int (nI b), .int 4] N k G = some (some (.int (nI (7 + 5 * b))), N, k, G) := by rw [show 7 + 5 * b = 3 + 5 * b + 4 by omega]; exact sD_of lv N k G b 4
theorem sD_isPlace (x : Int32) : z_evM E i_D_isPlace lv [.int x] N k G = some (some (.int (z_b (inR x 31))), N, k, G) := by
  simp only [zm_D_isPlace, zr_D_isPlace_0, zr_D_isPlace_1, zr_D_isPlace_2, zr_D_isPlace_4, zr_D_isPlace_7, sD_isIn, il_31, z_obs, z_pu_s, z_pu_n, z00, z10, ↓reduceIte, true_or, or_true, z_b_t, z_b_f, z01c]
theorem sD_isShelf (x : Int32) : z_evM E i_D_isShelf lv [.int x] N k G = some (some (.int (z_b (inR x 8))), N, k, G) := by
  simp only [zm_D_isShelf, zr_D_isShelf_0, zr_D_isShelf_1, zr_D_isShelf_2, zr_D_isShelf_4, zr_D_isShelf_7, sD_isIn, il_8, z_obs, z_pu_s, z_pu_n, z00, z10, ↓reduceIte, true_or, or_true, z_b_t, z_b_f, z01c]
end
theorem shr_bit {v j : Nat} (hv : v < 2 ^ 31) (hj : j < 31) : ((nI v >>> (nI j &&& 31)) &&& 1) = nI (v / 2 ^ j % 2) := by
  have h : ∀ j, j < 31 → ((nI j &&& 31).toBitVec.smod 32).toNat = j := by decide +kernel
  rw [pk_shrN hv _ j (h j hj)]
  exact pk_andN (Nat.lt_of_le_of_lt (Nat.div_le_self _ _) (by omega)) 1 (by decide)
section
variable {E : z_E} (lv N k : Nat) (G : z_H)
theorem sD_has {v j : Nat} (hv : v < 2 ^ 31) (hj : j < 31) : z_evM E i_D_has lv [.int (nI v), .int (nI j)] N k G = some (some (.int (z_b (b6 v j))), N, k, G) := by
  have e := shr_bit hv hj
  unfold b6
  have h2 : v / 2 ^ j % 2 = 0 ∨ v / 2 ^ j % 2 = 1 := by omega
  rcases h2 with h2 | h2 <;> rw [h2] at e ⊢
  · simp only [zm_D_has, zr_D_has_0, zr_D_has_1, zr_D_has_2, zr_D_has_3, zr_D_has_4, zr_D_has_5, zr_D_has_6, zr_D_has_9, zr_D_has_10, zr_D_has_13, zr_D_has_14, e, show ¬ nI 0 = 1 by decide, z_obs, z_pu_s, z_pu_n, z00, z10, ↓reduceIte, true_or, or_true, z_b_t, z_b_f]; rfl
  · simp only [zm_D_has, zr_D_has_0, zr_D_has_1, zr_D_has_2, zr_D_has_3, zr_D_has_4, zr_D_has_5, zr_D_has_6, zr_D_has_9, zr_D_has_10, zr_D_has_13, zr_D_has_14, e, show (nI 1 = 1) = True from eq_true rfl, z_obs, z_pu_s, z_pu_n, z00, z10, ↓reduceIte, true_or, or_true, z_b_t, z_b_f]; rfl
theorem bits_pop : ∀ v, v < 64 → foldN (fun j acc => acc + ((nI v >>> (nI j &&& 31)) &&& 1)) 24 0 0 = nI (pop v) := by decide +kernel
theorem sD_bits {v : Nat} (hv : v < 64) : z_evM E i_D_bits lv [.int (nI v)] N k G = some (some (.int (nI (pop v))), N, k, G) := by
  rw [← bits_pop v hv]
  simp only [zm_D_bits, zr_D_bits_0, zr_D_bits_1, zr_D_bits_2, zr_D_bits_3]
  refine z_loop (fun i acc => z_ev E i_D_bits lv 4 [some (.int (nI v)), some (.int acc), some (.int (nI i))] [] N k G) (fun j acc => acc + ((nI v >>> (nI j &&& 31)) &&& 1)) 24 (fun acc => some (some (.int acc), N, k, G)) ?_ ?_ 24 0 0 (by omega)
  · intro acc
    have c : nI 24 ≤ nI 24 := nI_le (Nat.le_refl _) (by omega)
    simp only [zr_D_bits_0, zr_D_bits_1, zr_D_bits_2, zr_D_bits_3, zr_D_bits_4, zr_D_bits_5, zr_D_bits_7, zr_D_bits_10, zr_D_bits_11, zr_D_bits_12, zr_D_bits_13, zr_D_bits_14, zr_D_bits_15, zr_D_bits_16, zr_D_bits_17, zr_D_bits_18, zr_D_bits_21, zr_D_bits_24, zr_D_bits_25, int_24, c, z_obs, z_pu_s, z_pu_n, z00, z10, ↓reduceIte, true_or, or_true, z_b_t, z_b_f]
  · intro i acc hi
    have c : ¬ nI 24 ≤ nI i := nI_ge hi (by omega)
    rw [zr_D_bits_4]
    simp only [zr_D_bits_0, zr_D_bits_1, zr_D_bits_2, zr_D_bits_3, zr_D_bits_5, zr_D_bits_7, zr_D_bits_10, zr_D_bits_11, zr_D_bits_12, zr_D_bits_13, zr_D_bits_14, zr_D_bits_15, zr_D_bits_16, zr_D_bits_17, zr_D_bits_18, zr_D_bits_21, zr_D_bits_24, zr_D_bits_25, int_24, c, z_obs, z_pu_s, z_pu_n, z00, z10, ↓reduceIte, true_or, or_true, z_b_t, z_b_f, nI_1]
theorem hm_rem : ∀ f, f < 10 → ∀ h, h < 24 → (nI h - nI f + 24) - (nI h - nI f + 24) / 24 * 24 = nI ((h + 24 - f) % 24) := by decide +kernel
theorem hm_rem2 : ∀ h, h < 24 → nI h - nI h / 2 * 2 = nI (h % 2) := by decide +kernel
theorem hm_rem3 : ∀ f, f < 10 → ∀ h, h < 24 → nI h - nI h / (nI f + 1) * (nI f + 1) = nI (h % (f + 1)) ∧ ¬ nI f + 1 = 0 := by decide +kernel
theorem sD_homeTail {kd f h : Nat} (hk : kd < 8) (hf : f < 10) (hh : h < 24) (bl dr : Bool) : z_ev E i_D_isHomeBy lv 43 [some (.int (nI kd)), some (.int (nI f)), some (.int (nI h)), some (.int (z_b bl)), some (.int (z_b dr))] [] N k G = some (some (.int (z_b (if kd = 1 then dr else if kd = 2 then true else if kd = 3 then !dr else if kd = 4 then dr && decide (h % 2 = 0) else if kd = 5 then false else if kd = 6 then decide (h % (f + 1) = 0) else if kd = 7 then !dr || decide (h = 0) else bl))), N, k, G) := by
  have c1 : (nI kd = 1) = (kd = 1) := nI_eqI' (b := 1) (by omega) (by omega)
  have c2 : (nI kd = 2) = (kd = 2) := nI_eqI' (b := 2) (by omega) (by omega)
  have c3 : (nI kd = 3) = (kd = 3) := nI_eqI' (b := 3) (by omega) (by omega)
  have c4 : (nI kd = 4) = (kd = 4) := nI_eqI' (b := 4) (by omega) (by omega)
  have c5 : (nI kd = 5) = (kd = 5) := nI_eqI' (b := 5) (by omega) (by omega)
  have c6 : (nI kd = 6) = (kd = 6) := nI_eqI' (b := 6) (by omega) (by omega)
  have c7 : (nI kd = 7) = (kd = 7) := nI_eqI' (b := 7) (by omega) (by omega)
  have e0 : (nI (h % 2) = 0) = (h % 2 = 0) := nI_eqI' (b := 0) (by omega) (by omega)
  have e1 : (nI (h % (f + 1)) = 0) = (h % (f + 1) = 0) := nI_eqI' (b := 0) (Nat.lt_of_le_of_lt (Nat.mod_le _ _) (by omega)) (by omega)
  have e2 : (nI h = 0) = (h = 0) := nI_eqI' (b := 0) (by omega) (by omega)
  have h8 : kd = 0 ∨ kd = 1 ∨ kd = 2 ∨ kd = 3 ∨ kd = 4 ∨ kd = 5 ∨ kd = 6 ∨ kd = 7 := by omega
  cases bl <;> cases dr <;> simp only [zr_D_isHomeBy_43, zr_D_isHomeBy_44, zr_D_isHomeBy_88, zr_D_isHomeBy_90, zr_D_isHomeBy_91, zr_D_isHomeBy_92, zr_D_isHomeBy_93, zr_D_isHomeBy_95, zr_D_isHomeBy_98, zr_D_isHomeBy_99, zr_D_isHomeBy_102, zr_D_isHomeBy_103, zr_D_isHomeBy_104, zr_D_isHomeBy_106, zr_D_isHomeBy_109, zr_D_isHomeBy_110, zr_D_isHomeBy_111, zr_D_isHomeBy_112, zr_D_isHomeBy_115, zr_D_isHomeBy_116, zr_D_isHomeBy_119, zr_D_isHomeBy_120, zr_D_isHomeBy_121, zr_D_isHomeBy_122, zr_D_isHomeBy_123, zr_D_isHomeBy_124, zr_D_isHomeBy_125, zr_D_isHomeBy_126, zr_D_isHomeBy_127, zr_D_isHomeBy_128, zr_D_isHomeBy_131, zr_D_isHomeBy_132, zr_D_isHomeBy_135, zr_D_isHomeBy_136, zr_D_isHomeBy_137, zr_D_isHomeBy_139, zr_D_isHomeBy_142, zr_D_isHomeBy_143, zr_D_isHomeBy_146, zr_D_isHomeBy_147, zr_D_isHomeBy_150, zr_D_isHomeBy_151, zr_D_isHomeBy_152, zr_D_isHomeBy_153, c1, c2, c3, c4, c5, c6, c7, hm_rem2 h hh, (hm_rem3 f hf h hh).1, (hm_rem3 f hf h hh).2, show ¬ (2 : Int32) = 0 by decide, not_false_eq_true, e0, e1, e2, z_obs, z_pu_s, z_pu_n, z00, z10, ↓reduceIte, true_or, or_true, z_b_t, z_b_f, Bool.not_true, Bool.not_false, Bool.true_and, Bool.false_and, Bool.true_or, Bool.false_or] <;> rcases h8 with rfl | rfl | rfl | rfl | rfl | rfl | rfl | rfl <;> first | rfl | (simp [z_b]; done) | (simp [z_b]; split <;> simp_all [z_b]; done) | (split <;> simp_all [z_b])
theorem sD_isHomeBy {kd f h : Nat} (hk : kd < 8) (hf : f < 10) (hh : h < 24) : z_evM E i_D_isHomeBy lv [.int (nI kd), .int (nI f), .int (nI h)] N k G = some (some (.int (z_b (hm kd f h))), N, k, G) := by
  have hlt : (h + 24 - f) % 24 < 24 := Nat.mod_lt _ (by omega)
  have e0 : ((12 : Int32) ≤ nI ((h + 24 - f) % 24)) = (12 ≤ (h + 24 - f) % 24) := nI_leI' (a := 12) (by omega) (by omega)
  have e1 : (nI h = 12) = (h = 12) := nI_eqI' (b := 12) (by omega) (by omega)
  have e2 : (nI h = 13) = (h = 13) := nI_eqI' (b := 13) (by omega) (by omega)
  unfold hm
  simp only [zm_D_isHomeBy]
  by_cases g0 : 12 ≤ (h + 24 - f) % 24
  · have g0' : ¬ (h + 24 - f) % 24 < 12 := by omega
    have t := sD_homeTail (E := E) lv N k G hk hf hh false false
    rw [z_b_f] at t
    simp only [zr_D_isHomeBy_0, zr_D_isHomeBy_1, zr_D_isHomeBy_2, zr_D_isHomeBy_3, zr_D_isHomeBy_5, zr_D_isHomeBy_6, zr_D_isHomeBy_8, zr_D_isHomeBy_9, zr_D_isHomeBy_11, zr_D_isHomeBy_14, zr_D_isHomeBy_15, zr_D_isHomeBy_18, zr_D_isHomeBy_19, zr_D_isHomeBy_20, zr_D_isHomeBy_21, zr_D_isHomeBy_24, zr_D_isHomeBy_25, zr_D_isHomeBy_27, zr_D_isHomeBy_30, zr_D_isHomeBy_31, zr_D_isHomeBy_33, zr_D_isHomeBy_36, zr_D_isHomeBy_37, zr_D_isHomeBy_40, zr_D_isHomeBy_41, hm_rem f hf h hh, e0, g0, g0', show ¬ (24 : Int32) = 0 by decide, not_false_eq_true, z_obs, z_pu_s, z_pu_n, z00, z10, ↓reduceIte, true_or, or_true, z_b_t, z_b_f, decide_false, Bool.false_and]
    exact t
  · have g0' : (h + 24 - f) % 24 < 12 := by omega
    by_cases g1 : h = 12
    · have t := sD_homeTail (E := E) lv N k G hk hf hh true false
      rw [z_b_f, z_b_t] at t
      simp only [zr_D_isHomeBy_0, zr_D_isHomeBy_1, zr_D_isHomeBy_2, zr_D_isHomeBy_3, zr_D_isHomeBy_5, zr_D_isHomeBy_6, zr_D_isHomeBy_8, zr_D_isHomeBy_9, zr_D_isHomeBy_11, zr_D_isHomeBy_14, zr_D_isHomeBy_15, zr_D_isHomeBy_18, zr_D_isHomeBy_19, zr_D_isHomeBy_20, zr_D_isHomeBy_21, zr_D_isHomeBy_24, zr_D_isHomeBy_25, zr_D_isHomeBy_27, zr_D_isHomeBy_30, zr_D_isHomeBy_31, zr_D_isHomeBy_33, zr_D_isHomeBy_36, zr_D_isHomeBy_37, zr_D_isHomeBy_40, zr_D_isHomeBy_41, hm_rem f hf h hh, e0, g0, g0', e1, eq_true g1, show ¬ (24 : Int32) = 0 by decide, not_false_eq_true, z_obs, z_pu_s, z_pu_n, z00, z10, ↓reduceIte, true_or, or_true, z_b_t, z_b_f, decide_true, decide_false, Bool.true_and, Bool.false_and, ne_eq, not_true_eq_false]
      exact t
    · by_cases g2 : h = 13
      · have t := sD_homeTail (E := E) lv N k G hk hf hh true false
        rw [z_b_f, z_b_t] at t
        simp only [zr_D_isHomeBy_0, zr_D_isHomeBy_1, zr_D_isHomeBy_2, zr_D_isHomeBy_3, zr_D_isHomeBy_5, zr_D_isHomeBy_6, zr_D_isHomeBy_8, zr_D_isHomeBy_9, zr_D_isHomeBy_11, zr_D_isHomeBy_14, zr_D_isHomeBy_15, zr_D_isHomeBy_18, zr_D_isHomeBy_19, zr_D_isHomeBy_20, zr_D_isHomeBy_21, zr_D_isHomeBy_24, zr_D_isHomeBy_25, zr_D_isHomeBy_27, zr_D_isHomeBy_30, zr_D_isHomeBy_31, zr_D_isHomeBy_33, zr_D_isHomeBy_36, zr_D_isHomeBy_37, zr_D_isHomeBy_40, zr_D_isHomeBy_41, hm_rem f hf h hh, e0, g0, g0', e1, eq_false g1, e2, eq_true g2, show ¬ (24 : Int32) = 0 by decide, not_false_eq_true, z_obs, z_pu_s, z_pu_n, z00, z10, ↓reduceIte, true_or, or_true, z_b_t, z_b_f, decide_true, decide_false, Bool.true_and, Bool.and_false, ne_eq, not_true_eq_false]
        exact t
      · have t := sD_homeTail (E := E) lv N k G hk hf hh true true
        rw [z_b_t] at t
        simp only [zr_D_isHomeBy_0, zr_D_isHomeBy_1, zr_D_isHomeBy_2, zr_D_isHomeBy_3, zr_D_isHomeBy_5, zr_D_isHomeBy_6, zr_D_isHomeBy_8, zr_D_isHomeBy_9, zr_D_isHomeBy_11, zr_D_isHomeBy_14, zr_D_isHomeBy_15, zr_D_isHomeBy_18, zr_D_isHomeBy_19, zr_D_isHomeBy_20, zr_D_isHomeBy_21, zr_D_isHomeBy_24, zr_D_isHomeBy_25, zr_D_isHomeBy_27, zr_D_isHomeBy_30, zr_D_isHomeBy_31, zr_D_isHomeBy_33, zr_D_isHomeBy_36, zr_D_isHomeBy_37, zr_D_isHomeBy_40, zr_D_isHomeBy_41, hm_rem f hf h hh, e0, g0, g0', e1, g1, e2, g2, show ¬ (24 : Int32) = 0 by decide, not_false_eq_true, z_obs, z_pu_s, z_pu_n, z00, z10, ↓reduceIte, true_or, or_true, z_b_t, z_b_f, decide_true, Bool.true_and, ne_eq]
        exact t
theorem wt_x : ∀ f, f < 10 → 2 + nI f / 3 = nI (2 + f / 3) ∧ nI f / 2 + 1 = nI (f / 2 + 1) ∧ 2 * nI (2 + f / 3) = nI (2 * (2 + f / 3)) := by decide +kernel
theorem stp_x : ∀ f, f < 10 → nI f + 3 = nI (f + 3) ∧ 2 * (nI f + 3) = nI (2 * (f + 3)) ∧ (nI f + 3) / 2 = nI ((f + 3) / 2) ∧ 9 - nI f = nI (9 - f) ∧ 2 * (nI f + 3) + 1 = nI (2 * (f + 3) + 1) := by decide +kernel
theorem sD_wants {kd f : Nat} (hk : kd < 8) (hf : f < 10) : z_evM E i_D_wants lv [.int (nI kd), .int (nI f)] N k G = some (some (.int (nI (wt kd f))), N, k, G) := by
  have c1 : (nI kd = 1) = (kd = 1) := nI_eqI' (b := 1) (by omega) (by omega)
  have c2 : (nI kd = 2) = (kd = 2) := nI_eqI' (b := 2) (by omega) (by omega)
  have c3 : (nI kd = 3) = (kd = 3) := nI_eqI' (b := 3) (by omega) (by omega)
  have c4 : (nI kd = 4) = (kd = 4) := nI_eqI' (b := 4) (by omega) (by omega)
  have c5 : (nI kd = 5) = (kd = 5) := nI_eqI' (b := 5) (by omega) (by omega)
  have c6 : (nI kd = 6) = (kd = 6) := nI_eqI' (b := 6) (by omega) (by omega)
  have c7 : (nI kd = 7) = (kd = 7) := nI_eqI' (b := 7) (by omega) (by omega)
  obtain ⟨x1, x2, x3⟩ := wt_x f hf
  simp only [zm_D_wants, zr_D_wants_0, zr_D_wants_1, zr_D_wants_44, zr_D_wants_45, zr_D_wants_46, zr_D_wants_47, zr_D_wants_48, zr_D_wants_49, zr_D_wants_50, zr_D_wants_51, zr_D_wants_52, zr_D_wants_53, zr_D_wants_54, zr_D_wants_55, zr_D_wants_56, zr_D_wants_57, zr_D_wants_58, zr_D_wants_59, zr_D_wants_60, zr_D_wants_61, zr_D_wants_62, zr_D_wants_63, zr_D_wants_64, zr_D_wants_65, zr_D_wants_66, zr_D_wants_67, c1, c2, c3, c4, c5, c6, c7, x1, x2, x3, show ¬ (2 : Int32) = 0 by decide, show ¬ (3 : Int32) = 0 by decide, not_false_eq_true]
  have h8 : kd = 0 ∨ kd = 1 ∨ kd = 2 ∨ kd = 3 ∨ kd = 4 ∨ kd = 5 ∨ kd = 6 ∨ kd = 7 := by omega
  rcases h8 with rfl | rfl | rfl | rfl | rfl | rfl | rfl | rfl <;> rfl
theorem sD_steps {kd f : Nat} (hk : kd < 8) (hf : f < 10) : z_evM E i_D_steps lv [.int (nI kd), .int (nI f)] N k G = some (some (.int (nI (stp kd f))), N, k, G) := by
  have c1 : (nI kd = 1) = (kd = 1) := nI_eqI' (b := 1) (by omega) (by omega)
  have c2 : (nI kd = 2) = (kd = 2) := nI_eqI' (b := 2) (by omega) (by omega)
  have c3 : (nI kd = 3) = (kd = 3) := nI_eqI' (b := 3) (by omega) (by omega)
  have c4 : (nI kd = 4) = (kd = 4) := nI_eqI' (b := 4) (by omega) (by omega)
  have c5 : (nI kd = 5) = (kd = 5) := nI_eqI' (b := 5) (by omega) (by omega)
  have c6 : (nI kd = 6) = (kd = 6) := nI_eqI' (b := 6) (by omega) (by omega)
  have c7 : (nI kd = 7) = (kd = 7) := nI_eqI' (b := 7) (by omega) (by omega)
  obtain ⟨x1, x2, x3, x4, x5⟩ := stp_x f hf
  simp only [zm_D_steps, zr_D_steps_0, zr_D_steps_1, zr_D_steps_44, zr_D_steps_45, zr_D_steps_46, zr_D_steps_47, zr_D_steps_48, zr_D_steps_49, zr_D_steps_50, zr_D_steps_51, zr_D_steps_52, zr_D_steps_53, zr_D_steps_54, zr_D_steps_55, zr_D_steps_56, zr_D_steps_57, zr_D_steps_58, zr_D_steps_59, zr_D_steps_60, zr_D_steps_61, zr_D_steps_62, zr_D_steps_64, zr_D_steps_65, zr_D_steps_66, zr_D_steps_67, zr_D_steps_68, zr_D_steps_69, zr_D_steps_70, zr_D_steps_71, zr_D_steps_72, zr_D_steps_73, zr_D_steps_74, zr_D_steps_75, zr_D_steps_76, zr_D_steps_77, zr_D_steps_78, c1, c2, c3, c4, c5, c6, c7, x1, x2, x3, x4, x5, nI_1, show ¬ (2 : Int32) = 0 by decide, not_false_eq_true]
  have h8 : kd = 0 ∨ kd = 1 ∨ kd = 2 ∨ kd = 3 ∨ kd = 4 ∨ kd = 5 ∨ kd = 6 ∨ kd = 7 := by omega
  rcases h8 with rfl | rfl | rfl | rfl | rfl | rfl | rfl | rfl
  all_goals (simp; try (have := x1; have := x2; have := x3; have := x4; have := x5; simp_all [stp, nI_0]))
end
section
variable {E : z_E} {G : z_H} {p : Nat} {s : Nat → Nat} (lv N k : Nat)
theorem sD_isHome (h : IA G p s) (w : WF s) {j t : Nat} (hj : j < s 0) (ht : t < 2 ^ 31) : z_evM E i_D_isHome lv [.ref p, .int (nI j), .int (nI t)] N k G = some (some (.int (z_b (sH s j t))), N, k, G) := by
  have hj6 : j < 6 := Nat.lt_of_lt_of_le hj w.1
  have hk := w.2.2.2 j hj
  have c24 : ¬ nI 24 = 0 := nI_ne0 (by omega) (by omega)
  simp only [zm_D_isHome, zr_D_isHome_0, zr_D_isHome_0n, zr_D_isHome_1, zr_D_isHome_2, zr_D_isHome_3, zr_D_isHome_6, zr_D_isHome_7, zr_D_isHome_7n, zr_D_isHome_8, zr_D_isHome_9, zr_D_isHome_10, zr_D_isHome_13, zr_D_isHome_14, zr_D_isHome_15, zr_D_isHome_17, zr_D_isHome_18, zr_D_isHome_21, sD_of0, sD_of1, h.k0 hj6, h.k1 hj6, int_24, c24, not_false_eq_true, pk_div ht (show 0 < 24 by omega) (show 24 < 2 ^ 31 by omega), z_rem2 ht (show 0 < 24 by omega) (show 24 < 2 ^ 31 by omega), sD_isHomeBy _ _ _ _ hk.1 hk.2.1 (Nat.mod_lt t (show 24 > 0 by omega)), z_obs, z_pu_s, z_pu_n, z00, z10, ↓reduceIte, true_or, or_true, z_b_t, z_b_f, z01c]
  rfl
theorem sD_wantsOf (h : IA G p s) (w : WF s) {j : Nat} (hj : j < s 0) : z_evM E i_D_wantsOf lv [.ref p, .int (nI j)] N k G = some (some (.int (nI (sW s j))), N, k, G) := by
  have hj6 : j < 6 := Nat.lt_of_lt_of_le hj w.1
  have hk := w.2.2.2 j hj
  simp only [zm_D_wantsOf, zr_D_wantsOf_0, zr_D_wantsOf_0n, zr_D_wantsOf_1, zr_D_wantsOf_2, zr_D_wantsOf_3, zr_D_wantsOf_6, zr_D_wantsOf_7, zr_D_wantsOf_7n, zr_D_wantsOf_8, zr_D_wantsOf_9, zr_D_wantsOf_10, zr_D_wantsOf_13, zr_D_wantsOf_14, zr_D_wantsOf_17, sD_of0, sD_of1, h.k0 hj6, h.k1 hj6, sD_wants _ _ _ _ hk.1 hk.2.1, z_obs, z_pu_s, z_pu_n, z00, z10, ↓reduceIte, true_or, or_true, z_b_t, z_b_f]
  rfl
theorem sD_stepsOf (h : IA G p s) (w : WF s) {j : Nat} (hj : j < s 0) : z_evM E i_D_stepsOf lv [.ref p, .int (nI j)] N k G = some (some (.int (nI (sS s j))), N, k, G) := by
  have hj6 : j < 6 := Nat.lt_of_lt_of_le hj w.1
  have hk := w.2.2.2 j hj
  simp only [zm_D_stepsOf, zr_D_stepsOf_0, zr_D_stepsOf_0n, zr_D_stepsOf_1, zr_D_stepsOf_2, zr_D_stepsOf_3, zr_D_stepsOf_6, zr_D_stepsOf_7, zr_D_stepsOf_7n, zr_D_stepsOf_8, zr_D_stepsOf_9, zr_D_stepsOf_10, zr_D_stepsOf_13, zr_D_stepsOf_14, zr_D_stepsOf_17, sD_of0, sD_of1, h.k0 hj6, h.k1 hj6, sD_steps _ _ _ _ hk.1 hk.2.1, z_obs, z_pu_s, z_pu_n, z00, z10, ↓reduceIte, true_or, or_true, z_b_t, z_b_f]
  rfl
end
