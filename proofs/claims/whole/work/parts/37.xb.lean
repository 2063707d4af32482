/-! THE CLASS: bits counted, rows read; who is alone, one door, who is nearest, what is judged -/
def pop (v : Nat) : Nat := v % 2 + v / 2 % 2 + v / 4 % 2 + v / 8 % 2 + v / 16 % 2 + v / 32 % 2
def pcn (s : Nat → Nat) (t : Nat) : Nat := foldN (fun b acc => acc + if hm (sK s b) (sF s b) t = true then 1 else 0) (s 0) 0 0
/-- a mask of so many bits, how many are in it -/
def mkI (c : Nat → Bool) (m : Nat) : Int32 := foldN (fun b acc => acc ||| (if c b = true then (1 : Int32) <<< (nI b &&& 31) else 0)) m 0 0
def mkC (c : Nat → Bool) (m : Nat) : Nat := foldN (fun b acc => acc + if c b = true then 1 else 0) m 0 0
def mkN (c : Nat → Bool) (m : Nat) : Nat := foldN (fun b acc => acc + if c b = true then 2 ^ b else 0) m 0 0
theorem foldN_congr {α : Type} {f g : Nat → α → α} : ∀ m i acc, (∀ j a, i ≤ j → j < i + m → f j a = g j a) → foldN f m i acc = foldN g m i acc := by
  intro m
  induction m with
  | zero => intro i acc h; rfl
  | succ m ih => intro i acc h; unfold foldN; rw [h i acc (Nat.le_refl _) (by omega)]; exact ih (i + 1) _ fun j a h1 h2 => h j a (by omega) (by omega)
def b6 (v : Nat) : Nat → Bool := fun b => v / 2 ^ b % 2 == 1
theorem mk6_all : ∀ m, m < 7 → ∀ v, v < 2 ^ m → mkI (b6 v) m = nI v ∧ mkC (b6 v) m = pop v ∧ mkN (b6 v) m = v := by decide +kernel
/-- any mask's bits are some number's -/
theorem mk_num (c : Nat → Bool) : ∀ m, ∃ v, v < 2 ^ m ∧ ∀ b, b < m → b6 v b = c b := by
  intro m
  induction m with
  | zero => exact ⟨0, by decide, fun b hb => absurd hb (Nat.not_lt_zero b)⟩
  | succ m ih =>
    obtain ⟨v, h1, h2⟩ := ih
    have hp : 2 ^ (m + 1) = 2 ^ m + 2 ^ m := by rw [Nat.pow_succ]; omega
    have hlow : ∀ b, b < m → (2 ^ m + v) / 2 ^ b % 2 = v / 2 ^ b % 2 := by
      intro b hb
      obtain ⟨d, rfl⟩ : ∃ d, m = b + (d + 1) := ⟨m - b - 1, by omega⟩
      have e : 2 ^ (b + (d + 1)) = 2 ^ b * (2 * 2 ^ d) := by rw [Nat.pow_add, Nat.pow_succ, Nat.mul_comm (2 ^ d) 2]
      rw [e, Nat.mul_add_div (Nat.pos_of_ne_zero (by simp)), Nat.add_mod, Nat.mul_mod_right, Nat.zero_add, Nat.mod_mod]
    cases hc : c m
    · refine ⟨v, by omega, fun b hb => ?_⟩
      by_cases e : b = m
      · subst e
        rw [hc]
        unfold b6
        rw [Nat.div_eq_of_lt h1]; rfl
      · exact h2 b (by omega)
    · refine ⟨2 ^ m + v, by omega, fun b hb => ?_⟩
      by_cases e : b = m
      · subst e
        rw [hc]
        unfold b6
        have : (2 ^ b + v) / 2 ^ b = 1 := by
          rw [Nat.add_div_left _ (Nat.pos_of_ne_zero (by simp)), Nat.div_eq_of_lt h1]
        rw [this]; rfl
      · rw [← h2 b (by omega)]
        unfold b6
        rw [hlow b (by omega)]
theorem mk_all (c : Nat → Bool) {m : Nat} (hm : m ≤ 6) : ∃ v, v < 2 ^ m ∧ mkI c m = nI v ∧ mkC c m = pop v ∧ mkN c m = v ∧ ∀ b, b < m → b6 v b = c b := by
  obtain ⟨v, h1, h2⟩ := mk_num c m
  obtain ⟨q1, q2, q3⟩ := mk6_all m (by omega) v h1
  refine ⟨v, h1, ?_, ?_, ?_, h2⟩
  · rw [← q1]; exact foldN_congr _ _ _ fun j a _ hj => by rw [h2 j (by omega)]
  · rw [← q2]; exact foldN_congr _ _ _ fun j a _ hj => by rw [h2 j (by omega)]
  · refine Eq.trans ?_ q3; exact foldN_congr _ _ _ fun j a _ hj => by rw [h2 j (by omega)]
theorem pow_le64 {m : Nat} (h : m ≤ 6) : 2 ^ m ≤ 64 := Nat.pow_le_pow_right (by decide) h
theorem hmI_num {s : Nat → Nat} (w : WF s) (t : Nat) : ∃ v, v < 64 ∧ hmI s t = nI v ∧ pcn s t = pop v ∧ ∀ b, b < s 0 → b6 v b = hm (sK s b) (sF s b) t := by
  obtain ⟨v, h1, h2, h3, -, h4⟩ := mk_all (fun b => hm (sK s b) (sF s b) t) w.1
  exact ⟨v, Nat.lt_of_lt_of_le h1 (pow_le64 w.1), h2, h3, h4⟩
def bcE (x : Int32) : Int32 :=
  let a := x - ((x.toUInt32 >>> ((1 : Int32).toUInt32 &&& Int32.toUInt32 31)).toInt32 &&& 1431655765)
  let b := (a &&& 858993459) + ((a.toUInt32 >>> ((2 : Int32).toUInt32 &&& Int32.toUInt32 31)).toInt32 &&& 858993459)
  let c := (b + (b.toUInt32 >>> ((4 : Int32).toUInt32 &&& Int32.toUInt32 31)).toInt32) &&& 252645135
  let d := c + (c.toUInt32 >>> ((8 : Int32).toUInt32 &&& Int32.toUInt32 31)).toInt32
  let e := d + (d.toUInt32 >>> ((16 : Int32).toUInt32 &&& Int32.toUInt32 31)).toInt32
  e &&& 63
theorem bcE_pop : ∀ v, v < 64 → bcE (nI v) = nI (pop v) := by decide +kernel
theorem pop_le (v : Nat) : pop v ≤ 6 := by unfold pop; omega
theorem pcn_le {s : Nat → Nat} (w : WF s) (t : Nat) : pcn s t ≤ 6 := by obtain ⟨v, -, -, h, -⟩ := hmI_num w t; rw [h]; exact pop_le v
section
variable {E : z_E} {G : z_H} (lv N k : Nat)
theorem sJ_bitCount {v : Nat} (hv : v < 64) : z_evM E i_J_bitCount lv [.int (nI v)] N k G = some (some (.int (nI (pop v))), N, k, G) := by
  rw [← bcE_pop v hv]
  simp only [zm_J_bitCount, zr_J_bitCount_0, zr_J_bitCount_1, zr_J_bitCount_2, zr_J_bitCount_3, zr_J_bitCount_4, zr_J_bitCount_7, zr_J_bitCount_8, zr_J_bitCount_9, zr_J_bitCount_10, zr_J_bitCount_11, zr_J_bitCount_14, zr_J_bitCount_15, zr_J_bitCount_16, zr_J_bitCount_17, zr_J_bitCount_18, zr_J_bitCount_21, zr_J_bitCount_22, zr_J_bitCount_23, zr_J_bitCount_24, zr_J_bitCount_25, zr_J_bitCount_26, zr_J_bitCount_27, zr_J_bitCount_28, zr_J_bitCount_29, zr_J_bitCount_32, zr_J_bitCount_33, zr_J_bitCount_34, zr_J_bitCount_35, zr_J_bitCount_36, zr_J_bitCount_38, zr_J_bitCount_39, zr_J_bitCount_40, zr_J_bitCount_41, zr_J_bitCount_42, zr_J_bitCount_43, zr_J_bitCount_45, zr_J_bitCount_46, zr_J_bitCount_47, zr_J_bitCount_48, zr_J_bitCount_49, zr_J_bitCount_51, zr_J_bitCount_52]
  rfl
end
/-- the hour at which most are home, how many -/
def bzF (s : Nat → Nat) (h : Nat) (acc : Nat × Nat) : Nat × Nat := if acc.2 < pcn s h then (h, pcn s h) else acc
def aBusiest (s : Nat → Nat) (y : Int32) : Int32 := if is01 y = true then (if y = 0 then nI (foldN (bzF s) 24 0 (0, 0)).1 else nI (foldN (bzF s) 24 0 (0, 0)).2) else -1
def aAlone (s : Nat → Nat) : Int32 := foldN (fun h acc => if pcn s h = 1 then acc ||| hmI s h else acc) 24 0 0
section
variable {E : z_E} {G : z_H} {x : Nat} {s u : Nat → Nat} {ib : Bool} {hs : Nat → Sh} {n : Nat} (lv N k : Nat)
theorem xBusiest (h : XW G x s ib u hs n) (w : WF s) (y : Int32) : z_evM E i_X_busiest lv [.ref x, .int y] N k G = some (some (.int (aBusiest s y)), N, k, G) := by
  unfold aBusiest
  cases hy : is01 y
  · simp only [zm_X_busiest, zr_X_busiest_0, zr_X_busiest_1, zr_X_busiest_4, zr_X_busiest_7, zr_X_busiest_8, sX_is01, hy, z_obs, z_pu_s, z_pu_n, z00, z10, ↓reduceIte, true_or, or_true, z_b_t, z_b_f, Bool.false_eq_true]
  · simp only [zm_X_busiest, zr_X_busiest_0, zr_X_busiest_1, zr_X_busiest_4, zr_X_busiest_9, zr_X_busiest_10, zr_X_busiest_11, zr_X_busiest_12, zr_X_busiest_13, zr_X_busiest_14, sX_is01, hy, z_obs, z_pu_s, z_pu_n, z00, z10, ↓reduceIte, true_or, or_true, z_b_t, z_b_f]
    refine z_loopP (fun i (acc : Nat × Nat) (jk : Option Value) => z_ev E i_X_busiest lv 16 [some (.ref x), some (.int y), some (.int (nI acc.1)), some (.int (nI acc.2)), some (.int (nI i)), jk] [] N k G) (bzF s) (fun i acc => acc.2 ≤ 6) 24 (fun acc => some (some (.int (if y = 0 then nI acc.1 else nI acc.2)), N, k, G)) ?_ ?_ 24 0 (0, 0) none (by omega) (Nat.zero_le _) |>.trans ?_
    · intro acc jk _
      have c : nI 24 ≤ nI 24 := nI_le (Nat.le_refl _) (by omega)
      by_cases h0 : y = 0
      · simp only [zr_X_busiest_0, zr_X_busiest_1, zr_X_busiest_4, zr_X_busiest_7, zr_X_busiest_8, zr_X_busiest_9, zr_X_busiest_10, zr_X_busiest_11, zr_X_busiest_12, zr_X_busiest_13, zr_X_busiest_14, zr_X_busiest_16, zr_X_busiest_18, zr_X_busiest_20, zr_X_busiest_23, zr_X_busiest_24, zr_X_busiest_27, zr_X_busiest_29, zr_X_busiest_32, zr_X_busiest_35, zr_X_busiest_37, zr_X_busiest_39, zr_X_busiest_40, zr_X_busiest_43, zr_X_busiest_45, zr_X_busiest_46, zr_X_busiest_48, zr_X_busiest_49, zr_X_busiest_52, zr_X_busiest_55, zr_X_busiest_56, zr_X_busiest_59, zr_X_busiest_60, zr_X_busiest_63, zr_X_busiest_64, int_24, c, z_obs, z_pu_s, z_pu_n, z00, z10, ↓reduceIte, true_or, or_true, z_b_t, z_b_f, h0]
      · simp only [zr_X_busiest_0, zr_X_busiest_1, zr_X_busiest_4, zr_X_busiest_7, zr_X_busiest_8, zr_X_busiest_9, zr_X_busiest_10, zr_X_busiest_11, zr_X_busiest_12, zr_X_busiest_13, zr_X_busiest_14, zr_X_busiest_16, zr_X_busiest_18, zr_X_busiest_20, zr_X_busiest_23, zr_X_busiest_24, zr_X_busiest_27, zr_X_busiest_29, zr_X_busiest_32, zr_X_busiest_35, zr_X_busiest_37, zr_X_busiest_39, zr_X_busiest_40, zr_X_busiest_43, zr_X_busiest_45, zr_X_busiest_46, zr_X_busiest_48, zr_X_busiest_49, zr_X_busiest_52, zr_X_busiest_55, zr_X_busiest_56, zr_X_busiest_59, zr_X_busiest_60, zr_X_busiest_63, zr_X_busiest_64, int_24, c, z_obs, z_pu_s, z_pu_n, z00, z10, ↓reduceIte, true_or, or_true, z_b_t, z_b_f, h0]
    · intro i acc jk hi hP
      have c : ¬ nI 24 ≤ nI i := nI_ge hi (by omega)
      obtain ⟨v, v1, v2, v3, v4⟩ := hmI_num w i
      have hle := pcn_le w i
      unfold bzF
      by_cases hlt : acc.2 < pcn s i
      · have q : ¬ nI (pcn s i) ≤ nI acc.2 := nI_ge hlt (by omega)
        simp only [hlt, ↓reduceIte]
        refine ⟨hle, some (.int (nI (pcn s i))), ?_⟩
        rw [zr_X_busiest_16]
        rw [v3] at q ⊢
        simp only [zr_X_busiest_0, zr_X_busiest_1, zr_X_busiest_4, zr_X_busiest_7, zr_X_busiest_8, zr_X_busiest_9, zr_X_busiest_10, zr_X_busiest_11, zr_X_busiest_12, zr_X_busiest_13, zr_X_busiest_14, zr_X_busiest_18, zr_X_busiest_20, zr_X_busiest_23, zr_X_busiest_24, zr_X_busiest_27, zr_X_busiest_29, zr_X_busiest_32, zr_X_busiest_35, zr_X_busiest_37, zr_X_busiest_39, zr_X_busiest_40, zr_X_busiest_43, zr_X_busiest_45, zr_X_busiest_46, zr_X_busiest_48, zr_X_busiest_49, zr_X_busiest_52, zr_X_busiest_55, zr_X_busiest_56, zr_X_busiest_59, zr_X_busiest_60, zr_X_busiest_63, zr_X_busiest_64, int_24, c, h.f0, h.now.cls, sM_homeAt _ _ _ h.now w hi, v2, sJ_bitCount _ _ _ v1, q, z_obs, z_pu_s, z_pu_n, z00, z10, ↓reduceIte, true_or, or_true, z_b_t, z_b_f, nI_1]
      · have q : nI (pcn s i) ≤ nI acc.2 := nI_le (by omega) (by omega)
        simp only [hlt, ↓reduceIte]
        refine ⟨hP, some (.int (nI (pcn s i))), ?_⟩
        rw [zr_X_busiest_16]
        rw [v3] at q ⊢
        simp only [zr_X_busiest_0, zr_X_busiest_1, zr_X_busiest_4, zr_X_busiest_7, zr_X_busiest_8, zr_X_busiest_9, zr_X_busiest_10, zr_X_busiest_11, zr_X_busiest_12, zr_X_busiest_13, zr_X_busiest_14, zr_X_busiest_18, zr_X_busiest_20, zr_X_busiest_23, zr_X_busiest_24, zr_X_busiest_27, zr_X_busiest_29, zr_X_busiest_32, zr_X_busiest_35, zr_X_busiest_37, zr_X_busiest_39, zr_X_busiest_40, zr_X_busiest_43, zr_X_busiest_45, zr_X_busiest_46, zr_X_busiest_48, zr_X_busiest_49, zr_X_busiest_52, zr_X_busiest_55, zr_X_busiest_56, zr_X_busiest_59, zr_X_busiest_60, zr_X_busiest_63, zr_X_busiest_64, int_24, c, h.f0, h.now.cls, sM_homeAt _ _ _ h.now w hi, v2, sJ_bitCount _ _ _ v1, q, z_obs, z_pu_s, z_pu_n, z00, z10, ↓reduceIte, true_or, or_true, z_b_t, z_b_f, nI_1]
    · by_cases h0 : y = 0 <;> simp [h0]
theorem xAlone (h : XW G x s ib u hs n) (w : WF s) : z_evM E i_X_alone lv [.ref x] N k G = some (some (.int (aAlone s)), N, k, G) := by
  unfold aAlone
  simp only [zm_X_alone, zr_X_alone_0, zr_X_alone_1, zr_X_alone_2, zr_X_alone_3]
  refine z_loopJ (fun i (acc : Int32) (jk : Option Value) => z_ev E i_X_alone lv 4 [some (.ref x), some (.int acc), some (.int (nI i)), jk] [] N k G) (fun h acc => if pcn s h = 1 then acc ||| hmI s h else acc) 24 (fun acc => some (some (.int acc), N, k, G)) ?_ ?_ 24 0 0 none (by omega)
  · intro acc jk
    have c : nI 24 ≤ nI 24 := nI_le (Nat.le_refl _) (by omega)
    simp only [zr_X_alone_0, zr_X_alone_1, zr_X_alone_2, zr_X_alone_3, zr_X_alone_4, zr_X_alone_5, zr_X_alone_7, zr_X_alone_10, zr_X_alone_11, zr_X_alone_14, zr_X_alone_15, zr_X_alone_18, zr_X_alone_19, zr_X_alone_20, zr_X_alone_23, zr_X_alone_24, zr_X_alone_27, zr_X_alone_28, zr_X_alone_29, zr_X_alone_30, zr_X_alone_31, zr_X_alone_34, zr_X_alone_37, zr_X_alone_38, int_24, c, z_obs, z_pu_s, z_pu_n, z00, z10, ↓reduceIte, true_or, or_true, z_b_t, z_b_f]
  · intro i acc jk hi
    have c : ¬ nI 24 ≤ nI i := nI_ge hi (by omega)
    obtain ⟨v, v1, v2, v3, v4⟩ := hmI_num w i
    have hle := pop_le v
    refine ⟨some (.int (hmI s i)), ?_⟩
    rw [zr_X_alone_4]
    by_cases h1 : pop v = 1
    · have q : (nI 1 = (1 : Int32)) = True := eq_true rfl
      simp only [zr_X_alone_0, zr_X_alone_1, zr_X_alone_2, zr_X_alone_3, zr_X_alone_5, zr_X_alone_7, zr_X_alone_10, zr_X_alone_11, zr_X_alone_14, zr_X_alone_15, zr_X_alone_18, zr_X_alone_19, zr_X_alone_20, zr_X_alone_23, zr_X_alone_24, zr_X_alone_27, zr_X_alone_28, zr_X_alone_29, zr_X_alone_30, zr_X_alone_31, zr_X_alone_34, zr_X_alone_37, zr_X_alone_38, int_24, c, h.f0, h.now.cls, sM_homeAt _ _ _ h.now w hi, v2, sJ_bitCount _ _ _ v1, q, v3, h1, z_obs, z_pu_s, z_pu_n, z00, z10, ↓reduceIte, true_or, or_true, z_b_t, z_b_f, nI_1]
    · have q : ¬ nI (pop v) = 1 := fun z => h1 ((nI_eq (b := 1) (by omega) (by omega)).mp z)
      simp only [zr_X_alone_0, zr_X_alone_1, zr_X_alone_2, zr_X_alone_3, zr_X_alone_5, zr_X_alone_7, zr_X_alone_10, zr_X_alone_11, zr_X_alone_14, zr_X_alone_15, zr_X_alone_18, zr_X_alone_19, zr_X_alone_20, zr_X_alone_23, zr_X_alone_24, zr_X_alone_27, zr_X_alone_28, zr_X_alone_29, zr_X_alone_30, zr_X_alone_31, zr_X_alone_34, zr_X_alone_37, zr_X_alone_38, int_24, c, h.f0, h.now.cls, sM_homeAt _ _ _ h.now w hi, v2, sJ_bitCount _ _ _ v1, q, v3, h1, z_obs, z_pu_s, z_pu_n, z00, z10, ↓reduceIte, true_or, or_true, z_b_t, z_b_f, nI_1]
end
/-! rows -/
def lstI (so : Nat) : Int32 := if so = 0 then -128 else if so = 1 then -32768 else -2147483648
def rAt (sz : Nat) (el : Nat → Int32) (y : Int32) : Int32 := if inR y sz = true then el (jN y) else 0
def haB (sz : Nat) (i n : Int32) : Bool := decide (0 ≤ i) && decide (0 ≤ n) && decide (n ≤ nI sz - i)
section
variable {E : z_E} {G : z_H} {r so sz : Nat} {el : Nat → Int32} (lv N k : Nat)
theorem RA.cls (h : RA G r so sz el) : z_clsOf G r = some 9 := z_clsI h.1
theorem RA.f0 (h : RA G r so sz el) (t f : Nat) : z_gf G r [0, 9, 9, t, f] = some (.int (nI so)) := z_gfI h.1 (by decide) (by decide) rfl
theorem RA.f1 (h : RA G r so sz el) (t f : Nat) : z_gf G r [1, 9, 9, t, f] = some (.ref (r + 1)) := z_gfI h.1 (by decide) (by decide) rfl
theorem RA.ln (h : RA G r so sz el) : z_an E G (r + 1) = some (nI sz) := by obtain ⟨g, h1, h2⟩ := h.2; exact z_anI h1
theorem RA.rd (h : RA G r so sz el) (hz : sz ≤ 100) {j : Nat} (hj : j < sz) : z_ai E G (r + 1) (nI j) = some (el j) := by obtain ⟨g, h1, h2⟩ := h.2; rw [z_aiI h1 hj (by omega), h2 j hj]
theorem sR_length (h : RA G r so sz el) : z_evM E i_R_length lv [.ref r] N k G = some (some (.int (nI sz)), N, k, G) := by
  simp only [zm_R_length, zr_R_length_0, zr_R_length_1, zr_R_length_4, zr_R_length_5, h.f1, h.ln, z_obs, z_pu_s, z_pu_n, z00, z10, ↓reduceIte, true_or, or_true, z_b_t, z_b_f]
theorem sR_has (h : RA G r so sz el) (y : Int32) : z_evM E i_R_has lv [.ref r, .int y] N k G = some (some (.int (z_b (inR y sz))), N, k, G) := by
  simp only [zm_R_has, zr_R_has_0, zr_R_has_1, zr_R_has_4, zr_R_has_5, zr_R_has_6, zr_R_has_9, zr_R_has_10, zr_R_has_13, zr_R_has_14, zr_R_has_17, zr_R_has_18, h.f1, h.ln, z_obs, z00, z10, true_or, or_true]
  rw [z_tt rfl]
  cases inR y sz <;> simp [z_b]
theorem sR_at (h : RA G r so sz el) (hz : sz ≤ 100) (y : Int32) : z_evM E i_R_at lv [.ref r, .int y] N k G = some (some (.int (rAt sz el y)), N, k, G) := by
  unfold rAt
  cases hy : inR y sz
  · simp only [zm_R_at, zr_R_at_0, zr_R_at_1, zr_R_at_2, zr_R_at_5, zr_R_at_8, zr_R_at_9, zr_R_at_12, zr_R_at_13, zr_R_at_14, zr_R_at_17, zr_R_at_18, h.cls, sR_has _ _ _ h, hy, z_obs, z_pu_s, z_pu_n, z00, z10, ↓reduceIte, true_or, or_true, z_b_t, z_b_f, Bool.false_eq_true]
  · obtain ⟨j, hj, rfl⟩ := inR_of (by omega) hy
    rw [jN_nI (by omega)]
    simp only [zm_R_at, zr_R_at_0, zr_R_at_1, zr_R_at_2, zr_R_at_5, zr_R_at_8, zr_R_at_9, zr_R_at_12, zr_R_at_13, zr_R_at_14, zr_R_at_17, zr_R_at_18, h.cls, sR_has _ _ _ h, hy, h.f1, h.rd hz hj, z_obs, z_pu_s, z_pu_n, z00, z10, ↓reduceIte, true_or, or_true, z_b_t, z_b_f]
theorem sR_least (h : RA G r so sz el) (hso : so < 3) : z_evM E i_R_least lv [.ref r] N k G = some (some (.int (lstI so)), N, k, G) := by
  have : so = 0 ∨ so = 1 ∨ so = 2 := by omega
  rcases this with rfl | rfl | rfl
  · simp only [zm_R_least, zr_R_least_0, zr_R_least_1, zr_R_least_4, zr_R_least_32, zr_R_least_34, zr_R_least_35, zr_R_least_38, zr_R_least_39, zr_R_least_41, h.f0, z_obs, z_pu_s, z_pu_n, z00, z10, ↓reduceIte, true_or, or_true, z_b_t, z_b_f, show nI 0 = 0 from rfl]; rfl
  · simp only [zm_R_least, zr_R_least_0, zr_R_least_1, zr_R_least_4, zr_R_least_32, zr_R_least_34, zr_R_least_35, zr_R_least_38, zr_R_least_39, zr_R_least_41, h.f0, z_obs, z_pu_s, z_pu_n, z00, z10, ↓reduceIte, true_or, or_true, z_b_t, z_b_f, show nI 1 = 1 from rfl, show ((1 : Int32) = 1) = True by simp]; rfl
  · simp only [zm_R_least, zr_R_least_0, zr_R_least_1, zr_R_least_4, zr_R_least_32, zr_R_least_34, zr_R_least_35, zr_R_least_38, zr_R_least_39, zr_R_least_41, h.f0, z_obs, z_pu_s, z_pu_n, z00, z10, ↓reduceIte, true_or, or_true, z_b_t, z_b_f, show ¬ nI 2 = 0 by decide, show ¬ nI 2 = 1 by decide]; rfl
theorem sR_hasAll (h : RA G r so sz el) (i j : Int32) : z_evM E i_R_hasAll lv [.ref r, .int i, .int j] N k G = some (some (.int (z_b (haB sz i j))), N, k, G) := by
  simp only [zm_R_hasAll, zr_R_hasAll_0, zr_R_hasAll_1, zr_R_hasAll_4, zr_R_hasAll_5, zr_R_hasAll_8, zr_R_hasAll_9, zr_R_hasAll_10, zr_R_hasAll_13, zr_R_hasAll_14, zr_R_hasAll_15, zr_R_hasAll_16, zr_R_hasAll_19, zr_R_hasAll_20, zr_R_hasAll_23, zr_R_hasAll_24, h.f1, h.ln, z_obs, z00, z10, true_or, or_true]
  unfold haB
  by_cases h1 : i < 0
  · have : ¬ 0 ≤ i := Int32.not_le.mpr h1
    simp [h1, this, z_b]
  · have h1' : 0 ≤ i := Int32.not_lt.mp h1
    by_cases h2 : j < 0
    · have : ¬ 0 ≤ j := Int32.not_le.mpr h2
      simp [h1, h2, this, z_b]
    · have h2' : 0 ≤ j := Int32.not_lt.mp h2
      by_cases h3 : nI sz - i < j
      · have : ¬ j ≤ nI sz - i := Int32.not_le.mpr h3
        simp [h1, h2, h3, this, z_b]
      · have : j ≤ nI sz - i := Int32.not_lt.mp h3
        simp [h1, h1', h2, h2', h3, this, z_b]
end
/-! the first of so many -/
def fnd (p : Nat → Bool) : Nat → Nat → Option Nat
  | 0, _ => none
  | m + 1, i => if p i = true then some i else fnd p m (i + 1)
/-- a search's loop -/
theorem z_find {β : Type} (V : Nat → β → Option z_R) (p : Nat → Bool) (M : Nat) (R : Option Nat → Option z_R) (hx : ∀ j, V M j = R none) (hs : ∀ i j, i < M → p i = true → V i j = R (some i)) (hn : ∀ i j, i < M → p i = false → ∃ j', V i j = V (i + 1) j') : ∀ m i j, i + m = M → V i j = R (fnd p m i) := by
  intro m
  induction m with
  | zero => intro i j h; have e : i = M := by omega
            subst e; exact hx j
  | succ m ih =>
    intro i j h
    unfold fnd
    cases hp : p i
    · obtain ⟨j', e⟩ := hn i j (by omega) hp
      rw [e]; simp only [Bool.false_eq_true, ↓reduceIte]; exact ih (i + 1) j' (by omega)
    · rw [hs i j (by omega) hp]; simp only [↓reduceIte]
def jgP (s : Nat → Nat) (so : Nat) (el : Nat → Int32) (i : Nat) : Bool := decide (el i ≠ lstI so) && decide (el i ≠ nI (pcn s ((s 1 + i) % 24)))
def aJudge (s : Nat → Nat) (hs : Nat → Sh) (d : Int32) : Int32 := if lkR hs d ≠ 0 then lkR hs d else match hs (jN d) with
  | .inr (.inr (so, sz, el)) => oI (fnd (jgP s so el) sz 0)
  | _ => -1
section
variable {E : z_E} {G : z_H} {x : Nat} {s u : Nat → Nat} {ib : Bool} {hs : Nat → Sh} {n : Nat} (lv N k : Nat)
theorem xJudge (h : XW G x s ib u hs n) (w : WF s) (d : Int32) : z_evM E i_X_judge lv [.ref x, .int d] N k G = some (some (.int (aJudge s hs d)), N, k, G) := by
  unfold aJudge
  by_cases hl : lkR hs d ≠ 0
  · rw [if_pos hl]
    simp only [zm_X_judge, zr_X_judge_0, zr_X_judge_1, zr_X_judge_2, zr_X_judge_5, zr_X_judge_5n, zr_X_judge_6, zr_X_judge_6n, zr_X_judge_7, zr_X_judge_7n, zr_X_judge_10, zr_X_judge_11, zr_X_judge_12, zr_X_judge_15, zr_X_judge_16, zr_X_judge_16n, zr_X_judge_17, zr_X_judge_20, zr_X_judge_21, zr_X_judge_22, zr_X_judge_24, zr_X_judge_26, zr_X_judge_26n, zr_X_judge_27, zr_X_judge_30, zr_X_judge_33, zr_X_judge_33n, zr_X_judge_34, zr_X_judge_36, zr_X_judge_39, zr_X_judge_41, zr_X_judge_42, zr_X_judge_45, zr_X_judge_46, zr_X_judge_49, zr_X_judge_52, zr_X_judge_54, zr_X_judge_55, zr_X_judge_57, zr_X_judge_58, zr_X_judge_61, zr_X_judge_64, zr_X_judge_66, zr_X_judge_68, zr_X_judge_69, zr_X_judge_72, zr_X_judge_74, zr_X_judge_76, zr_X_judge_79, zr_X_judge_81, zr_X_judge_82, zr_X_judge_85, zr_X_judge_88, zr_X_judge_90, h.cls, rowOn_lk _ _ _ h hl, sX_lackOfRow _ _ _ h hl, z_obs, z_pu_s, z_pu_n, z00, z10, ↓reduceIte, true_or, or_true, z_b_t, z_b_f]
  · rw [if_neg hl]
    obtain ⟨d, so, sz, el, hd, rfl, e⟩ := lkR_ro hl
    obtain ⟨r, r1, r2, r3, r4, r5, r6⟩ := sX_rowOn_ro (E := E) h hd e
    rw [jN_nI (by omega), e]
    have w1 := w.2.1
    have c24 : ¬ nI 24 = 0 := nI_ne0 (by omega) (by omega)
    have cl := r2.cls
    rw [zm_X_judge, zr_X_judge_0, zr_X_judge_1, zr_X_judge_2 (hc := h.cls), r1]
    simp only [z_obs, z_pu_s]
    simp only [zr_X_judge_5, zr_X_judge_6, zr_X_judge_7, zr_X_judge_16, zr_X_judge_17, cl, sR_least _ _ _ r2 r5, z_obs, z_pu_s, z_pu_n, z00, z10, ↓reduceIte, true_or, or_true, z_b_t, z_b_f, zr_X_judge_20, zr_X_judge_21, zr_X_judge_22]
    refine z_find (fun i (jk : Option Value × Option Value) => z_ev E i_X_judge lv 24 [some (.ref x), some (.int (nI d)), some (.ref r), some (.int (lstI so)), some (.int (nI i)), jk.1, jk.2] [] N k G) (jgP s so el) sz (fun o => some (some (.int (oI o)), N, k, G)) ?_ ?_ ?_ sz 0 (none, none) (by omega)
    · intro jk
      have c : nI sz ≤ nI sz := nI_le (Nat.le_refl _) (by omega)
      simp only [zr_X_judge_0, zr_X_judge_1, zr_X_judge_2, zr_X_judge_5, zr_X_judge_5n, zr_X_judge_6, zr_X_judge_6n, zr_X_judge_7, zr_X_judge_7n, zr_X_judge_10, zr_X_judge_11, zr_X_judge_12, zr_X_judge_15, zr_X_judge_16, zr_X_judge_16n, zr_X_judge_17, zr_X_judge_20, zr_X_judge_21, zr_X_judge_22, zr_X_judge_24, zr_X_judge_26, zr_X_judge_26n, zr_X_judge_27, zr_X_judge_30, zr_X_judge_33, zr_X_judge_33n, zr_X_judge_34, zr_X_judge_36, zr_X_judge_39, zr_X_judge_41, zr_X_judge_42, zr_X_judge_45, zr_X_judge_46, zr_X_judge_49, zr_X_judge_52, zr_X_judge_54, zr_X_judge_55, zr_X_judge_57, zr_X_judge_58, zr_X_judge_61, zr_X_judge_64, zr_X_judge_66, zr_X_judge_68, zr_X_judge_69, zr_X_judge_72, zr_X_judge_74, zr_X_judge_76, zr_X_judge_79, zr_X_judge_81, zr_X_judge_82, zr_X_judge_85, zr_X_judge_88, zr_X_judge_90, cl, sR_length _ _ _ r2, c, z_obs, z_pu_s, z_pu_n, z00, z10, ↓reduceIte, true_or, or_true, z_b_t, z_b_f]
      rfl
    · intro i jk hi hp
      have c : ¬ nI sz ≤ nI i := nI_ge hi (by omega)
      have hlt : (s 1 + i) % 24 < 24 := Nat.mod_lt _ (by omega)
      obtain ⟨v, v1, v2, v3, v4⟩ := hmI_num w ((s 1 + i) % 24)
      unfold jgP at hp
      simp only [ne_eq, Bool.and_eq_true, decide_eq_true_eq, v3] at hp
      rw [zr_X_judge_24]
      simp only [zr_X_judge_0, zr_X_judge_1, zr_X_judge_2, zr_X_judge_5, zr_X_judge_5n, zr_X_judge_6, zr_X_judge_6n, zr_X_judge_7, zr_X_judge_7n, zr_X_judge_10, zr_X_judge_11, zr_X_judge_12, zr_X_judge_15, zr_X_judge_16, zr_X_judge_16n, zr_X_judge_17, zr_X_judge_20, zr_X_judge_21, zr_X_judge_22, zr_X_judge_26, zr_X_judge_26n, zr_X_judge_27, zr_X_judge_30, zr_X_judge_33, zr_X_judge_33n, zr_X_judge_34, zr_X_judge_36, zr_X_judge_39, zr_X_judge_41, zr_X_judge_42, zr_X_judge_45, zr_X_judge_46, zr_X_judge_49, zr_X_judge_52, zr_X_judge_54, zr_X_judge_55, zr_X_judge_57, zr_X_judge_58, zr_X_judge_61, zr_X_judge_64, zr_X_judge_66, zr_X_judge_68, zr_X_judge_69, zr_X_judge_72, zr_X_judge_74, zr_X_judge_76, zr_X_judge_79, zr_X_judge_81, zr_X_judge_82, zr_X_judge_85, zr_X_judge_88, zr_X_judge_90, cl, h.f0, h.now.cls, h.now.f9, sR_length _ _ _ r2, c, sR_at _ _ _ r2 r6, rAt, inR_nI (show sz < 2 ^ 31 by omega) hi, jN_nI (show i < 2 ^ 31 by omega), nI_add, int_24, c24, not_false_eq_true, pk_div (show s 1 + i < 2 ^ 31 by omega) (show 0 < 24 by omega) (show 24 < 2 ^ 31 by omega), z_rem2 (show s 1 + i < 2 ^ 31 by omega) (show 0 < 24 by omega) (show 24 < 2 ^ 31 by omega), sM_homeAt _ _ _ h.now w hlt, v2, sJ_bitCount _ _ _ v1, hp.1, hp.2, z_obs, z_pu_s, z_pu_n, z00, z10, ↓reduceIte, true_or, or_true, z_b_t, z_b_f, oI]
    · intro i jk hi hp
      have c : ¬ nI sz ≤ nI i := nI_ge hi (by omega)
      have hlt : (s 1 + i) % 24 < 24 := Nat.mod_lt _ (by omega)
      obtain ⟨v, v1, v2, v3, v4⟩ := hmI_num w ((s 1 + i) % 24)
      unfold jgP at hp
      refine ⟨(some (.int (el i)), some (.int (nI (pop v)))), ?_⟩
      rw [zr_X_judge_24]
      by_cases q1 : el i = lstI so
      · simp only [zr_X_judge_0, zr_X_judge_1, zr_X_judge_2, zr_X_judge_5, zr_X_judge_5n, zr_X_judge_6, zr_X_judge_6n, zr_X_judge_7, zr_X_judge_7n, zr_X_judge_10, zr_X_judge_11, zr_X_judge_12, zr_X_judge_15, zr_X_judge_16, zr_X_judge_16n, zr_X_judge_17, zr_X_judge_20, zr_X_judge_21, zr_X_judge_22, zr_X_judge_26, zr_X_judge_26n, zr_X_judge_27, zr_X_judge_30, zr_X_judge_33, zr_X_judge_33n, zr_X_judge_34, zr_X_judge_36, zr_X_judge_39, zr_X_judge_41, zr_X_judge_42, zr_X_judge_45, zr_X_judge_46, zr_X_judge_49, zr_X_judge_52, zr_X_judge_54, zr_X_judge_55, zr_X_judge_57, zr_X_judge_58, zr_X_judge_61, zr_X_judge_64, zr_X_judge_66, zr_X_judge_68, zr_X_judge_69, zr_X_judge_72, zr_X_judge_74, zr_X_judge_76, zr_X_judge_79, zr_X_judge_81, zr_X_judge_82, zr_X_judge_85, zr_X_judge_88, zr_X_judge_90, cl, h.f0, h.now.cls, h.now.f9, sR_length _ _ _ r2, c, sR_at _ _ _ r2 r6, rAt, inR_nI (show sz < 2 ^ 31 by omega) hi, jN_nI (show i < 2 ^ 31 by omega), nI_add, int_24, c24, not_false_eq_true, pk_div (show s 1 + i < 2 ^ 31 by omega) (show 0 < 24 by omega) (show 24 < 2 ^ 31 by omega), z_rem2 (show s 1 + i < 2 ^ 31 by omega) (show 0 < 24 by omega) (show 24 < 2 ^ 31 by omega), sM_homeAt _ _ _ h.now w hlt, v2, sJ_bitCount _ _ _ v1, q1, z_obs, z_pu_s, z_pu_n, z00, z10, ↓reduceIte, true_or, or_true, z_b_t, z_b_f, nI_1]
      · have q2 : el i = nI (pop v) := by simpa [q1, v3] using hp
        have q1' : ¬ nI (pop v) = lstI so := by rw [← q2]; exact q1
        simp only [zr_X_judge_0, zr_X_judge_1, zr_X_judge_2, zr_X_judge_5, zr_X_judge_5n, zr_X_judge_6, zr_X_judge_6n, zr_X_judge_7, zr_X_judge_7n, zr_X_judge_10, zr_X_judge_11, zr_X_judge_12, zr_X_judge_15, zr_X_judge_16, zr_X_judge_16n, zr_X_judge_17, zr_X_judge_20, zr_X_judge_21, zr_X_judge_22, zr_X_judge_26, zr_X_judge_26n, zr_X_judge_27, zr_X_judge_30, zr_X_judge_33, zr_X_judge_33n, zr_X_judge_34, zr_X_judge_36, zr_X_judge_39, zr_X_judge_41, zr_X_judge_42, zr_X_judge_45, zr_X_judge_46, zr_X_judge_49, zr_X_judge_52, zr_X_judge_54, zr_X_judge_55, zr_X_judge_57, zr_X_judge_58, zr_X_judge_61, zr_X_judge_64, zr_X_judge_66, zr_X_judge_68, zr_X_judge_69, zr_X_judge_72, zr_X_judge_74, zr_X_judge_76, zr_X_judge_79, zr_X_judge_81, zr_X_judge_82, zr_X_judge_85, zr_X_judge_88, zr_X_judge_90, cl, h.f0, h.now.cls, h.now.f9, sR_length _ _ _ r2, c, sR_at _ _ _ r2 r6, rAt, inR_nI (show sz < 2 ^ 31 by omega) hi, jN_nI (show i < 2 ^ 31 by omega), nI_add, int_24, c24, not_false_eq_true, pk_div (show s 1 + i < 2 ^ 31 by omega) (show 0 < 24 by omega) (show 24 < 2 ^ 31 by omega), z_rem2 (show s 1 + i < 2 ^ 31 by omega) (show 0 < 24 by omega) (show 24 < 2 ^ 31 by omega), sM_homeAt _ _ _ h.now w hlt, v2, sJ_bitCount _ _ _ v1, q1', q2, z_obs, z_pu_s, z_pu_n, z00, z10, ↓reduceIte, true_or, or_true, z_b_t, z_b_f, nI_1]
end
