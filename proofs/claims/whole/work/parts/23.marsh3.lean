/-! MARSH: rings, hours, who opens when -/
theorem z_rem2 {a d : Nat} (ha : a < 2 ^ 31) (h0 : 0 < d) (hd : d < 2 ^ 31) : nI a - nI (a / d) * nI d = nI (a % d) := by rw [← pk_div ha h0 hd, pk_rem ha h0 hd]
theorem pk_m0 (l : Nat) : nI l - 0 = nI l := by simp
theorem pk_m1' {l : Nat} (h : 1 ≤ l) : nI l - 1 = nI (l - 1) := by rw [int_1, pk_sub h]
def inR (x : Int32) (N : Nat) : Bool := decide (0 ≤ x) && decide (x < nI N)
theorem inR_of {x : Int32} {N : Nat} (hN : N < 2 ^ 31) (h : inR x N = true) : ∃ j, j < N ∧ x = nI j := by
  unfold inR at h
  simp only [Bool.and_eq_true, decide_eq_true_eq] at h
  obtain ⟨j, h1, rfl⟩ := nI_of (Int32.not_lt.mpr h.1)
  exact ⟨j, (nI_ltI h1 hN).mp h.2, rfl⟩
theorem inR_nI {j N : Nat} (hN : N < 2 ^ 31) (h : j < N) : inR (nI j) N = true := by
  unfold inR
  simp only [Bool.and_eq_true, decide_eq_true_eq]
  exact ⟨nI_pos' (by omega), (nI_ltI (by omega) hN).mpr h⟩
/-- two tests in a row: below 0, from N on -/
theorem z_tt {β : Type} {x : Int32} {N : Nat} {A : β} {f g : β} (hf : f = g) : (if x < 0 then f else if nI N ≤ x then g else A) = if inR x N = true then A else g := by
  unfold inR
  by_cases h1 : x < 0
  · have : ¬ 0 ≤ x := Int32.not_le.mpr h1
    simp [h1, this, hf]
  · have h1' : 0 ≤ x := Int32.not_lt.mp h1
    by_cases h2 : nI N ≤ x
    · have : ¬ x < nI N := Int32.not_lt.mpr h2
      simp [h1, h2, this]
    · have : x < nI N := Int32.not_le.mp h2
      simp [h1, h2, h1', this]
theorem uN_u (s : Nat → Nat) (i v w : Nat) : uN (uN s i v) i w = uN s i w := by
  funext j
  unfold uN
  by_cases h : j = i <;> simp [h]
section
variable {s : Nat → Nat}
theorem rgS_K (b c : Nat) : sK (rgS s b) c = sK s c := by unfold rgS; split <;> (try split) <;> simp only [sK] <;> (repeat rw [uN_n _ _ (by omega)])
theorem rgS_F (b c : Nat) : sF (rgS s b) c = sF s c := by unfold rgS; split <;> (try split) <;> simp only [sF] <;> (repeat rw [uN_n _ _ (by omega)])
theorem rgS_P (b c : Nat) : sP (rgS s b) c = sP s c := by unfold rgS; split <;> (try split) <;> simp only [sP] <;> (repeat rw [uN_n _ _ (by omega)])
theorem rgS_W (b c : Nat) : sW (rgS s b) c = sW s c := by unfold sW; rw [rgS_K, rgS_F]
theorem rgS_0 (b : Nat) : rgS s b 0 = s 0 := by unfold rgS; split <;> (try split) <;> (repeat rw [uN_n _ _ (by omega)])
theorem rgS_1 (b : Nat) : rgS s b 1 = s 1 := by unfold rgS; split <;> (try split) <;> (repeat rw [uN_n _ _ (by omega)])
theorem rgS_2 (b : Nat) : rgS s b 2 = s 2 := by unfold rgS; split <;> (try split) <;> (repeat rw [uN_n _ _ (by omega)])
theorem rgS_R (b c : Nat) : sR (rgS s b) c = if c = b then (if sH s b (s 1) = true then (if sW s b ≤ sR s b + 1 then 0 else sR s b + 1) else 0) else sR s c := by
  unfold rgS
  by_cases h : c = b
  · subst h
    rw [if_pos rfl]
    split
    · split
      · show uN _ _ _ (6 + 5 * c) = 0
        rw [uN_n _ _ (by omega), uN_s]
      · show uN _ _ _ (6 + 5 * c) = _
        rw [uN_s]
    · show uN _ _ _ (6 + 5 * c) = _
      rw [uN_s]
  · rw [if_neg h]
    split <;> (try split) <;> simp only [sR] <;> (repeat rw [uN_n _ _ (by omega)])
theorem rgS_O (b c : Nat) : sO (rgS s b) c = if c = b then (if sH s b (s 1) = true then (if sW s b ≤ sR s b + 1 then min 99 (sO s b + 1) else sO s b) else sO s b) else sO s c := by
  unfold rgS
  by_cases h : c = b
  · subst h
    rw [if_pos rfl]
    split
    · split
      · show uN _ _ _ (7 + 5 * c) = _
        rw [uN_s]
      · show uN _ _ _ (7 + 5 * c) = _
        rw [uN_n _ _ (by omega)]; rfl
    · show uN _ _ _ (7 + 5 * c) = _
      rw [uN_n _ _ (by omega)]; rfl
  · rw [if_neg h]
    split <;> (try split) <;> simp only [sO] <;> (repeat rw [uN_n _ _ (by omega)])
theorem rgS_WF (w : WF s) (b : Nat) : WF (rgS s b) := by
  refine ⟨by rw [rgS_0]; exact w.1, by rw [rgS_1]; exact w.2.1, by rw [rgS_2]; exact w.2.2.1, fun c hc => ?_⟩
  rw [rgS_0] at hc
  obtain ⟨q1, q2, q3, q4, q5⟩ := w.2.2.2 c hc
  have q6 := (wt_le _ q1 _ q2).2.1
  have q6' : sW s c ≤ 10 := q6
  rw [rgS_K, rgS_F, rgS_P, rgS_R, rgS_O]
  refine ⟨q1, q2, q3, ?_, ?_⟩
  · split
    · next e =>
      subst e
      split
      · split <;> omega
      · omega
    · exact q4
  · split
    · next e =>
      subst e
      split
      · split <;> omega
      · exact q5
    · exact q5
theorem rgS_WS (w : WF s) (ws : WS s) (b : Nat) : WS (rgS s b) := by
  intro c hc
  rw [rgS_0] at hc
  obtain ⟨q1, q2, q3, q4, q5⟩ := w.2.2.2 c hc
  have q6 : 1 ≤ sW s c := (wt_le _ q1 _ q2).1
  rw [rgS_W, rgS_R]
  split
  · next e =>
    subst e
    split
    · split <;> omega
    · omega
  · exact ws c hc
theorem hrS_0 : hrS s 0 = s 0 := by unfold hrS; split <;> (repeat rw [uN_n _ _ (by omega)])
theorem hrS_1 : hrS s 1 = if s 1 + 1 < 24 then s 1 + 1 else 0 := by unfold hrS; split <;> simp only [uN] <;> simp
theorem hrS_2 : hrS s 2 = if s 1 + 1 < 24 then s 2 else s 2 + 1 := by unfold hrS; split <;> simp only [uN] <;> simp
theorem hrS_ge {i : Nat} (h : 3 ≤ i) : hrS s i = s i := by unfold hrS; split <;> (repeat rw [uN_n _ _ (by omega)])
theorem hrS_WF (w : WF s) : WF (hrS s) := by
  have w1 := w.2.1
  refine ⟨by rw [hrS_0]; exact w.1, by rw [hrS_1]; split <;> omega, Nat.zero_le _, fun c hc => ?_⟩
  rw [hrS_0] at hc
  have := w.2.2.2 c hc
  unfold sW sK sF sP sR sO at *
  rw [hrS_ge (by omega), hrS_ge (by omega), hrS_ge (by omega), hrS_ge (by omega), hrS_ge (by omega)]
  exact this
end
theorem hrS_WS {s : Nat → Nat} (ws : WS s) : WS (hrS s) := by
  intro c hc
  rw [hrS_0] at hc
  have := ws c hc
  unfold sW sK sF sR at *
  rw [hrS_ge (by omega), hrS_ge (by omega), hrS_ge (by omega)]
  exact this
/-- behind how many hours it opens first, of so many, so many rings lacking -/
def opn (p : Nat → Bool) : Nat → Nat → Nat → Option Nat
  | 0, _, _ => none
  | m + 1, i, l => if (if p i = true then l - 1 else l) = 0 then some i else opn p m (i + 1) (if p i = true then l - 1 else l)
def oI (o : Option Nat) : Int32 := match o with
  | some i => nI i
  | none => -4
def rto (p : Nat → Bool) (W : Nat) : Nat → Nat → Nat → Option Nat
  | 0, _, _ => none
  | m + 1, i, r => if W ≤ (if p i = true then r + 1 else 0) then some (i + 1) else rto p W m (i + 1) (if p i = true then r + 1 else 0)
def sumI (s : Nat → Nat) (g : Nat → Nat) : Int32 := foldN (fun b acc => acc + nI (g b)) (s 0) 0 0
/-- so many hours go by -/
def psS (s : Nat → Nat) (m : Nat) : Nat → Nat := uN (uN s 1 ((s 1 + m) % 24)) 2 (s 2 + (s 1 + m) / 24)
section
variable {E : z_E} {G : z_H} {a : Nat} {s : Nat → Nat} (lv n k : Nat)
theorem sX_isPlace (x : Int32) : z_evM E i_X_isPlace lv [.int x] n k G = some (some (.int (z_b (inR x 31))), n, k, G) := by
  simp only [zm_X_isPlace, zr_X_isPlace_0, zr_X_isPlace_1, zr_X_isPlace_4, zr_X_isPlace_5, zr_X_isPlace_7, zr_X_isPlace_10, zr_X_isPlace_11, zr_X_isPlace_14, zr_X_isPlace_15, z00, z10, true_or, or_true]
  rw [int_31, z_tt rfl]
  cases inR x 31 <;> simp [z_b]
theorem sM_hear (h : MA G a s) (w : WF s) {j : Nat} (hj : j < s 0) : ∃ G', z_evM E i_M_hear lv [.ref a, .int (nI j)] n k G = some (some (.int (nI (rgH s j))), n, k, G') ∧ MA G' a (rgS s j) ∧ FR a 9 G G' := by
  have hj6 : j < 6 := Nat.lt_of_lt_of_le hj w.1
  obtain ⟨q1, q2, q3, q4, q5⟩ := w.2.2.2 j hj
  have q6 := wt_le _ q1 _ q2
  have e24 : s 1 % 24 = s 1 := Nat.mod_eq_of_lt w.2.1
  have q6a : 1 ≤ sW s j := q6.1
  have q6b : sW s j ≤ 10 := q6.2.1
  have q6c : sS s j ≤ 25 := q6.2.2
  simp only [zm_M_hear, zr_M_hear_0, zr_M_hear_1, zr_M_hear_2, h.cls, sM_has _ _ _ h, isB_nI w hj, z_obs, z_pu_s, z_b_t, zr_M_hear_5, z10, ↓reduceIte]
  simp only [zr_M_hear_0, zr_M_hear_1, zr_M_hear_2, zr_M_hear_5, zr_M_hear_8, zr_M_hear_9, zr_M_hear_10, zr_M_hear_11, zr_M_hear_12, zr_M_hear_13, zr_M_hear_16, zr_M_hear_17, zr_M_hear_20, zr_M_hear_21, zr_M_hear_22, zr_M_hear_25, zr_M_hear_26, zr_M_hear_27, zr_M_hear_30, zr_M_hear_31, zr_M_hear_34, zr_M_hear_35, zr_M_hear_36, zr_M_hear_37, zr_M_hear_38, zr_M_hear_39, zr_M_hear_40, zr_M_hear_43, zr_M_hear_44, zr_M_hear_45, zr_M_hear_48, zr_M_hear_49, zr_M_hear_50, zr_M_hear_53, zr_M_hear_54, zr_M_hear_55, zr_M_hear_58, zr_M_hear_59, zr_M_hear_62, zr_M_hear_63, zr_M_hear_64, zr_M_hear_65, zr_M_hear_66, zr_M_hear_69, zr_M_hear_70, zr_M_hear_72, zr_M_hear_73, zr_M_hear_76, zr_M_hear_77, zr_M_hear_78, zr_M_hear_79, zr_M_hear_80, zr_M_hear_83, zr_M_hear_84, zr_M_hear_85, zr_M_hear_88, zr_M_hear_89, zr_M_hear_90, zr_M_hear_92, zr_M_hear_93, zr_M_hear_94, zr_M_hear_95, zr_M_hear_98, zr_M_hear_99, zr_M_hear_100, zr_M_hear_101, zr_M_hear_102, zr_M_hear_105, zr_M_hear_106, zr_M_hear_107, zr_M_hear_108, zr_M_hear_109, zr_M_hear_110, zr_M_hear_113, zr_M_hear_114, zr_M_hear_115, zr_M_hear_116, h.cls, h.f9, h.f3, h.a4 hj6, z_obs, sM_rung1 _ _ _ h w hj w.2.1, z_pu_s]
  unfold rgH rgS sH
  rw [e24]
  cases hb : hm (sK s j) (sF s j) (s 1)
  · obtain ⟨G1, p1, p2, p3⟩ := h.w4 (v := 0) hj6
    rw [nI_0] at p1
    refine ⟨G1, ?_, by simpa using p2, p3⟩
    simp [nI_0, p1]
  · have c1 : ¬ nI (sR s j + 1) = 0 := nI_ne0 (by omega) (by omega)
    have c2 : ¬ nI (sW s j) ≤ 0 := nI_nle (by omega) (by omega)
    simp only [↓reduceIte, c1, h.f6, z_obs, h.a7 w hj, c2, nI_leI' (show sW s j < 2 ^ 31 by omega) (show sR s j + 1 < 2 ^ 31 by omega)]
    by_cases hle : sW s j ≤ sR s j + 1
    · have c4 : ¬ nI (sR s j + 1) < nI (sW s j) := nI_nlt hle (by omega)
      obtain ⟨G1, p1, p2, p3⟩ := h.w4 (v := 0) hj6
      rw [nI_0] at p1
      obtain ⟨G2, r1, r2, r3⟩ := p2.w5 (v := min 99 (sO s j + 1)) hj6
      have hO : sO (uN s (6 + 5 * j) 0) j = sO s j := uN_n _ _ (by omega)
      have hw1 : ∀ (G : z_H), MA G a (uN (uN s (6 + 5 * j) 0) (7 + 5 * j) (min 99 (sO s j + 1))) → z_ai E G (a + 8) (nI j) = some (nI (sS s j)) := by
        intro G hG
        obtain ⟨f, e, q⟩ := hG.2.2.2.2.2.2.2.2
        rw [z_aiI e hj6 (by decide), q j (by rw [uN_n _ _ (by omega), uN_n _ _ (by omega)]; exact hj)]
        unfold sS sK sF
        rw [uN_n _ _ (by omega), uN_n _ _ (by omega), uN_n _ _ (by omega), uN_n _ _ (by omega)]
      have emin : (if nI (sO s j) + 1 < 99 then nI (sO s j) + 1 else (99 : Int32)) = nI (min 99 (sO s j + 1)) := by
        rw [int_99, nI_1]
        by_cases hm9 : sO s j + 1 < 99
        · rw [if_pos ((nI_ltI (by omega) (by omega)).mpr hm9), Nat.min_eq_right (by omega)]
        · rw [if_neg (fun z => hm9 ((nI_ltI (by omega) (by omega)).mp z)), Nat.min_eq_left (by omega)]
      refine ⟨G2, ?_, by simpa [hle] using r2, p3.tr r3⟩
      simp only [zr_M_hear_0, zr_M_hear_1, zr_M_hear_2, zr_M_hear_5, zr_M_hear_8, zr_M_hear_9, zr_M_hear_10, zr_M_hear_11, zr_M_hear_12, zr_M_hear_13, zr_M_hear_16, zr_M_hear_17, zr_M_hear_20, zr_M_hear_21, zr_M_hear_22, zr_M_hear_25, zr_M_hear_26, zr_M_hear_27, zr_M_hear_30, zr_M_hear_31, zr_M_hear_34, zr_M_hear_35, zr_M_hear_36, zr_M_hear_37, zr_M_hear_38, zr_M_hear_39, zr_M_hear_40, zr_M_hear_43, zr_M_hear_44, zr_M_hear_45, zr_M_hear_48, zr_M_hear_49, zr_M_hear_50, zr_M_hear_53, zr_M_hear_54, zr_M_hear_55, zr_M_hear_58, zr_M_hear_59, zr_M_hear_62, zr_M_hear_63, zr_M_hear_64, zr_M_hear_65, zr_M_hear_66, zr_M_hear_69, zr_M_hear_70, zr_M_hear_72, zr_M_hear_73, zr_M_hear_76, zr_M_hear_77, zr_M_hear_78, zr_M_hear_79, zr_M_hear_80, zr_M_hear_83, zr_M_hear_84, zr_M_hear_85, zr_M_hear_88, zr_M_hear_89, zr_M_hear_90, zr_M_hear_92, zr_M_hear_93, zr_M_hear_94, zr_M_hear_95, zr_M_hear_98, zr_M_hear_99, zr_M_hear_100, zr_M_hear_101, zr_M_hear_102, zr_M_hear_105, zr_M_hear_106, zr_M_hear_107, zr_M_hear_108, zr_M_hear_109, zr_M_hear_110, zr_M_hear_113, zr_M_hear_114, zr_M_hear_115, zr_M_hear_116, h.cls, h.f0, h.f1, h.f2, h.f3, h.f4, h.f5, h.f6, h.f7, h.f8, h.f9, h.f10, h.a1 hj6, h.a2 hj6, h.a3 hj6, h.a4 hj6, h.a5 hj6, h.a7 w hj, c2, c4, hle, ↓reduceIte, h.f3, p1, z_obs, p2.f4, p2.a5 hj6, hO, emin, r1, r2.f7, hw1 _ r2, int_100, nI_add]
    · have c4 : nI (sR s j + 1) < nI (sW s j) := nI_lt (by omega) (by omega)
      obtain ⟨G1, p1, p2, p3⟩ := h.w4 (v := sR s j + 1) hj6
      have hw1 : ∀ (G : z_H), MA G a (uN s (6 + 5 * j) (sR s j + 1)) → z_ai E G (a + 8) (nI j) = some (nI (sS s j)) ∧ z_ai E G (a + 7) (nI j) = some (nI (sW s j)) := by
        intro G hG
        constructor
        · obtain ⟨f, e, q⟩ := hG.2.2.2.2.2.2.2.2
          rw [z_aiI e hj6 (by decide), q j (by rw [uN_n _ _ (by omega)]; exact hj)]
          unfold sS sK sF
          rw [uN_n _ _ (by omega), uN_n _ _ (by omega)]
        · obtain ⟨f, e, q⟩ := hG.2.2.2.2.2.2.2.1
          rw [z_aiI e hj6 (by decide), q j (by rw [uN_n _ _ (by omega)]; exact hj)]
          unfold sW sK sF
          rw [uN_n _ _ (by omega), uN_n _ _ (by omega)]
      have c3 : ¬ nI (sW s j) = 0 := nI_ne0 (by omega) (by omega)
      have hmul : sS s j * (sR s j + 1) < 2 ^ 31 := Nat.lt_of_le_of_lt (Nat.mul_le_mul q6c (show sR s j + 1 ≤ 10 by omega)) (by decide)
      refine ⟨G1, ?_, by simpa [hle] using p2, p3⟩
      simp only [zr_M_hear_0, zr_M_hear_1, zr_M_hear_2, zr_M_hear_5, zr_M_hear_8, zr_M_hear_9, zr_M_hear_10, zr_M_hear_11, zr_M_hear_12, zr_M_hear_13, zr_M_hear_16, zr_M_hear_17, zr_M_hear_20, zr_M_hear_21, zr_M_hear_22, zr_M_hear_25, zr_M_hear_26, zr_M_hear_27, zr_M_hear_30, zr_M_hear_31, zr_M_hear_34, zr_M_hear_35, zr_M_hear_36, zr_M_hear_37, zr_M_hear_38, zr_M_hear_39, zr_M_hear_40, zr_M_hear_43, zr_M_hear_44, zr_M_hear_45, zr_M_hear_48, zr_M_hear_49, zr_M_hear_50, zr_M_hear_53, zr_M_hear_54, zr_M_hear_55, zr_M_hear_58, zr_M_hear_59, zr_M_hear_62, zr_M_hear_63, zr_M_hear_64, zr_M_hear_65, zr_M_hear_66, zr_M_hear_69, zr_M_hear_70, zr_M_hear_72, zr_M_hear_73, zr_M_hear_76, zr_M_hear_77, zr_M_hear_78, zr_M_hear_79, zr_M_hear_80, zr_M_hear_83, zr_M_hear_84, zr_M_hear_85, zr_M_hear_88, zr_M_hear_89, zr_M_hear_90, zr_M_hear_92, zr_M_hear_93, zr_M_hear_94, zr_M_hear_95, zr_M_hear_98, zr_M_hear_99, zr_M_hear_100, zr_M_hear_101, zr_M_hear_102, zr_M_hear_105, zr_M_hear_106, zr_M_hear_107, zr_M_hear_108, zr_M_hear_109, zr_M_hear_110, zr_M_hear_113, zr_M_hear_114, zr_M_hear_115, zr_M_hear_116, h.cls, h.f0, h.f1, h.f2, h.f3, h.f4, h.f5, h.f6, h.f7, h.f8, h.f9, h.f10, h.a1 hj6, h.a2 hj6, h.a3 hj6, h.a4 hj6, h.a5 hj6, h.a7 w hj, c2, c4, hle, ↓reduceIte, p1, z_obs, p2.f7, p2.f6, (hw1 _ p2).1, (hw1 _ p2).2, pk_mul, c3, not_false_eq_true, pk_div hmul (show 0 < sW s j by omega) (show sW s j < 2 ^ 31 by omega)]
theorem sM_hear_f (h : MA G a s) {x : Int32} (hx : isB s x = false) : z_evM E i_M_hear lv [.ref a, .int x] n k G = some (some (.int (-1)), n, k, G) := by
  simp only [zm_M_hear, zr_M_hear_0, zr_M_hear_1, zr_M_hear_2, h.cls, sM_has _ _ _ h, hx, z_obs, z_pu_s, z_b_f, zr_M_hear_5, z00, ↓reduceIte, zr_M_hear_0, zr_M_hear_1, zr_M_hear_2, zr_M_hear_5, zr_M_hear_8, zr_M_hear_9, zr_M_hear_10, zr_M_hear_11, zr_M_hear_12, zr_M_hear_13, zr_M_hear_16, zr_M_hear_17, zr_M_hear_20, zr_M_hear_21, zr_M_hear_22, zr_M_hear_25, zr_M_hear_26, zr_M_hear_27, zr_M_hear_30, zr_M_hear_31, zr_M_hear_34, zr_M_hear_35, zr_M_hear_36, zr_M_hear_37, zr_M_hear_38, zr_M_hear_39, zr_M_hear_40, zr_M_hear_43, zr_M_hear_44, zr_M_hear_45, zr_M_hear_48, zr_M_hear_49, zr_M_hear_50, zr_M_hear_53, zr_M_hear_54, zr_M_hear_55, zr_M_hear_58, zr_M_hear_59, zr_M_hear_62, zr_M_hear_63, zr_M_hear_64, zr_M_hear_65, zr_M_hear_66, zr_M_hear_69, zr_M_hear_70, zr_M_hear_72, zr_M_hear_73, zr_M_hear_76, zr_M_hear_77, zr_M_hear_78, zr_M_hear_79, zr_M_hear_80, zr_M_hear_83, zr_M_hear_84, zr_M_hear_85, zr_M_hear_88, zr_M_hear_89, zr_M_hear_90, zr_M_hear_92, zr_M_hear_93, zr_M_hear_94, zr_M_hear_95, zr_M_hear_98, zr_M_hear_99, zr_M_hear_100, zr_M_hear_101, zr_M_hear_102, zr_M_hear_105, zr_M_hear_106, zr_M_hear_107, zr_M_hear_108, zr_M_hear_109, zr_M_hear_110, zr_M_hear_113, zr_M_hear_114, zr_M_hear_115, zr_M_hear_116]
theorem sM_passOne (h : MA G a s) (w : WF s) : ∃ G', z_evM E i_M_passOne lv [.ref a] n k G = some (none, n, k, G') ∧ MA G' a (hrS s) ∧ FR a 9 G G' := by
  have w1 := w.2.1
  obtain ⟨G1, p1, p2, p3⟩ := h.wh (v := s 1 + 1) false 0 rfl
  unfold hrS
  by_cases hlt : s 1 + 1 < 24
  · have c : nI (s 1 + 1) < nI 24 := nI_lt hlt (by omega)
    refine ⟨G1, ?_, by rw [if_pos hlt]; exact p2, p3⟩
    simp only [zm_M_passOne, zr_M_passOne_0, zr_M_passOne_1, zr_M_passOne_2, zr_M_passOne_5, zr_M_passOne_6, zr_M_passOne_7, zr_M_passOne_10, zr_M_passOne_11, zr_M_passOne_14, zr_M_passOne_16, zr_M_passOne_19, zr_M_passOne_20, zr_M_passOne_21, zr_M_passOne_24, zr_M_passOne_25, zr_M_passOne_26, zr_M_passOne_29, zr_M_passOne_30, zr_M_passOne_31, zr_M_passOne_34, h.f9, z_obs, nI_1, p1, p2.f9, uN_s, int_24, c, ↓reduceIte]
  · have c : ¬ nI (s 1 + 1) < nI 24 := nI_nlt (by omega) (by omega)
    obtain ⟨G2, r1, r2, r3⟩ := p2.wh (v := 0) false 0 rfl
    obtain ⟨G3, t1, t2, t3⟩ := r2.wd (v := s 2 + 1) false 0 rfl
    rw [nI_0] at r1
    have e2 : uN (uN s 1 (s 1 + 1)) 1 0 2 = s 2 := by rw [uN_n _ _ (by omega), uN_n _ _ (by omega)]
    refine ⟨G3, ?_, by rw [if_neg hlt]; rw [uN_u] at t2; exact t2, (p3.tr r3).tr t3⟩
    simp only [zm_M_passOne, zr_M_passOne_0, zr_M_passOne_1, zr_M_passOne_2, zr_M_passOne_5, zr_M_passOne_6, zr_M_passOne_7, zr_M_passOne_10, zr_M_passOne_11, zr_M_passOne_14, zr_M_passOne_16, zr_M_passOne_19, zr_M_passOne_20, zr_M_passOne_21, zr_M_passOne_24, zr_M_passOne_25, zr_M_passOne_26, zr_M_passOne_29, zr_M_passOne_30, zr_M_passOne_31, zr_M_passOne_34, h.f9, z_obs, nI_1, p1, p2.f9, uN_s, int_24, c, ↓reduceIte, r1, r2.f10, e2, t1]
theorem sM_pass (h : MA G a s) (w : WF s) (w2 : s 2 < 100000) {m : Nat} (hm : m ≤ 99) : ∃ G', z_evM E i_M_pass lv [.ref a, .int (nI m)] n k G = some (some (.int (z_b (decide (s 2 + (s 1 + m) / 24 ≤ 999)))), n, k, G') ∧ MA G' a (if s 2 + (s 1 + m) / 24 ≤ 999 then psS s m else s) ∧ FR a 9 G G' := by
  have w1 := w.2.1
  have c24 : ¬ nI 24 = 0 := nI_ne0 (by omega) (by omega)
  by_cases hle : s 2 + (s 1 + m) / 24 ≤ 999
  · have c : nI (s 2 + (s 1 + m) / 24) ≤ nI 999 := nI_le hle (by omega)
    obtain ⟨G1, p1, p2, p3⟩ := h.wh (v := (s 1 + m) % 24) false 0 rfl
    obtain ⟨G2, r1, r2, r3⟩ := p2.wd (v := s 2 + (s 1 + m) / 24) false 0 rfl
    refine ⟨G2, ?_, by rw [if_pos hle]; exact r2, p3.tr r3⟩
    simp only [zm_M_pass, zr_M_pass_0, zr_M_pass_1, zr_M_pass_4, zr_M_pass_5, zr_M_pass_6, zr_M_pass_7, zr_M_pass_8, zr_M_pass_11, zr_M_pass_12, zr_M_pass_14, zr_M_pass_15, zr_M_pass_16, zr_M_pass_17, zr_M_pass_18, zr_M_pass_21, zr_M_pass_24, zr_M_pass_25, zr_M_pass_26, zr_M_pass_27, zr_M_pass_28, zr_M_pass_30, zr_M_pass_31, zr_M_pass_34, zr_M_pass_35, zr_M_pass_36, zr_M_pass_39, zr_M_pass_40, h.f9, h.f10, z_obs, nI_add, int_24, int_999, c24, not_false_eq_true, pk_div (show s 1 + m < 2 ^ 31 by omega) (show 0 < 24 by omega) (show 24 < 2 ^ 31 by omega), z_rem2 (show s 1 + m < 2 ^ 31 by omega) (show 0 < 24 by omega) (show 24 < 2 ^ 31 by omega), c, ↓reduceIte, p1, r1, z00, z10, true_or, or_true, hle, decide_true, z_b_t]
  · have c : ¬ nI (s 2 + (s 1 + m) / 24) ≤ nI 999 := nI_ge (by omega) (by omega)
    refine ⟨G, ?_, by rw [if_neg hle]; exact h, FR.rf⟩
    simp only [zm_M_pass, zr_M_pass_0, zr_M_pass_1, zr_M_pass_4, zr_M_pass_5, zr_M_pass_6, zr_M_pass_7, zr_M_pass_8, zr_M_pass_11, zr_M_pass_12, zr_M_pass_14, zr_M_pass_15, zr_M_pass_16, zr_M_pass_17, zr_M_pass_18, zr_M_pass_21, zr_M_pass_24, zr_M_pass_25, zr_M_pass_26, zr_M_pass_27, zr_M_pass_28, zr_M_pass_30, zr_M_pass_31, zr_M_pass_34, zr_M_pass_35, zr_M_pass_36, zr_M_pass_39, zr_M_pass_40, h.f9, h.f10, z_obs, nI_add, int_24, int_999, c24, not_false_eq_true, pk_div (show s 1 + m < 2 ^ 31 by omega) (show 0 < 24 by omega) (show 24 < 2 ^ 31 by omega), c, ↓reduceIte, z00, z10, true_or, or_true, hle, decide_false, z_b_f]
theorem sM_move (h : MA G a s) (w : WF s) {j p : Nat} (hj : j < s 0) (hp : p < 31) : ∃ G', z_evM E i_M_move lv [.ref a, .int (nI j), .int (nI p)] n k G = some (some (.int (nI (sP s j))), n, k, G') ∧ MA G' a (uN s (5 + 5 * j) p) ∧ FR a 9 G G' := by
  have hj6 : j < 6 := Nat.lt_of_lt_of_le hj w.1
  obtain ⟨G1, p1, p2, p3⟩ := h.w3 (v := p) hj6
  refine ⟨G1, ?_, p2, p3⟩
  simp only [zm_M_move, zr_M_move_0, zr_M_move_1, zr_M_move_2, zr_M_move_5, zr_M_move_8, zr_M_move_9, zr_M_move_12, zr_M_move_15, zr_M_move_16, zr_M_move_17, zr_M_move_18, zr_M_move_21, zr_M_move_22, zr_M_move_23, zr_M_move_24, zr_M_move_25, zr_M_move_28, zr_M_move_29, zr_M_move_30, zr_M_move_31, zr_M_move_32, h.cls, sM_has _ _ _ h, isB_nI w hj, z_obs, z_pu_s, z_b_t, z10, ↓reduceIte, sX_isPlace, inR_nI (show 31 < 2 ^ 31 by omega) hp, h.f2, h.a3 hj6, p1]
theorem sM_move_f (h : MA G a s) {x y : Int32} (hx : isB s x = false ∨ inR y 31 = false) : z_evM E i_M_move lv [.ref a, .int x, .int y] n k G = some (some (.int (-1)), n, k, G) := by
  rcases hx with hx | hx
  · simp only [zm_M_move, zr_M_move_0, zr_M_move_1, zr_M_move_2, zr_M_move_5, zr_M_move_8, zr_M_move_9, zr_M_move_12, zr_M_move_15, zr_M_move_16, zr_M_move_17, zr_M_move_18, zr_M_move_21, zr_M_move_22, zr_M_move_23, zr_M_move_24, zr_M_move_25, zr_M_move_28, zr_M_move_29, zr_M_move_30, zr_M_move_31, zr_M_move_32, h.cls, sM_has _ _ _ h, hx, z_obs, z_pu_s, z_b_f, z00, ↓reduceIte]
  · cases hb : isB s x
    · simp only [zm_M_move, zr_M_move_0, zr_M_move_1, zr_M_move_2, zr_M_move_5, zr_M_move_8, zr_M_move_9, zr_M_move_12, zr_M_move_15, zr_M_move_16, zr_M_move_17, zr_M_move_18, zr_M_move_21, zr_M_move_22, zr_M_move_23, zr_M_move_24, zr_M_move_25, zr_M_move_28, zr_M_move_29, zr_M_move_30, zr_M_move_31, zr_M_move_32, h.cls, sM_has _ _ _ h, hb, z_obs, z_pu_s, z_b_f, z00, ↓reduceIte]
    · simp only [zm_M_move, zr_M_move_0, zr_M_move_1, zr_M_move_2, zr_M_move_5, zr_M_move_8, zr_M_move_9, zr_M_move_12, zr_M_move_15, zr_M_move_16, zr_M_move_17, zr_M_move_18, zr_M_move_21, zr_M_move_22, zr_M_move_23, zr_M_move_24, zr_M_move_25, zr_M_move_28, zr_M_move_29, zr_M_move_30, zr_M_move_31, zr_M_move_32, h.cls, sM_has _ _ _ h, hb, z_obs, z_pu_s, z_b_t, z10, ↓reduceIte, sX_isPlace, hx, z_b_f, z00]
end
