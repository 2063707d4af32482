/-! THE MODEL: what rang, the ring that would tell most -/
theorem exB_succ (p : Nat → Bool) (m : Nat) : exB p (m + 1) = (exB p m || p m) := by
  rw [Bool.eq_iff_iff, Bool.or_eq_true, exB_iff, exB_iff]
  constructor
  · rintro ⟨j, h1, h2⟩
    by_cases e : j = m
    · subst e; exact Or.inr h2
    · exact Or.inl ⟨j, by omega, h2⟩
  · rintro (⟨j, h1, h2⟩ | h)
    · exact ⟨j, by omega, h2⟩
    · exact ⟨m, by omega, h⟩
theorem z_b_and (x y : Bool) : z_b x &&& z_b y = z_b (x && y) := by cases x <;> cases y <;> decide
theorem z_b_nI (x : Bool) : z_b x = nI (if x = true then 1 else 0) := by cases x <;> rfl
def mxG (g : Nat → Nat) (h f : Nat) : Nat := if g f < g h then h else f
def mxF (g : Nat → Nat) (h : Nat) (acc : Nat × Nat) : Nat × Nat := if acc.2 < g h then (h, g h) else acc
theorem mx_eq (g : Nat → Nat) : foldN (mxF g) 24 0 (0, 0) = (foldN (mxG g) 23 1 0, g (foldN (mxG g) 23 1 0)) ∧ foldN (mxG g) 23 1 0 < 24 := by
  have h0 : mxF g 0 (0, 0) = (0, g 0) := by
    unfold mxF
    by_cases h : 0 < g 0
    · rw [if_pos h]
    · rw [if_neg h]; rw [show g 0 = 0 by omega]
  have := foldN_sim (f := mxF g) (g := mxG g) (R := fun j p q => p = (q, g q) ∧ q < j ∧ 1 ≤ j) 23 1 (0, g 0) 0 ⟨rfl, by omega, by omega⟩ (by
    intro j p q h1 h2 ⟨r1, r2, r3⟩
    subst r1
    unfold mxF mxG
    dsimp only
    by_cases h : g q < g j
    · rw [if_pos h, if_pos h]; exact ⟨rfl, by omega, by omega⟩
    · rw [if_neg h, if_neg h]; exact ⟨rfl, by omega, by omega⟩)
  refine ⟨?_, this.2.1⟩
  show foldN (mxF g) 23 1 (mxF g 0 (0, 0)) = _
  rw [h0]
  exact this.1
theorem tlF_mx (c : Nat → Bool) (f : Nat) : tlF c f = mxF (unl c f) := rfl
theorem uK_K (s : Nat → Nat) (j v b : Nat) : sK (uN s (3 + 5 * j) v) b = if b = j then v else sK s b := by
  by_cases h : b = j
  · subst h; rw [if_pos rfl]; exact uN_s _ _ _
  · rw [if_neg h]; exact uN_n _ _ (by omega)
theorem uF_F (s : Nat → Nat) (j v b : Nat) : sF (uN s (4 + 5 * j) v) b = if b = j then v else sF s b := by
  by_cases h : b = j
  · subst h; rw [if_pos rfl]; exact uN_s _ _ _
  · rw [if_neg h]; exact uN_n _ _ (by omega)
theorem uK_WF {s : Nat → Nat} (w : WF s) {j v : Nat} (hv : v < 8) : WF (uN s (3 + 5 * j) v) := by
  refine ⟨by rw [uN_n _ _ (by omega)]; exact w.1, by rw [uN_n _ _ (by omega)]; exact w.2.1, Nat.zero_le _, fun b hb => ?_⟩
  rw [uN_n _ _ (by omega)] at hb
  have q := w.2.2.2 b hb
  rw [uK_K]
  refine ⟨by split <;> first | exact hv | exact q.1, ?_, ?_, ?_, ?_⟩
  · rw [show sF (uN s (3 + 5 * j) v) b = sF s b from uN_n _ _ (by omega)]; exact q.2.1
  · rw [show sP (uN s (3 + 5 * j) v) b = sP s b from uN_n _ _ (by omega)]; exact q.2.2.1
  · rw [show sR (uN s (3 + 5 * j) v) b = sR s b from uN_n _ _ (by omega)]; exact q.2.2.2.1
  · rw [show sO (uN s (3 + 5 * j) v) b = sO s b from uN_n _ _ (by omega)]; exact q.2.2.2.2
theorem uF_WF {s : Nat → Nat} (w : WF s) {j v : Nat} (hv : v < 10) : WF (uN s (4 + 5 * j) v) := by
  refine ⟨by rw [uN_n _ _ (by omega)]; exact w.1, by rw [uN_n _ _ (by omega)]; exact w.2.1, Nat.zero_le _, fun b hb => ?_⟩
  rw [uN_n _ _ (by omega)] at hb
  have q := w.2.2.2 b hb
  rw [uF_F]
  refine ⟨?_, by split <;> first | exact hv | exact q.2.1, ?_, ?_, ?_⟩
  · rw [show sK (uN s (4 + 5 * j) v) b = sK s b from uN_n _ _ (by omega)]; exact q.1
  · rw [show sP (uN s (4 + 5 * j) v) b = sP s b from uN_n _ _ (by omega)]; exact q.2.2.1
  · rw [show sR (uN s (4 + 5 * j) v) b = sR s b from uN_n _ _ (by omega)]; exact q.2.2.2.1
  · rw [show sO (uN s (4 + 5 * j) v) b = sO s b from uN_n _ _ (by omega)]; exact q.2.2.2.2
section
variable {E : z_E} {G0 G : z_H} {a : Nat} {s u : Nat → Nat} {ib : Bool} {hs : Nat → Sh} (lv N k : Nat)
theorem sD_isHeard {t0 : Nat → Nat} (h : MM G0 a s ib u hs t0 G) {d so sz : Nat} {el : Nat → Int32} (hd : d < 8) (e : hs d = Sh.ro so sz el) {j : Nat} (hj : j < s 0) : ∃ G', z_evM E i_D_isHeard lv [.ref a, .int (nI d), .int (nI j)] N k G = some (some (.int (z_b (crP so el (sK t0 j) (sF t0 j) sz 0 (sR t0 j) (t0 1)))), N, k, G') ∧ DW G' a s ib u hs ∧ FR (a + 2) 1 G0 G' := by
  have key : ∀ m i t G1 (jk : Option Value × Option Value), i + m = sz → MM G0 a s ib u hs t G1 → ∃ G', z_ev E i_D_isHeard lv 2 [some (.ref a), some (.int (nI d)), some (.int (nI j)), some (.int (nI i)), jk.1, jk.2] [] N k G1 = some (some (.int (z_b (crP so el (sK t j) (sF t j) m i (sR t j) (t 1)))), N, k, G') ∧ DW G' a s ib u hs ∧ FR (a + 2) 1 G0 G' := by
    intro m
    induction m with
    | zero =>
      intro i t G1 jk hi hP
      have : i = sz := by omega
      subst this
      obtain ⟨-, -, r3, -, r5, -⟩ := hP.1.ro (E := E) hd e
      have c : nI i ≤ nI i := nI_le (Nat.le_refl _) (by omega)
      refine ⟨G1, ?_, hP.1, hP.2.1⟩
      simp only [zr_D_isHeard_2, zr_D_isHeard_3, zr_D_isHeard_4, zr_D_isHeard_7, zr_D_isHeard_8, zr_D_isHeard_9, zr_D_isHeard_71, zr_D_isHeard_72, hP.1.f18, r3, c, z_obs, z_pu_s, z_pu_n, z00, z10, ↓reduceIte, true_or, or_true, z_b_t, z_b_f]
      rfl
    | succ m ih =>
      intro i t G1 jk hi hP
      obtain ⟨-, r2, r3, r4, r5, r6⟩ := hP.1.ro (E := E) hd e
      have c : ¬ nI sz ≤ nI i := nI_ge (by omega) (by omega)
      have ht := hP.2.2.2.1.2.1
      obtain ⟨G2, a1, a2⟩ := hP.ring (E := E) N k hj
      obtain ⟨-, r2', -⟩ := a2.1.ro (E := E) hd e
      have kk := hP.2.2.2.1.2.2.2 j (by have := hP.2.2.2.2; omega)
      rw [rgH_1 ht] at a1
      unfold crP
      by_cases hbad : el i ≠ lstI so ∧ el i ≠ nI (g1H (sK t j) (sF t j) (sR t j) (t 1))
      · rw [if_pos hbad]
        refine ⟨G2, ?_, a2.1, a2.2.1⟩
        rw [zr_D_isHeard_2]
        simp only [zr_D_isHeard_3, zr_D_isHeard_4, zr_D_isHeard_7, zr_D_isHeard_8, zr_D_isHeard_9, zr_D_isHeard_12, zr_D_isHeard_13, zr_D_isHeard_16, zr_D_isHeard_18, zr_D_isHeard_19, zr_D_isHeard_20, zr_D_isHeard_21, zr_D_isHeard_22, zr_D_isHeard_23, zr_D_isHeard_25, zr_D_isHeard_26, zr_D_isHeard_29, zr_D_isHeard_30, zr_D_isHeard_33, zr_D_isHeard_35, zr_D_isHeard_37, zr_D_isHeard_38, zr_D_isHeard_41, zr_D_isHeard_42, zr_D_isHeard_43, zr_D_isHeard_46, zr_D_isHeard_49, zr_D_isHeard_51, zr_D_isHeard_53, zr_D_isHeard_56, zr_D_isHeard_57, hP.1.f18, hP.1.f19, hP.1.f1, r3, c, int_100, pk_mul, nI_add, r6 i (by omega), a1, a2.1.f17, r2', sD_leastOf _ _ _ r4, hbad.1, hbad.2, z_obs, z_pu_s, z_pu_n, z00, z10, ↓reduceIte, true_or, or_true, z_b_t, z_b_f]
      · rw [if_neg hbad]
        obtain ⟨G3, b1, b2⟩ := a2.hour (E := E) N k
        obtain ⟨G', g1, g2⟩ := ih (i + 1) _ G3 (some (.int (el i)), some (.int (nI (g1H (sK t j) (sF t j) (sR t j) (t 1))))) (by omega) b2
        have e1 : sK (hrS (rgS t j)) j = sK t j := by unfold sK; rw [hrS_ge (by omega)]; exact rgS_K j j
        have e2 : sF (hrS (rgS t j)) j = sF t j := by unfold sF; rw [hrS_ge (by omega)]; exact rgS_F j j
        have e3 : sR (hrS (rgS t j)) j = g1R (sK t j) (sF t j) (sR t j) (t 1) := by
          rw [← rgR_1 ht]
          unfold sR; rw [hrS_ge (by omega)]
        have e4 : hrS (rgS t j) 1 = (t 1 + 1) % 24 := by rw [hrS_1m (by rw [rgS_1]; exact ht), rgS_1]
        rw [e1, e2, e3, e4] at g1
        refine ⟨G', ?_, g2⟩
        rw [← g1, zr_D_isHeard_2]
        by_cases q1 : el i = lstI so
        · simp only [zr_D_isHeard_3, zr_D_isHeard_4, zr_D_isHeard_7, zr_D_isHeard_8, zr_D_isHeard_9, zr_D_isHeard_12, zr_D_isHeard_13, zr_D_isHeard_16, zr_D_isHeard_18, zr_D_isHeard_19, zr_D_isHeard_20, zr_D_isHeard_21, zr_D_isHeard_22, zr_D_isHeard_23, zr_D_isHeard_25, zr_D_isHeard_26, zr_D_isHeard_29, zr_D_isHeard_30, zr_D_isHeard_33, zr_D_isHeard_35, zr_D_isHeard_37, zr_D_isHeard_38, zr_D_isHeard_41, zr_D_isHeard_42, zr_D_isHeard_43, zr_D_isHeard_46, zr_D_isHeard_49, zr_D_isHeard_51, zr_D_isHeard_53, zr_D_isHeard_56, zr_D_isHeard_57, zr_D_isHeard_58, zr_D_isHeard_59, zr_D_isHeard_62, zr_D_isHeard_65, zr_D_isHeard_68, hP.1.f18, hP.1.f19, hP.1.f1, r3, c, int_100, pk_mul, nI_add, r6 i (by omega), a1, a2.1.f17, a2.1.f1, r2', sD_leastOf _ _ _ r4, q1, b1, z_obs, z_pu_s, z_pu_n, z00, z10, ↓reduceIte, true_or, or_true, z_b_t, z_b_f, nI_1]
        · have q2 : el i = nI (g1H (sK t j) (sF t j) (sR t j) (t 1)) := Classical.byContradiction fun z => hbad ⟨q1, z⟩
          have q1' : ¬ nI (g1H (sK t j) (sF t j) (sR t j) (t 1)) = lstI so := by rw [← q2]; exact q1
          simp only [zr_D_isHeard_3, zr_D_isHeard_4, zr_D_isHeard_7, zr_D_isHeard_8, zr_D_isHeard_9, zr_D_isHeard_12, zr_D_isHeard_13, zr_D_isHeard_16, zr_D_isHeard_18, zr_D_isHeard_19, zr_D_isHeard_20, zr_D_isHeard_21, zr_D_isHeard_22, zr_D_isHeard_23, zr_D_isHeard_25, zr_D_isHeard_26, zr_D_isHeard_29, zr_D_isHeard_30, zr_D_isHeard_33, zr_D_isHeard_35, zr_D_isHeard_37, zr_D_isHeard_38, zr_D_isHeard_41, zr_D_isHeard_42, zr_D_isHeard_43, zr_D_isHeard_46, zr_D_isHeard_49, zr_D_isHeard_51, zr_D_isHeard_53, zr_D_isHeard_56, zr_D_isHeard_57, zr_D_isHeard_58, zr_D_isHeard_59, zr_D_isHeard_62, zr_D_isHeard_65, zr_D_isHeard_68, hP.1.f18, hP.1.f19, hP.1.f1, r3, c, int_100, pk_mul, nI_add, r6 i (by omega), a1, a2.1.f17, a2.1.f1, r2', sD_leastOf _ _ _ r4, q2, q1', b1, z_obs, z_pu_s, z_pu_n, z00, z10, ↓reduceIte, true_or, or_true, z_b_t, z_b_f, nI_1]
  obtain ⟨G', g1, g2⟩ := key sz 0 t0 G (none, none) (by omega) h
  refine ⟨G', ?_, g2⟩
  simp only [zm_D_isHeard, zr_D_isHeard_0, zr_D_isHeard_1]
  exact g1
theorem sD_heardBy0 (h : DW G a s ib u hs) (w : WF s) {d so sz : Nat} {el : Nat → Int32} (hd : d < 8) (e : hs d = Sh.ro so sz el) {j : Nat} (hj : j < s 0) : ∃ G', z_evM E i_D_heardBy lv [.ref a, .int (nI d), .int (nI j), .int 0] N k G = some (some (.int (mkI (whK s so sz el j) 8)), N, k, G') ∧ DW G' a s ib u hs ∧ FR (a + 2) 1 G G' := by
  have w1 := w.1
  obtain ⟨G', _, e1, p⟩ := z_loopG (fun i (acc : Int32) (_ : Unit) G => z_ev E i_D_heardBy lv 6 [some (.ref a), some (.int (nI d)), some (.int (nI j)), some (.int 0), some (.int acc), some (.int (nI i))] [] N k G) (fun b acc => acc ||| (if whK s so sz el j b = true then (1 : Int32) <<< (nI b &&& 31) else 0)) (fun i _ G' => DW G' a s ib u hs ∧ FR (a + 2) 1 G G') 8 (fun acc _ G => some (some (.int acc), N, k, G)) (fun acc _ G1 hP => by
    have c : nI 8 ≤ nI 8 := nI_le (Nat.le_refl _) (by omega)
    simp only [zr_D_heardBy_6, zr_D_heardBy_8, zr_D_heardBy_9, zr_D_heardBy_12, zr_D_heardBy_14, zr_D_heardBy_17, zr_D_heardBy_19, zr_D_heardBy_81, zr_D_heardBy_83, int_8, c, z_obs, z_pu_s, z_pu_n, z00, z10, ↓reduceIte, true_or, or_true, z_b_t, z_b_f]) (fun i acc _ G1 hi hP => by
    have c : ¬ nI 8 ≤ nI i := nI_ge hi (by omega)
    obtain ⟨G2, g1, g2⟩ := MM.take (E := E) N k hP.1 hP.2 w
    obtain ⟨G3, q1, q2, q3⟩ := g2.2.2.1.wr (j := 3 + 5 * j) i (by omega)
    have hm : MM G a s ib u hs (uN s (3 + 5 * j) i) G3 := ⟨g2.1.nm q2.x q3, g2.2.1.tr q3, q2, uK_WF w hi, uN_n _ _ (by omega)⟩
    obtain ⟨G4, t1, t2, t3⟩ := sD_isHeard (E := E) 0 N k hm hd e hj
    have t1' : z_evM E i_D_isHeard 0 [.ref a, .int (nI d), .int (nI j)] N k G3 = some (some (.int (z_b (whK s so sz el j i))), N, k, G4) := by
      rw [t1, uK_K, if_pos rfl, show sF (uN s (3 + 5 * j) i) j = sF s j from uN_n _ _ (by omega), show sR (uN s (3 + 5 * j) i) j = sR s j from uN_n _ _ (by omega), uN_n _ _ (by omega)]
      rfl
    refine ⟨G4, (), ?_, t2, t3⟩
    rw [zr_D_heardBy_6]
    cases hb : whK s so sz el j i <;> rw [hb] at t1' <;> simp only [zr_D_heardBy_8, zr_D_heardBy_9, zr_D_heardBy_12, zr_D_heardBy_14, zr_D_heardBy_17, zr_D_heardBy_19, zr_D_heardBy_22, zr_D_heardBy_23, zr_D_heardBy_26, zr_D_heardBy_27, zr_D_heardBy_30, zr_D_heardBy_33, zr_D_heardBy_34, zr_D_heardBy_37, zr_D_heardBy_38, zr_D_heardBy_39, zr_D_heardBy_42, zr_D_heardBy_43, zr_D_heardBy_46, zr_D_heardBy_47, zr_D_heardBy_50, zr_D_heardBy_52, zr_D_heardBy_53, zr_D_heardBy_55, zr_D_heardBy_56, zr_D_heardBy_57, zr_D_heardBy_58, zr_D_heardBy_61, zr_D_heardBy_64, zr_D_heardBy_65, zr_D_heardBy_67, zr_D_heardBy_68, zr_D_heardBy_71, zr_D_heardBy_72, zr_D_heardBy_73, zr_D_heardBy_75, zr_D_heardBy_78, int_8, c, hP.1.f0, hP.1.f1, g1, g2.1.f1, sD_of0, q1, hm.1.cls, t1', z_obs, z_pu_s, z_pu_n, z00, z10, ↓reduceIte, true_or, or_true, z_b_t, z_b_f, nI_1, Bool.false_eq_true]) 8 0 0 () G (by omega) ⟨h, FR.rf⟩
  refine ⟨G', ?_, p⟩
  simp only [zm_D_heardBy, zr_D_heardBy_0, zr_D_heardBy_1, zr_D_heardBy_3, zr_D_heardBy_4]
  exact e1
theorem sD_heardBy1 (h : DW G a s ib u hs) (w : WF s) {d so sz : Nat} {el : Nat → Int32} (hd : d < 8) (e : hs d = Sh.ro so sz el) {j : Nat} (hj : j < s 0) : ∃ G', z_evM E i_D_heardBy lv [.ref a, .int (nI d), .int (nI j), .int 1] N k G = some (some (.int (mkI (whF s so sz el j) 10)), N, k, G') ∧ DW G' a s ib u hs ∧ FR (a + 2) 1 G G' := by
  have w1 := w.1
  obtain ⟨G', _, e1, p⟩ := z_loopG (fun i (acc : Int32) (_ : Unit) G => z_ev E i_D_heardBy lv 6 [some (.ref a), some (.int (nI d)), some (.int (nI j)), some (.int 1), some (.int acc), some (.int (nI i))] [] N k G) (fun b acc => acc ||| (if whF s so sz el j b = true then (1 : Int32) <<< (nI b &&& 31) else 0)) (fun i _ G' => DW G' a s ib u hs ∧ FR (a + 2) 1 G G') 10 (fun acc _ G => some (some (.int acc), N, k, G)) (fun acc _ G1 hP => by
    have c : nI 10 ≤ nI 10 := nI_le (Nat.le_refl _) (by omega)
    simp only [zr_D_heardBy_6, zr_D_heardBy_8, zr_D_heardBy_9, zr_D_heardBy_12, zr_D_heardBy_14, zr_D_heardBy_17, zr_D_heardBy_19, zr_D_heardBy_81, zr_D_heardBy_83, int_10, c, z_obs, z_pu_s, z_pu_n, z00, z10, ↓reduceIte, true_or, or_true, z_b_t, z_b_f]) (fun i acc _ G1 hi hP => by
    have c : ¬ nI 10 ≤ nI i := nI_ge hi (by omega)
    obtain ⟨G2, g1, g2⟩ := MM.take (E := E) N k hP.1 hP.2 w
    obtain ⟨G3, q1, q2, q3⟩ := g2.2.2.1.wr (j := 4 + 5 * j) i (by omega)
    have hm : MM G a s ib u hs (uN s (4 + 5 * j) i) G3 := ⟨g2.1.nm q2.x q3, g2.2.1.tr q3, q2, uF_WF w hi, uN_n _ _ (by omega)⟩
    obtain ⟨G4, t1, t2, t3⟩ := sD_isHeard (E := E) 0 N k hm hd e hj
    have t1' : z_evM E i_D_isHeard 0 [.ref a, .int (nI d), .int (nI j)] N k G3 = some (some (.int (z_b (whF s so sz el j i))), N, k, G4) := by
      rw [t1, uF_F, if_pos rfl, show sK (uN s (4 + 5 * j) i) j = sK s j from uN_n _ _ (by omega), show sR (uN s (4 + 5 * j) i) j = sR s j from uN_n _ _ (by omega), uN_n _ _ (by omega)]
      rfl
    refine ⟨G4, (), ?_, t2, t3⟩
    rw [zr_D_heardBy_6]
    cases hb : whF s so sz el j i <;> rw [hb] at t1' <;> simp only [zr_D_heardBy_8, zr_D_heardBy_9, zr_D_heardBy_12, zr_D_heardBy_14, zr_D_heardBy_17, zr_D_heardBy_19, zr_D_heardBy_22, zr_D_heardBy_23, zr_D_heardBy_26, zr_D_heardBy_27, zr_D_heardBy_30, zr_D_heardBy_33, zr_D_heardBy_34, zr_D_heardBy_37, zr_D_heardBy_38, zr_D_heardBy_39, zr_D_heardBy_42, zr_D_heardBy_43, zr_D_heardBy_46, zr_D_heardBy_47, zr_D_heardBy_50, zr_D_heardBy_52, zr_D_heardBy_53, zr_D_heardBy_55, zr_D_heardBy_56, zr_D_heardBy_57, zr_D_heardBy_58, zr_D_heardBy_61, zr_D_heardBy_64, zr_D_heardBy_65, zr_D_heardBy_67, zr_D_heardBy_68, zr_D_heardBy_71, zr_D_heardBy_72, zr_D_heardBy_73, zr_D_heardBy_75, zr_D_heardBy_78, int_10, c, hP.1.f0, hP.1.f1, g1, g2.1.f1, sD_of1, q1, hm.1.cls, t1', z_obs, z_pu_s, z_pu_n, z00, z10, ↓reduceIte, true_or, or_true, z_b_t, z_b_f, nI_1, Bool.false_eq_true]) 10 0 0 () G (by omega) ⟨h, FR.rf⟩
  refine ⟨G', ?_, p⟩
  simp only [zm_D_heardBy, zr_D_heardBy_0, zr_D_heardBy_1, zr_D_heardBy_3, zr_D_heardBy_4]
  exact e1
theorem sD_wrongHeard (h : DW G a s ib u hs) (d : Int32) : z_evM E i_D_wrongHeard lv [.ref a, .int d] N k G = some (some (.int (if lkR hs d ≠ 0 then lkR hs d else match hs (jN d) with
  | .inr (.inr (_, sz, _)) => if 48 < sz then -13 else 0
  | _ => 0)), N, k, G) := by
  by_cases hl : lkR hs d ≠ 0
  · rw [if_pos hl]
    simp only [zm_D_wrongHeard, zr_D_wrongHeard_0, zr_D_wrongHeard_1, zr_D_wrongHeard_2, zr_D_wrongHeard_3, zr_D_wrongHeard_6, zr_D_wrongHeard_7, zr_D_wrongHeard_8, zr_D_wrongHeard_11, zr_D_wrongHeard_12, zr_D_wrongHeard_15, zr_D_wrongHeard_16, zr_D_wrongHeard_17, zr_D_wrongHeard_19, zr_D_wrongHeard_22, zr_D_wrongHeard_24, zr_D_wrongHeard_27, zr_D_wrongHeard_28, h.cls, sD_wrongRow _ _ _ h, hl, z_obs, z_pu_s, z_pu_n, z00, z10, ↓reduceIte, true_or, or_true, z_b_t, z_b_f]
  · rw [if_neg hl]
    have hl0 : lkR hs d = 0 := by simpa using hl
    obtain ⟨d, so, sz, el, hd, rfl, e⟩ := lkR_ro hl
    obtain ⟨r1, r2, r3, r4, r5, r6⟩ := h.ro (E := E) hd e
    rw [jN_nI (show d < 2 ^ 31 by omega), e]
    dsimp only
    by_cases h48 : 48 < sz
    · have c : ¬ nI sz ≤ nI 48 := nI_ge h48 (by omega)
      simp only [zm_D_wrongHeard, zr_D_wrongHeard_0, zr_D_wrongHeard_1, zr_D_wrongHeard_2, zr_D_wrongHeard_3, zr_D_wrongHeard_6, zr_D_wrongHeard_7, zr_D_wrongHeard_8, zr_D_wrongHeard_11, zr_D_wrongHeard_12, zr_D_wrongHeard_15, zr_D_wrongHeard_16, zr_D_wrongHeard_17, zr_D_wrongHeard_19, zr_D_wrongHeard_22, zr_D_wrongHeard_24, zr_D_wrongHeard_27, zr_D_wrongHeard_28, h.cls, sD_wrongRow _ _ _ h, hl0, h.f18, r3, int_48, c, z_obs, z_pu_s, z_pu_n, z00, z10, ↓reduceIte, true_or, or_true, z_b_t, z_b_f, h48]
    · have c : nI sz ≤ nI 48 := nI_le (by omega) (by omega)
      simp only [zm_D_wrongHeard, zr_D_wrongHeard_0, zr_D_wrongHeard_1, zr_D_wrongHeard_2, zr_D_wrongHeard_3, zr_D_wrongHeard_6, zr_D_wrongHeard_7, zr_D_wrongHeard_8, zr_D_wrongHeard_11, zr_D_wrongHeard_12, zr_D_wrongHeard_15, zr_D_wrongHeard_16, zr_D_wrongHeard_17, zr_D_wrongHeard_19, zr_D_wrongHeard_22, zr_D_wrongHeard_24, zr_D_wrongHeard_27, zr_D_wrongHeard_28, h.cls, sD_wrongRow _ _ _ h, hl0, h.f18, r3, int_48, c, z_obs, z_pu_s, z_pu_n, z00, z10, ↓reduceIte, true_or, or_true, z_b_t, z_b_f, h48]
theorem dWhatRang (h : DW G a s ib u hs) (w : WF s) (d b y : Int32) : ∃ G', z_evM E i_D_whatRang lv [.ref a, .int d, .int b, .int y] N k G = some (some (.int (aWhatRang s hs d b y)), N, k, G') ∧ DW G' a s ib u hs ∧ FR a 15 G G' := by
  unfold aWhatRang
  cases hb : isB s b
  · refine ⟨G, ?_, h, FR.rf⟩
    simp only [zm_D_whatRang, zr_D_whatRang_0, zr_D_whatRang_1, zr_D_whatRang_2, zr_D_whatRang_5, zr_D_whatRang_8, zr_D_whatRang_9, zr_D_whatRang_10, zr_D_whatRang_11, zr_D_whatRang_14, zr_D_whatRang_17, zr_D_whatRang_18, h.cls, sD_isBell _ _ _ h w, hb, z_obs, z_pu_s, z_pu_n, z00, z10, ↓reduceIte, true_or, or_true, z_b_t, z_b_f, Bool.false_eq_true, false_and]
  · cases hy : is01 y
    · refine ⟨G, ?_, h, FR.rf⟩
      simp only [zm_D_whatRang, zr_D_whatRang_0, zr_D_whatRang_1, zr_D_whatRang_2, zr_D_whatRang_5, zr_D_whatRang_8, zr_D_whatRang_9, zr_D_whatRang_10, zr_D_whatRang_11, zr_D_whatRang_14, zr_D_whatRang_17, zr_D_whatRang_18, h.cls, sD_isBell _ _ _ h w, hb, sD_isIn, il_01, hy, z_obs, z_pu_s, z_pu_n, z00, z10, ↓reduceIte, true_or, or_true, z_b_t, z_b_f, Bool.false_eq_true, and_false]
    · have hw := sD_wrongHeard (E := E) 0 N k h d
      simp only [and_self, ↓reduceIte]
      by_cases hl : lkR hs d ≠ 0
      · rw [if_pos hl] at hw ⊢
        refine ⟨G, ?_, h, FR.rf⟩
        simp only [zm_D_whatRang, zr_D_whatRang_0, zr_D_whatRang_1, zr_D_whatRang_2, zr_D_whatRang_5, zr_D_whatRang_8, zr_D_whatRang_9, zr_D_whatRang_10, zr_D_whatRang_11, zr_D_whatRang_14, zr_D_whatRang_17, zr_D_whatRang_18, zr_D_whatRang_19, zr_D_whatRang_20, zr_D_whatRang_21, zr_D_whatRang_24, zr_D_whatRang_26, zr_D_whatRang_28, zr_D_whatRang_31, zr_D_whatRang_33, zr_D_whatRang_36, zr_D_whatRang_37, zr_D_whatRang_38, zr_D_whatRang_39, zr_D_whatRang_40, zr_D_whatRang_43, h.cls, sD_isBell _ _ _ h w, hb, sD_isIn, il_01, hy, hw, hl, z_obs, z_pu_s, z_pu_n, z00, z10, ↓reduceIte, true_or, or_true, z_b_t, z_b_f]
      · rw [if_neg hl] at hw ⊢
        obtain ⟨d, so, sz, el, hd, rfl, e⟩ := lkR_ro hl
        obtain ⟨j, hj, rfl⟩ := isB_of w hb
        rw [jN_nI (show d < 2 ^ 31 by omega), e] at hw ⊢
        rw [jNb w hj]
        dsimp only at hw ⊢
        by_cases h48 : 48 < sz
        · rw [if_pos h48] at hw ⊢
          refine ⟨G, ?_, h, FR.rf⟩
          simp only [zm_D_whatRang, zr_D_whatRang_0, zr_D_whatRang_1, zr_D_whatRang_2, zr_D_whatRang_5, zr_D_whatRang_8, zr_D_whatRang_9, zr_D_whatRang_10, zr_D_whatRang_11, zr_D_whatRang_14, zr_D_whatRang_17, zr_D_whatRang_18, zr_D_whatRang_19, zr_D_whatRang_20, zr_D_whatRang_21, zr_D_whatRang_24, zr_D_whatRang_26, zr_D_whatRang_28, zr_D_whatRang_31, zr_D_whatRang_33, zr_D_whatRang_36, zr_D_whatRang_37, zr_D_whatRang_38, zr_D_whatRang_39, zr_D_whatRang_40, zr_D_whatRang_43, h.cls, sD_isBell _ _ _ h w, hb, sD_isIn, il_01, hy, hw, show ¬ (-13 : Int32) = 0 by decide, z_obs, z_pu_s, z_pu_n, z00, z10, ↓reduceIte, true_or, or_true, z_b_t, z_b_f]
        · rw [if_neg h48] at hw ⊢
          rcases is01_of hy with rfl | rfl
          · obtain ⟨G', g1, g2, g3⟩ := sD_heardBy0 (E := E) 0 N k h w hd e hj
            refine ⟨G', ?_, g2, fun q hq => g3 q (by omega)⟩
            simp only [zm_D_whatRang, zr_D_whatRang_0, zr_D_whatRang_1, zr_D_whatRang_2, zr_D_whatRang_5, zr_D_whatRang_8, zr_D_whatRang_9, zr_D_whatRang_10, zr_D_whatRang_11, zr_D_whatRang_14, zr_D_whatRang_17, zr_D_whatRang_18, zr_D_whatRang_19, zr_D_whatRang_20, zr_D_whatRang_21, zr_D_whatRang_24, zr_D_whatRang_26, zr_D_whatRang_28, zr_D_whatRang_31, zr_D_whatRang_33, zr_D_whatRang_36, zr_D_whatRang_37, zr_D_whatRang_38, zr_D_whatRang_39, zr_D_whatRang_40, zr_D_whatRang_43, h.cls, sD_isBell _ _ _ h w, hb, sD_isIn, il_01, hy, hw, g1, z_obs, z_pu_s, z_pu_n, z00, z10, ↓reduceIte, true_or, or_true, z_b_t, z_b_f]
          · obtain ⟨G', g1, g2, g3⟩ := sD_heardBy1 (E := E) 0 N k h w hd e hj
            refine ⟨G', ?_, g2, fun q hq => g3 q (by omega)⟩
            simp only [zm_D_whatRang, zr_D_whatRang_0, zr_D_whatRang_1, zr_D_whatRang_2, zr_D_whatRang_5, zr_D_whatRang_8, zr_D_whatRang_9, zr_D_whatRang_10, zr_D_whatRang_11, zr_D_whatRang_14, zr_D_whatRang_17, zr_D_whatRang_18, zr_D_whatRang_19, zr_D_whatRang_20, zr_D_whatRang_21, zr_D_whatRang_24, zr_D_whatRang_26, zr_D_whatRang_28, zr_D_whatRang_31, zr_D_whatRang_33, zr_D_whatRang_36, zr_D_whatRang_37, zr_D_whatRang_38, zr_D_whatRang_39, zr_D_whatRang_40, zr_D_whatRang_43, h.cls, sD_isBell _ _ _ h w, hb, sD_isIn, il_01, hy, hw, g1, z_obs, z_pu_s, z_pu_n, z00, z10, ↓reduceIte, true_or, or_true, z_b_t, z_b_f]
theorem sD_ringOf {kd f t : Nat} (hk : kd < 8) (hf : f < 10) (ht : t < 24) : z_evM E i_D_ringOf lv [.int (nI kd), .int (nI f), .int (nI t)] N k G = some (some (.int (nI (g1H kd f 0 t))), N, k, G) := by
  obtain ⟨v1, v2, v3⟩ := wt_le kd hk f hf
  unfold g1H
  cases hh : hm kd f t
  · simp only [zm_D_ringOf, zr_D_ringOf_0, zr_D_ringOf_1, zr_D_ringOf_2, zr_D_ringOf_3, zr_D_ringOf_6, zr_D_ringOf_9, zr_D_ringOf_10, zr_D_ringOf_11, zr_D_ringOf_12, zr_D_ringOf_13, zr_D_ringOf_16, zr_D_ringOf_17, zr_D_ringOf_20, zr_D_ringOf_21, zr_D_ringOf_22, zr_D_ringOf_25, zr_D_ringOf_27, zr_D_ringOf_28, zr_D_ringOf_31, zr_D_ringOf_32, zr_D_ringOf_33, zr_D_ringOf_36, zr_D_ringOf_37, zr_D_ringOf_38, zr_D_ringOf_41, zr_D_ringOf_42, sD_isHomeBy _ _ _ _ hk hf ht, hh, z_obs, z_pu_s, z_pu_n, z00, z10, ↓reduceIte, true_or, or_true, z_b_t, z_b_f, Bool.false_eq_true]
    rfl
  · by_cases h1 : wt kd f = 1
    · simp only [zm_D_ringOf, zr_D_ringOf_0, zr_D_ringOf_1, zr_D_ringOf_2, zr_D_ringOf_3, zr_D_ringOf_6, zr_D_ringOf_9, zr_D_ringOf_10, zr_D_ringOf_11, zr_D_ringOf_12, zr_D_ringOf_13, zr_D_ringOf_16, zr_D_ringOf_17, zr_D_ringOf_20, zr_D_ringOf_21, zr_D_ringOf_22, zr_D_ringOf_25, zr_D_ringOf_27, zr_D_ringOf_28, zr_D_ringOf_31, zr_D_ringOf_32, zr_D_ringOf_33, zr_D_ringOf_36, zr_D_ringOf_37, zr_D_ringOf_38, zr_D_ringOf_41, zr_D_ringOf_42, sD_isHomeBy _ _ _ _ hk hf ht, hh, sD_wants _ _ _ _ hk hf, sD_steps _ _ _ _ hk hf, h1, show (nI 1 = (1 : Int32)) = True from eq_true rfl, int_100, nI_add, z_obs, z_pu_s, z_pu_n, z00, z10, ↓reduceIte, true_or, or_true, z_b_t, z_b_f, show 1 ≤ 0 + 1 by omega]
    · have c1 : ¬ nI (wt kd f) = 1 := fun z => h1 ((nI_eq (b := 1) (by omega) (by omega)).mp z)
      have c0 : ¬ nI (wt kd f) = 0 := nI_ne0 (by omega) (by omega)
      simp only [zm_D_ringOf, zr_D_ringOf_0, zr_D_ringOf_1, zr_D_ringOf_2, zr_D_ringOf_3, zr_D_ringOf_6, zr_D_ringOf_9, zr_D_ringOf_10, zr_D_ringOf_11, zr_D_ringOf_12, zr_D_ringOf_13, zr_D_ringOf_16, zr_D_ringOf_17, zr_D_ringOf_20, zr_D_ringOf_21, zr_D_ringOf_22, zr_D_ringOf_25, zr_D_ringOf_27, zr_D_ringOf_28, zr_D_ringOf_31, zr_D_ringOf_32, zr_D_ringOf_33, zr_D_ringOf_36, zr_D_ringOf_37, zr_D_ringOf_38, zr_D_ringOf_41, zr_D_ringOf_42, sD_isHomeBy _ _ _ _ hk hf ht, hh, sD_wants _ _ _ _ hk hf, sD_steps _ _ _ _ hk hf, c1, c0, not_false_eq_true, pk_div (show stp kd f < 2 ^ 31 by omega) (show 0 < wt kd f by omega) (show wt kd f < 2 ^ 31 by omega), z_obs, z_pu_s, z_pu_n, z00, z10, ↓reduceIte, true_or, or_true, z_b_t, z_b_f, show ¬ wt kd f ≤ 0 + 1 by omega, Nat.zero_add, Nat.mul_one]
theorem sD_unlikeAt {c : Nat → Bool} {v : Nat} (hv : v < 256) (hc : ∀ b, b < 8 → b6 v b = c b) {f t : Nat} (hf : f < 10) (ht : t < 24) : z_evM E i_D_unlikeAt lv [.int (nI v), .int (nI f), .int (nI t)] N k G = some (some (.int (nI (unl c f t))), N, k, G) := by
  simp only [zm_D_unlikeAt, zr_D_unlikeAt_0, zr_D_unlikeAt_1, zr_D_unlikeAt_2, zr_D_unlikeAt_3]
  refine z_loopJ (fun i (acc : Nat) (jk : Option Value × Option Value) => z_ev E i_D_unlikeAt lv 5 [some (.int (nI v)), some (.int (nI f)), some (.int (nI t)), some (.int (nI acc)), some (.int (nI i)), jk.1, jk.2] [] N k G) (fun i acc => acc + if newB c f t i = true then 1 else 0) 8 (fun acc => some (some (.int (nI acc)), N, k, G)) ?_ ?_ 8 0 0 (none, none) (by omega)
  · intro acc jk
    have cc : nI 8 ≤ nI 8 := nI_le (Nat.le_refl _) (by omega)
    simp only [zr_D_unlikeAt_5, zr_D_unlikeAt_7, zr_D_unlikeAt_9, zr_D_unlikeAt_91, zr_D_unlikeAt_92, int_8, cc, z_obs, z_pu_s, z_pu_n, z00, z10, ↓reduceIte, true_or, or_true, z_b_t, z_b_f]
  · intro i acc jk hi
    have cc : ¬ nI 8 ≤ nI i := nI_ge hi (by omega)
    have hh : ∀ b, b < 8 → ∀ lv N k, z_evM E i_D_has lv [.int (nI v), .int (nI b)] N k G = some (some (.int (z_b (c b))), N, k, G) := fun b hb lv N k => by rw [sD_has _ _ _ _ (show v < 2 ^ 31 by omega) (show b < 31 by omega), hc b hb]
    refine ⟨(some (.int (z_b (newB c f t i))), some (.int (nI i))), ?_⟩
    rw [zr_D_unlikeAt_5]
    simp only [zr_D_unlikeAt_7, zr_D_unlikeAt_9, zr_D_unlikeAt_12, zr_D_unlikeAt_13, zr_D_unlikeAt_15, zr_D_unlikeAt_18, zr_D_unlikeAt_20, zr_D_unlikeAt_21, int_8, cc, hh i hi, z_obs, z_pu_s, z_pu_n, z00, z10, ↓reduceIte, true_or, or_true, z_b_t, z_b_f]
    have inner : ∀ m b, b + m = i → z_ev E i_D_unlikeAt lv 23 [some (.int (nI v)), some (.int (nI f)), some (.int (nI t)), some (.int (nI acc)), some (.int (nI i)), some (.int (z_b (c i && !(exB (fun b => c b && decide (g1H b f 0 t = g1H i f 0 t)) b)))), some (.int (nI b))] [] N k G = z_ev E i_D_unlikeAt lv 72 [some (.int (nI v)), some (.int (nI f)), some (.int (nI t)), some (.int (nI acc)), some (.int (nI i)), some (.int (z_b (newB c f t i))), some (.int (nI i))] [] N k G := by
      intro m
      induction m with
      | zero =>
        intro b hb
        have : b = i := by omega
        subst this
        have c2 : nI b ≤ nI b := nI_le (Nat.le_refl _) (by omega)
        simp only [zr_D_unlikeAt_23, zr_D_unlikeAt_25, zr_D_unlikeAt_27, c2, z_obs, z_pu_s, z_pu_n, z00, z10, ↓reduceIte, true_or, or_true, z_b_t, z_b_f]
        rfl
      | succ m ih =>
        intro b hb
        have c2 : ¬ nI i ≤ nI b := nI_ge (by omega) (by omega)
        rw [← ih (b + 1) (by omega), exB_succ, zr_D_unlikeAt_23]
        have l1 := g1H_le (k := b) (r := 0) (h := t) (show b < 8 by omega) hf (by omega)
        have l2 := g1H_le (k := i) (r := 0) (h := t) hi hf (by omega)
        have eq : (nI (g1H b f 0 t) = nI (g1H i f 0 t)) = (g1H b f 0 t = g1H i f 0 t) := nI_eqI' (by omega) (by omega)
        cases hcb : c b
        · have hb' := hh b (by omega) 0 N k
          rw [hcb] at hb'
          simp only [zr_D_unlikeAt_25, zr_D_unlikeAt_27, zr_D_unlikeAt_30, zr_D_unlikeAt_32, zr_D_unlikeAt_33, zr_D_unlikeAt_35, zr_D_unlikeAt_38, zr_D_unlikeAt_41, zr_D_unlikeAt_43, zr_D_unlikeAt_44, zr_D_unlikeAt_45, zr_D_unlikeAt_48, zr_D_unlikeAt_50, zr_D_unlikeAt_51, zr_D_unlikeAt_52, zr_D_unlikeAt_55, zr_D_unlikeAt_58, zr_D_unlikeAt_59, zr_D_unlikeAt_62, zr_D_unlikeAt_63, zr_D_unlikeAt_64, zr_D_unlikeAt_66, zr_D_unlikeAt_69, c2, hb', z_obs, z_pu_s, z_pu_n, z00, z10, ↓reduceIte, true_or, or_true, z_b_t, z_b_f, nI_1, Bool.false_and, Bool.or_false]
          rw [show (1 : Int32) = z_b true from rfl, z_b_and, Bool.and_true]
        · have hb' := hh b (by omega) 0 N k
          rw [hcb] at hb'
          by_cases hq : g1H b f 0 t = g1H i f 0 t
          · simp only [zr_D_unlikeAt_25, zr_D_unlikeAt_27, zr_D_unlikeAt_30, zr_D_unlikeAt_32, zr_D_unlikeAt_33, zr_D_unlikeAt_35, zr_D_unlikeAt_38, zr_D_unlikeAt_41, zr_D_unlikeAt_43, zr_D_unlikeAt_44, zr_D_unlikeAt_45, zr_D_unlikeAt_48, zr_D_unlikeAt_50, zr_D_unlikeAt_51, zr_D_unlikeAt_52, zr_D_unlikeAt_55, zr_D_unlikeAt_58, zr_D_unlikeAt_59, zr_D_unlikeAt_62, zr_D_unlikeAt_63, zr_D_unlikeAt_64, zr_D_unlikeAt_66, zr_D_unlikeAt_69, c2, hb', sD_ringOf _ _ _ (show b < 8 by omega) hf ht, sD_ringOf _ _ _ hi hf ht, eq, eq_true hq, z_obs, z_pu_s, z_pu_n, z00, z10, ↓reduceIte, true_or, or_true, z_b_t, z_b_f, nI_1, decide_true, Bool.and_true, Bool.or_true, Bool.not_true, Bool.and_false]
            rw [show (0 : Int32) = z_b false from rfl, z_b_and, Bool.and_false]
          · simp only [zr_D_unlikeAt_25, zr_D_unlikeAt_27, zr_D_unlikeAt_30, zr_D_unlikeAt_32, zr_D_unlikeAt_33, zr_D_unlikeAt_35, zr_D_unlikeAt_38, zr_D_unlikeAt_41, zr_D_unlikeAt_43, zr_D_unlikeAt_44, zr_D_unlikeAt_45, zr_D_unlikeAt_48, zr_D_unlikeAt_50, zr_D_unlikeAt_51, zr_D_unlikeAt_52, zr_D_unlikeAt_55, zr_D_unlikeAt_58, zr_D_unlikeAt_59, zr_D_unlikeAt_62, zr_D_unlikeAt_63, zr_D_unlikeAt_64, zr_D_unlikeAt_66, zr_D_unlikeAt_69, c2, hb', sD_ringOf _ _ _ (show b < 8 by omega) hf ht, sD_ringOf _ _ _ hi hf ht, eq, eq_false hq, z_obs, z_pu_s, z_pu_n, z00, z10, ↓reduceIte, true_or, or_true, z_b_t, z_b_f, nI_1, decide_false, Bool.and_false, Bool.or_false]
            rw [show (1 : Int32) = z_b true from rfl, z_b_and, Bool.and_true]
    have i0 := inner i 0 (by omega)
    have e0 : exB (fun b => c b && decide (g1H b f 0 t = g1H i f 0 t)) 0 = false := rfl
    rw [e0, Bool.not_false, Bool.and_true] at i0
    refine Eq.trans i0 ?_
    cases hn : newB c f t i
    · simp only [zr_D_unlikeAt_72, zr_D_unlikeAt_73, zr_D_unlikeAt_75, zr_D_unlikeAt_78, zr_D_unlikeAt_79, zr_D_unlikeAt_82, zr_D_unlikeAt_83, zr_D_unlikeAt_84, zr_D_unlikeAt_85, zr_D_unlikeAt_88, z_obs, z_pu_s, z_pu_n, z00, z10, ↓reduceIte, true_or, or_true, z_b_t, z_b_f, nI_1, Bool.false_eq_true, Nat.add_zero, show ∀ x : Int32, x + 0 = x from fun x => by simp]
    · simp only [zr_D_unlikeAt_72, zr_D_unlikeAt_73, zr_D_unlikeAt_75, zr_D_unlikeAt_78, zr_D_unlikeAt_79, zr_D_unlikeAt_82, zr_D_unlikeAt_83, zr_D_unlikeAt_84, zr_D_unlikeAt_85, zr_D_unlikeAt_88, z_obs, z_pu_s, z_pu_n, z00, z10, ↓reduceIte, true_or, or_true, z_b_t, z_b_f, nI_1]
theorem dTell (h : DW G a s ib u hs) (w : WF s) (d b y : Int32) : ∃ G', z_evM E i_D_tell lv [.ref a, .int d, .int b, .int y] N k G = some (some (.int (aTell s hs d b y)), N, k, G') ∧ DW G' a s ib u hs ∧ FR a 15 G G' := by
  unfold aTell
  cases hb : isB s b
  · refine ⟨G, ?_, h, FR.rf⟩
    simp only [zm_D_tell, zr_D_tell_0, zr_D_tell_1, zr_D_tell_2, zr_D_tell_5, zr_D_tell_8, zr_D_tell_9, zr_D_tell_10, zr_D_tell_11, zr_D_tell_14, zr_D_tell_17, zr_D_tell_18, h.cls, sD_isBell _ _ _ h w, hb, z_obs, z_pu_s, z_pu_n, z00, z10, ↓reduceIte, true_or, or_true, z_b_t, z_b_f, Bool.false_eq_true, false_and]
  · cases hy : is01 y
    · refine ⟨G, ?_, h, FR.rf⟩
      simp only [zm_D_tell, zr_D_tell_0, zr_D_tell_1, zr_D_tell_2, zr_D_tell_5, zr_D_tell_8, zr_D_tell_9, zr_D_tell_10, zr_D_tell_11, zr_D_tell_14, zr_D_tell_17, zr_D_tell_18, h.cls, sD_isBell _ _ _ h w, hb, sD_isIn, il_01, hy, z_obs, z_pu_s, z_pu_n, z00, z10, ↓reduceIte, true_or, or_true, z_b_t, z_b_f, Bool.false_eq_true, and_false]
    · have hw := sD_wrongHeard (E := E) 0 N k h d
      simp only [and_self, ↓reduceIte]
      by_cases hl : lkR hs d ≠ 0
      · rw [if_pos hl] at hw ⊢
        refine ⟨G, ?_, h, FR.rf⟩
        simp only [zm_D_tell, zr_D_tell_0, zr_D_tell_1, zr_D_tell_2, zr_D_tell_5, zr_D_tell_8, zr_D_tell_9, zr_D_tell_10, zr_D_tell_11, zr_D_tell_14, zr_D_tell_17, zr_D_tell_18, zr_D_tell_19, zr_D_tell_20, zr_D_tell_21, zr_D_tell_24, zr_D_tell_26, zr_D_tell_28, zr_D_tell_31, zr_D_tell_33, h.cls, sD_isBell _ _ _ h w, hb, sD_isIn, il_01, hy, hw, hl, z_obs, z_pu_s, z_pu_n, z00, z10, ↓reduceIte, true_or, or_true, z_b_t, z_b_f]
      · rw [if_neg hl] at hw ⊢
        obtain ⟨d, so, sz, el, hd, rfl, e⟩ := lkR_ro hl
        obtain ⟨j, hj, rfl⟩ := isB_of w hb
        have hj6 : j < 6 := Nat.lt_of_lt_of_le hj w.1
        have hF := (w.2.2.2 j hj).2.1
        rw [jN_nI (show d < 2 ^ 31 by omega), e] at hw ⊢
        rw [jNb w hj]
        dsimp only at hw ⊢
        by_cases h48 : 48 < sz
        · rw [if_pos h48] at hw ⊢
          refine ⟨G, ?_, h, FR.rf⟩
          simp only [zm_D_tell, zr_D_tell_0, zr_D_tell_1, zr_D_tell_2, zr_D_tell_5, zr_D_tell_8, zr_D_tell_9, zr_D_tell_10, zr_D_tell_11, zr_D_tell_14, zr_D_tell_17, zr_D_tell_18, zr_D_tell_19, zr_D_tell_20, zr_D_tell_21, zr_D_tell_24, zr_D_tell_26, zr_D_tell_28, zr_D_tell_31, zr_D_tell_33, h.cls, sD_isBell _ _ _ h w, hb, sD_isIn, il_01, hy, hw, show ¬ (-13 : Int32) = 0 by decide, z_obs, z_pu_s, z_pu_n, z00, z10, ↓reduceIte, true_or, or_true, z_b_t, z_b_f]
        · rw [if_neg h48] at hw ⊢
          obtain ⟨G', g1, g2, g3⟩ := sD_heardBy0 (E := E) 0 N k h w hd e hj
          refine ⟨G', ?_, g2, fun q hq => g3 q (by omega)⟩
          obtain ⟨v, v1, v2, v3, -⟩ := mk8 (whK s so sz el j)
          obtain ⟨m1, m2⟩ := mx_eq (unl (whK s so sz el j) (sF s j))
          rw [tlF_mx, m1]
          rw [v2] at g1
          simp only [zm_D_tell, zr_D_tell_0, zr_D_tell_1, zr_D_tell_2, zr_D_tell_5, zr_D_tell_8, zr_D_tell_9, zr_D_tell_10, zr_D_tell_11, zr_D_tell_14, zr_D_tell_17, zr_D_tell_18, zr_D_tell_19, zr_D_tell_20, zr_D_tell_21, zr_D_tell_24, zr_D_tell_26, zr_D_tell_28, zr_D_tell_31, zr_D_tell_33, zr_D_tell_34, zr_D_tell_35, zr_D_tell_36, zr_D_tell_37, zr_D_tell_38, zr_D_tell_41, zr_D_tell_43, zr_D_tell_44, zr_D_tell_47, zr_D_tell_48, zr_D_tell_49, zr_D_tell_52, zr_D_tell_53, zr_D_tell_55, zr_D_tell_56, zr_D_tell_58, zr_D_tell_59, h.cls, sD_isBell _ _ _ h w, hb, sD_isIn, il_01, hy, hw, g1, g2.f0, sD_of1, g2.st.k1 hj6, z_obs, z_pu_s, z_pu_n, z00, z10, ↓reduceIte, true_or, or_true, z_b_t, z_b_f]
          refine z_loopP (fun i (acc : Nat) (_ : Unit) => z_ev E i_D_tell lv 61 [some (.ref a), some (.int (nI d)), some (.int (nI j)), some (.int y), some (.int 0), some (.int (nI v)), some (.int (nI (sF s j))), some (.int (nI acc)), some (.int (nI i))] [] N k G') (mxG (unl (whK s so sz el j) (sF s j))) (fun i acc => acc < 24) 24 (fun acc => some (some (.int (if y = 0 then nI acc else nI (unl (whK s so sz el j) (sF s j) acc))), N, k, G')) ?_ ?_ 23 1 0 () (by omega) (by omega)
          · intro acc _ hP
            have c : nI 24 ≤ nI 24 := nI_le (Nat.le_refl _) (by omega)
            by_cases h0 : y = 0
            · simp only [zr_D_tell_61, zr_D_tell_63, zr_D_tell_65, zr_D_tell_99, zr_D_tell_100, zr_D_tell_103, zr_D_tell_105, zr_D_tell_108, zr_D_tell_110, zr_D_tell_112, zr_D_tell_114, zr_D_tell_117, int_24, c, z_obs, z_pu_s, z_pu_n, z00, z10, ↓reduceIte, true_or, or_true, z_b_t, z_b_f, h0]
            · simp only [zr_D_tell_61, zr_D_tell_63, zr_D_tell_65, zr_D_tell_99, zr_D_tell_100, zr_D_tell_103, zr_D_tell_105, zr_D_tell_108, zr_D_tell_110, zr_D_tell_112, zr_D_tell_114, zr_D_tell_117, int_24, c, z_obs, z_pu_s, z_pu_n, z00, z10, ↓reduceIte, true_or, or_true, z_b_t, z_b_f, h0, sD_unlikeAt _ _ _ v1 v3 hF hP]
          · intro i acc _ hi hP
            have c : ¬ nI 24 ≤ nI i := nI_ge hi (by omega)
            have p1 := mkC_le (newB (whK s so sz el j) (sF s j) i) 8 0 0
            have p2 := mkC_le (newB (whK s so sz el j) (sF s j) acc) 8 0 0
            change unl (whK s so sz el j) (sF s j) i ≤ 8 at p1
            change unl (whK s so sz el j) (sF s j) acc ≤ 8 at p2
            unfold mxG
            rw [zr_D_tell_61]
            by_cases hlt : unl (whK s so sz el j) (sF s j) acc < unl (whK s so sz el j) (sF s j) i
            · have q : ¬ nI (unl (whK s so sz el j) (sF s j) i) ≤ nI (unl (whK s so sz el j) (sF s j) acc) := nI_ge hlt (by omega)
              simp only [hlt, ↓reduceIte]
              refine ⟨hi, (), ?_⟩
              simp only [zr_D_tell_63, zr_D_tell_65, zr_D_tell_68, zr_D_tell_70, zr_D_tell_72, zr_D_tell_74, zr_D_tell_77, zr_D_tell_79, zr_D_tell_81, zr_D_tell_83, zr_D_tell_86, zr_D_tell_89, zr_D_tell_91, zr_D_tell_93, zr_D_tell_96, int_24, c, sD_unlikeAt _ _ _ v1 v3 hF hi, sD_unlikeAt _ _ _ v1 v3 hF hP, q, z_obs, z_pu_s, z_pu_n, z00, z10, ↓reduceIte, true_or, or_true, z_b_t, z_b_f, nI_1]
            · have q : nI (unl (whK s so sz el j) (sF s j) i) ≤ nI (unl (whK s so sz el j) (sF s j) acc) := nI_le (by omega) (by omega)
              simp only [hlt, ↓reduceIte]
              refine ⟨hP, (), ?_⟩
              simp only [zr_D_tell_63, zr_D_tell_65, zr_D_tell_68, zr_D_tell_70, zr_D_tell_72, zr_D_tell_74, zr_D_tell_77, zr_D_tell_79, zr_D_tell_81, zr_D_tell_83, zr_D_tell_86, zr_D_tell_89, zr_D_tell_91, zr_D_tell_93, zr_D_tell_96, int_24, c, sD_unlikeAt _ _ _ v1 v3 hF hi, sD_unlikeAt _ _ _ v1 v3 hF hP, q, z_obs, z_pu_s, z_pu_n, z00, z10, ↓reduceIte, true_or, or_true, z_b_t, z_b_f, nI_1]
end
