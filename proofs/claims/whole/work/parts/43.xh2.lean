/-! THE CLASS: the ring that would tell most -/
section
variable {E : z_E} {G0 G : z_H} {x : Nat} {s u : Nat → Nat} {ib : Bool} {hs : Nat → Sh} {n kd f r h : Nat} (lv N k : Nat)
theorem sX_isAmong (h1 : XW G x s ib u hs n) {g : Nat → Int32} (hg : G (x + 36) = some (.inr (.int, 8, .inl g))) (v : Int32) {m : Nat} (hm : m ≤ 8) : z_evM E i_X_isAmong lv [.ref x, .int v, .int (nI m)] N k G = some (some (.int (z_b (exB (fun j => decide (g j = v)) m))), N, k, G) := by
  unfold exB
  simp only [zm_X_isAmong, zr_X_isAmong_0, zr_X_isAmong_1]
  refine z_find (fun i (_ : Unit) => z_ev E i_X_isAmong lv 2 [some (.ref x), some (.int v), some (.int (nI m)), some (.int (nI i))] [] N k G) (fun j => decide (g j = v)) m (fun o => some (some (.int (z_b o.isSome)), N, k, G)) ?_ ?_ ?_ m 0 () (by omega)
  · intro _
    have c : nI m ≤ nI m := nI_le (Nat.le_refl _) (by omega)
    simp only [zr_X_isAmong_2, zr_X_isAmong_3, zr_X_isAmong_4, zr_X_isAmong_31, zr_X_isAmong_32, c, z_obs, z_pu_s, z_pu_n, z00, z10, ↓reduceIte, true_or, or_true, z_b_t, z_b_f, Option.isSome_none]
  · intro i _ hi hp
    have c : ¬ nI m ≤ nI i := nI_ge hi (by omega)
    have c8 : ¬ nI 8 ≤ nI i := nI_ge (by omega) (by omega)
    have hp' : g i = v := by simpa using hp
    rw [zr_X_isAmong_2]
    simp only [zr_X_isAmong_0, zr_X_isAmong_1, zr_X_isAmong_3, zr_X_isAmong_4, zr_X_isAmong_7, zr_X_isAmong_8, zr_X_isAmong_10, zr_X_isAmong_13, zr_X_isAmong_14, zr_X_isAmong_17, zr_X_isAmong_18, zr_X_isAmong_19, zr_X_isAmong_20, zr_X_isAmong_23, zr_X_isAmong_24, zr_X_isAmong_25, zr_X_isAmong_28, zr_X_isAmong_31, zr_X_isAmong_32, int_8, c, c8, h1.f9, z_aiI hg (show i < 8 by omega) (by decide), hp', z_obs, z_pu_s, z_pu_n, z00, z10, ↓reduceIte, true_or, or_true, z_b_t, z_b_f, Option.isSome_some]
  · intro i _ hi hp
    have c : ¬ nI m ≤ nI i := nI_ge hi (by omega)
    have c8 : ¬ nI 8 ≤ nI i := nI_ge (by omega) (by omega)
    have hp' : ¬ g i = v := by simpa using hp
    refine ⟨(), ?_⟩
    rw [zr_X_isAmong_2]
    simp only [zr_X_isAmong_0, zr_X_isAmong_1, zr_X_isAmong_3, zr_X_isAmong_4, zr_X_isAmong_7, zr_X_isAmong_8, zr_X_isAmong_10, zr_X_isAmong_13, zr_X_isAmong_14, zr_X_isAmong_17, zr_X_isAmong_18, zr_X_isAmong_19, zr_X_isAmong_20, zr_X_isAmong_23, zr_X_isAmong_24, zr_X_isAmong_25, zr_X_isAmong_28, zr_X_isAmong_31, zr_X_isAmong_32, int_8, c, c8, h1.f9, z_aiI hg (show i < 8 by omega) (by decide), hp', z_obs, z_pu_s, z_pu_n, z00, z10, ↓reduceIte, true_or, or_true, z_b_t, z_b_f, nI_1]
/-- what has been heard so far stands there -/
def uQ (x : Nat) (c : Nat → Bool) (f t i m : Nat) (G : z_H) : Prop := m ≤ i ∧ ∃ g, G (x + 36) = some (.inr (.int, 8, .inl g)) ∧ ∀ v : Int32, (∃ j, j < m ∧ g j = v) ↔ ∃ b, b < i ∧ c b = true ∧ nI (g1H b f 0 t) = v
theorem XW.up36 (h : XW G x s ib u hs n) {g : Nat → Int32} : XW (z_up G (x + 36) (.inr (.int, 8, .inl g))) x s ib u hs n := by
  have e : ∀ q, q ≠ x + 36 → z_up G (x + 36) (.inr (.int, 8, .inl g)) q = G q := fun q hq => z_up_n _ _ hq
  exact h.sc (fun q hq => e q (by omega)) (by rw [e _ (by omega)]; exact h.er) (by rw [e _ (by omega)]; exact h.e1) (by rw [e _ (by omega)]; exact h.e2) (by rw [e _ (by omega)]; exact h.e3) (by rw [e _ (by omega)]; exact h.h1) ⟨g, z_up_s _ _ _⟩ (by rw [e _ (by omega)]; exact h.h3)
theorem sX_unlikeAt (h1 : XW G x s ib u hs n) (h2 : FX x G0 G) {c : Nat → Bool} {v : Int32} (hv : ∀ k, k < 8 → ((v >>> (nI k &&& 31)) &&& 1) = if c k = true then 1 else 0) {f t : Nat} (hf : f < 10) (ht : t < 24) : ∃ G', z_evM E i_X_unlikeAt lv [.ref x, .int (nI t), .int v, .int (nI f)] N k G = some (some (.int (nI (unl c f t))), N, k, G') ∧ XW G' x s ib u hs n ∧ FX x G0 G' := by
  obtain ⟨g0, hg0⟩ := h1.h2
  obtain ⟨G', _, e, p⟩ := z_loopG (fun i (a : Nat) (jk : Option Value × Option Value) G => z_ev E i_X_unlikeAt lv 6 [some (.ref x), some (.int (nI t)), some (.int v), some (.int (nI f)), some (.int (nI a)), some (.int (nI i)), jk.1, jk.2] [] N k G) (fun i a => a + if newB c f t i = true then 1 else 0) (fun i a G' => XW G' x s ib u hs n ∧ FX x G0 G' ∧ uQ x c f t i a G') 8 (fun a _ G => some (some (.int (nI a)), N, k, G)) (fun a jk G1 hP => by
    have c : nI 8 ≤ nI 8 := nI_le (Nat.le_refl _) (by omega)
    simp only [zr_X_unlikeAt_6, zr_X_unlikeAt_8, zr_X_unlikeAt_10, zr_X_unlikeAt_93, zr_X_unlikeAt_95, int_8, c, z_obs, z_pu_s, z_pu_n, z00, z10, ↓reduceIte, true_or, or_true, z_b_t, z_b_f]) (fun i a jk G1 hi hP => by
    have cc : ¬ nI 8 ≤ nI i := nI_ge hi (by omega)
    obtain ⟨hX, hF, hm, g, hg, hq⟩ := hP
    have ca : ¬ nI 8 ≤ nI a := nI_ge (by omega) (by omega)
    cases hci : c i
    · have hb : newB c f t i = false := by unfold newB; rw [hci]; rfl
      refine ⟨G1, (some (.ref (x + 38 + (10 * i + f))), jk.2), ?_, hX, hF, by rw [hb]; simp only [Bool.false_eq_true, ↓reduceIte]; omega, g, hg, fun w => ?_⟩
      · have hvi := hv i hi
        rw [hci] at hvi
        rw [zr_X_unlikeAt_6]
        simp only [zr_X_unlikeAt_0, zr_X_unlikeAt_1, zr_X_unlikeAt_3, zr_X_unlikeAt_4, zr_X_unlikeAt_8, zr_X_unlikeAt_10, zr_X_unlikeAt_13, zr_X_unlikeAt_14, zr_X_unlikeAt_16, zr_X_unlikeAt_17, zr_X_unlikeAt_20, zr_X_unlikeAt_20n, zr_X_unlikeAt_22, zr_X_unlikeAt_23, zr_X_unlikeAt_25, zr_X_unlikeAt_26, zr_X_unlikeAt_27, zr_X_unlikeAt_28, zr_X_unlikeAt_31, zr_X_unlikeAt_31n, zr_X_unlikeAt_33, zr_X_unlikeAt_33n, zr_X_unlikeAt_36, zr_X_unlikeAt_37, zr_X_unlikeAt_40, zr_X_unlikeAt_40n, zr_X_unlikeAt_42, zr_X_unlikeAt_43, zr_X_unlikeAt_44, zr_X_unlikeAt_47, zr_X_unlikeAt_48, zr_X_unlikeAt_51, zr_X_unlikeAt_52, zr_X_unlikeAt_55, zr_X_unlikeAt_57, zr_X_unlikeAt_59, zr_X_unlikeAt_61, zr_X_unlikeAt_64, zr_X_unlikeAt_65, zr_X_unlikeAt_67, zr_X_unlikeAt_69, zr_X_unlikeAt_72, zr_X_unlikeAt_75, zr_X_unlikeAt_76, zr_X_unlikeAt_79, zr_X_unlikeAt_81, zr_X_unlikeAt_83, zr_X_unlikeAt_84, zr_X_unlikeAt_87, zr_X_unlikeAt_90, zr_X_unlikeAt_93, zr_X_unlikeAt_95, int_8, cc, hX.cls, sX_houseOf _ _ _ hX hi hf, hvi, hb, z_obs, z_pu_s, z_pu_n, z00, z10, ↓reduceIte, true_or, or_true, z_b_t, z_b_f, nI_1, Bool.false_eq_true, Nat.add_zero]
      · rw [hb]
        simp only [Bool.false_eq_true, ↓reduceIte, Nat.add_zero]
        rw [hq w]
        constructor
        · rintro ⟨b, b1, b2, b3⟩; exact ⟨b, by omega, b2, b3⟩
        · rintro ⟨b, b1, b2, b3⟩
          refine ⟨b, ?_, b2, b3⟩
          rcases Nat.lt_or_ge b i with q | q
          · exact q
          · have : b = i := by omega
            subst this; rw [hci] at b2; cases b2
    · have hvi := hv i hi
      rw [hci] at hvi
      obtain ⟨G2, a1, a2, a3⟩ := MJ.hold (E := E) N k hX hF hi hf (show 0 < 10 by omega) ht
      obtain ⟨G3, b1, b2, b3⟩ := a2.ring (E := E) N k
      rw [nI_0] at a1
      have hg3 : G3 (x + 36) = some (.inr (.int, 8, .inl g)) := by rw [b3, a3]; exact hg
      have hle := g1H_le (r := 0) (h := t) hi hf (by omega)
      have hex : exB (fun j => decide (g j = nI (g1H i f 0 t))) a = exB (fun b => c b && decide (g1H b f 0 t = g1H i f 0 t)) i := by
        apply exB_congr
        have := hq (nI (g1H i f 0 t))
        constructor
        · rintro ⟨j, j1, j2⟩
          obtain ⟨b, e1, e2, e3⟩ := this.mp ⟨j, j1, by simpa using j2⟩
          have hle' := g1H_le (r := 0) (h := t) (show b < 8 by omega) hf (by omega)
          refine ⟨b, e1, ?_⟩
          rw [Bool.and_eq_true, decide_eq_true_eq]
          exact ⟨e2, (nI_eq (by omega) (by omega)).mp e3⟩
        · rintro ⟨b, e1, e2⟩
          rw [Bool.and_eq_true, decide_eq_true_eq] at e2
          obtain ⟨j, j1, j2⟩ := this.mpr ⟨b, e1, e2.1, by rw [e2.2]⟩
          exact ⟨j, j1, by simpa using j2⟩
      have ham := sX_isAmong (E := E) 0 N k b2.1 hg3 (nI (g1H i f 0 t)) (show a ≤ 8 by omega)
      rw [hex] at ham
      cases hb : exB (fun b => c b && decide (g1H b f 0 t = g1H i f 0 t)) i
      · rw [hb] at ham
        have hnb : newB c f t i = true := by unfold newB; rw [hci, hb]; rfl
        have hp := z_piI (x := nI (g1H i f 0 t)) (j := a) hg3 (by omega) (by decide)
        have hn2 : ¬ ∃ b, b < i ∧ c b = true ∧ nI (g1H b f 0 t) = nI (g1H i f 0 t) := by
          rintro ⟨b, e1, e2, e3⟩
          have hle' := g1H_le (r := 0) (h := t) (show b < 8 by omega) hf (by omega)
          have := (nI_eq (by omega) (by omega)).mp e3
          have ht := (exB_iff (p := fun b => c b && decide (g1H b f 0 t = g1H i f 0 t)) (m := i)).mpr ⟨b, e1, show (c b && decide (g1H b f 0 t = g1H i f 0 t)) = true by rw [e2, this]; simp⟩
          rw [hb] at ht; cases ht
        refine ⟨z_up G3 (x + 36) (.inr (.int, 8, .inl (upd g a (nI (g1H i f 0 t))))), (some (.ref (x + 38 + (10 * i + f))), some (.int (nI (g1H i f 0 t)))), ?_, b2.1.up36, fun q q1 q2 => by rw [z_up_n _ _ q2]; exact b2.2.1 q q1 q2, by rw [hnb]; simp only [↓reduceIte]; omega, _, z_up_s _ _ _, fun w => ?_⟩
        · rw [zr_X_unlikeAt_6]
          simp only [zr_X_unlikeAt_0, zr_X_unlikeAt_1, zr_X_unlikeAt_3, zr_X_unlikeAt_4, zr_X_unlikeAt_8, zr_X_unlikeAt_10, zr_X_unlikeAt_13, zr_X_unlikeAt_14, zr_X_unlikeAt_16, zr_X_unlikeAt_17, zr_X_unlikeAt_20, zr_X_unlikeAt_20n, zr_X_unlikeAt_22, zr_X_unlikeAt_23, zr_X_unlikeAt_25, zr_X_unlikeAt_26, zr_X_unlikeAt_27, zr_X_unlikeAt_28, zr_X_unlikeAt_31, zr_X_unlikeAt_31n, zr_X_unlikeAt_33, zr_X_unlikeAt_33n, zr_X_unlikeAt_36, zr_X_unlikeAt_37, zr_X_unlikeAt_40, zr_X_unlikeAt_40n, zr_X_unlikeAt_42, zr_X_unlikeAt_43, zr_X_unlikeAt_44, zr_X_unlikeAt_47, zr_X_unlikeAt_48, zr_X_unlikeAt_51, zr_X_unlikeAt_52, zr_X_unlikeAt_55, zr_X_unlikeAt_57, zr_X_unlikeAt_59, zr_X_unlikeAt_61, zr_X_unlikeAt_64, zr_X_unlikeAt_65, zr_X_unlikeAt_67, zr_X_unlikeAt_69, zr_X_unlikeAt_72, zr_X_unlikeAt_75, zr_X_unlikeAt_76, zr_X_unlikeAt_79, zr_X_unlikeAt_81, zr_X_unlikeAt_83, zr_X_unlikeAt_84, zr_X_unlikeAt_87, zr_X_unlikeAt_90, zr_X_unlikeAt_93, zr_X_unlikeAt_95, int_8, cc, ca, hX.cls, hX.f1, sX_houseOf _ _ _ hX hi hf, hvi, hnb, hX.mcls, a1, a2.1.f1, a2.mcls, b1, b2.1.cls, ham, b2.1.f9, hp, z_obs, z_pu_s, z_pu_n, z00, z10, ↓reduceIte, true_or, or_true, z_b_t, z_b_f, nI_1]
        · rw [hnb]
          simp only [↓reduceIte]
          constructor
          · rintro ⟨j, j1, j2⟩
            unfold upd at j2
            by_cases e : j = a
            · rw [if_pos e] at j2; exact ⟨i, by omega, hci, j2⟩
            · rw [if_neg e] at j2
              obtain ⟨b, e1, e2⟩ := (hq w).mp ⟨j, by omega, j2⟩
              exact ⟨b, by omega, e2⟩
          · rintro ⟨b, e1, e2, e3⟩
            by_cases e : b = i
            · subst e; exact ⟨a, by omega, by unfold upd; rw [if_pos rfl]; exact e3⟩
            · obtain ⟨j, j1, j2⟩ := (hq w).mpr ⟨b, by omega, e2, e3⟩
              exact ⟨j, by omega, by unfold upd; rw [if_neg (by omega)]; exact j2⟩
      · rw [hb] at ham
        have hnb : newB c f t i = false := by unfold newB; rw [hci, hb]; rfl
        obtain ⟨b, e1, e2⟩ := exB_iff.mp hb
        rw [Bool.and_eq_true, decide_eq_true_eq] at e2
        refine ⟨G3, (some (.ref (x + 38 + (10 * i + f))), some (.int (nI (g1H i f 0 t)))), ?_, b2.1, b2.2.1, by rw [hnb]; simp only [Bool.false_eq_true, ↓reduceIte]; omega, g, hg3, fun w => ?_⟩
        · rw [zr_X_unlikeAt_6]
          simp only [zr_X_unlikeAt_0, zr_X_unlikeAt_1, zr_X_unlikeAt_3, zr_X_unlikeAt_4, zr_X_unlikeAt_8, zr_X_unlikeAt_10, zr_X_unlikeAt_13, zr_X_unlikeAt_14, zr_X_unlikeAt_16, zr_X_unlikeAt_17, zr_X_unlikeAt_20, zr_X_unlikeAt_20n, zr_X_unlikeAt_22, zr_X_unlikeAt_23, zr_X_unlikeAt_25, zr_X_unlikeAt_26, zr_X_unlikeAt_27, zr_X_unlikeAt_28, zr_X_unlikeAt_31, zr_X_unlikeAt_31n, zr_X_unlikeAt_33, zr_X_unlikeAt_33n, zr_X_unlikeAt_36, zr_X_unlikeAt_37, zr_X_unlikeAt_40, zr_X_unlikeAt_40n, zr_X_unlikeAt_42, zr_X_unlikeAt_43, zr_X_unlikeAt_44, zr_X_unlikeAt_47, zr_X_unlikeAt_48, zr_X_unlikeAt_51, zr_X_unlikeAt_52, zr_X_unlikeAt_55, zr_X_unlikeAt_57, zr_X_unlikeAt_59, zr_X_unlikeAt_61, zr_X_unlikeAt_64, zr_X_unlikeAt_65, zr_X_unlikeAt_67, zr_X_unlikeAt_69, zr_X_unlikeAt_72, zr_X_unlikeAt_75, zr_X_unlikeAt_76, zr_X_unlikeAt_79, zr_X_unlikeAt_81, zr_X_unlikeAt_83, zr_X_unlikeAt_84, zr_X_unlikeAt_87, zr_X_unlikeAt_90, zr_X_unlikeAt_93, zr_X_unlikeAt_95, int_8, cc, ca, hX.cls, hX.f1, sX_houseOf _ _ _ hX hi hf, hvi, hnb, hX.mcls, a1, a2.1.f1, a2.mcls, b1, b2.1.cls, ham, z_obs, z_pu_s, z_pu_n, z00, z10, ↓reduceIte, true_or, or_true, z_b_t, z_b_f, nI_1, Bool.false_eq_true, Nat.add_zero]
        · rw [hnb]
          simp only [Bool.false_eq_true, ↓reduceIte, Nat.add_zero]
          rw [hq w]
          constructor
          · rintro ⟨b, b1, b2, b3⟩; exact ⟨b, by omega, b2, b3⟩
          · rintro ⟨b', b1, b2, b3⟩
            by_cases q : b' = i
            · subst q; exact ⟨b, e1, e2.1, by rw [e2.2]; exact b3⟩
            · exact ⟨b', by omega, b2, b3⟩) 8 0 0 (none, none) G (by omega) ⟨h1, h2, Nat.le_refl _, g0, hg0, fun w => ⟨fun ⟨j, j1, _⟩ => absurd j1 (Nat.not_lt_zero j), fun ⟨j, j1, _⟩ => absurd j1 (Nat.not_lt_zero j)⟩⟩
  refine ⟨G', ?_, p.1, p.2.1⟩
  rw [show unl c f t = foldN (fun i a => a + if newB c f t i = true then 1 else 0) 8 0 0 from rfl, ← e]
  simp only [zm_X_unlikeAt, zr_X_unlikeAt_0, zr_X_unlikeAt_1, zr_X_unlikeAt_3, zr_X_unlikeAt_4]
  rfl
theorem mkC_le (c : Nat → Bool) : ∀ m i acc, foldN (fun b acc => acc + if c b = true then 1 else 0) m i acc ≤ acc + m := by
  intro m
  induction m with
  | zero => intro i acc; exact Nat.le_refl _
  | succ m ih => intro i acc; refine Nat.le_trans (ih (i + 1) _) ?_; dsimp only; split <;> omega
theorem unl_le (c : Nat → Bool) (f t : Nat) : unl c f t ≤ 8 := by have := mkC_le (newB c f t) 8 0 0; unfold unl mkC; omega
theorem xTell (h1 : XW G x s ib u hs n) (w : WF s) (d b y : Int32) : ∃ G', z_evM E i_X_tell lv [.ref x, .int d, .int b, .int y] N k G = some (some (.int (aTell s hs d b y)), N, k, G') ∧ XW G' x s ib u hs n ∧ XF x G G' := by
  unfold aTell
  by_cases hl : lkR hs d ≠ 0
  · refine ⟨G, ?_, h1, XF.rf⟩
    cases hb : isB s b
    · simp only [zm_X_tell, zr_X_tell_0, zr_X_tell_1, zr_X_tell_2, zr_X_tell_5, zr_X_tell_5n, zr_X_tell_7, zr_X_tell_7n, zr_X_tell_9, zr_X_tell_9n, zr_X_tell_12, zr_X_tell_13, zr_X_tell_13n, zr_X_tell_15, zr_X_tell_16, zr_X_tell_17, zr_X_tell_20, zr_X_tell_23, zr_X_tell_24, zr_X_tell_25, zr_X_tell_26, zr_X_tell_27, zr_X_tell_30, h1.cls, rowOn_lk _ _ _ h1 hl, sX_whyNot_1 _ _ _ h1 d (Or.inl hb), z_obs, z_pu_s, z_pu_n, z00, z10, ↓reduceIte, true_or, or_true, z_b_t, z_b_f, Bool.false_eq_true, false_and]
    · cases hy : is01 y
      · simp only [zm_X_tell, zr_X_tell_0, zr_X_tell_1, zr_X_tell_2, zr_X_tell_5, zr_X_tell_5n, zr_X_tell_7, zr_X_tell_7n, zr_X_tell_9, zr_X_tell_9n, zr_X_tell_12, zr_X_tell_13, zr_X_tell_13n, zr_X_tell_15, zr_X_tell_16, zr_X_tell_17, zr_X_tell_20, zr_X_tell_23, zr_X_tell_24, zr_X_tell_25, zr_X_tell_26, zr_X_tell_27, zr_X_tell_30, h1.cls, rowOn_lk _ _ _ h1 hl, sX_whyNot_1 _ _ _ h1 d (Or.inr hy), z_obs, z_pu_s, z_pu_n, z00, z10, ↓reduceIte, true_or, or_true, z_b_t, z_b_f, Bool.false_eq_true, and_false]
      · simp only [zm_X_tell, zr_X_tell_0, zr_X_tell_1, zr_X_tell_2, zr_X_tell_5, zr_X_tell_5n, zr_X_tell_7, zr_X_tell_7n, zr_X_tell_9, zr_X_tell_9n, zr_X_tell_12, zr_X_tell_13, zr_X_tell_13n, zr_X_tell_15, zr_X_tell_16, zr_X_tell_17, zr_X_tell_20, zr_X_tell_23, zr_X_tell_24, zr_X_tell_25, zr_X_tell_26, zr_X_tell_27, zr_X_tell_30, h1.cls, rowOn_lk _ _ _ h1 hl, sX_whyNot_2 _ _ _ h1 hl hb hy, z_obs, z_pu_s, z_pu_n, z00, z10, ↓reduceIte, true_or, or_true, z_b_t, z_b_f, and_self, ne_eq, hl, not_false_eq_true]
  · obtain ⟨d, so, sz, el, hd, rfl, e⟩ := lkR_ro hl
    obtain ⟨r, r1, r2, r3, r4, r5, r6⟩ := sX_rowOn_ro (E := E) h1 hd e
    rw [if_neg hl, jN_nI (show d < 2 ^ 31 by omega), e]
    cases hb : isB s b
    · refine ⟨G, ?_, h1, XF.rf⟩
      simp only [zm_X_tell, zr_X_tell_0, zr_X_tell_1, zr_X_tell_2, zr_X_tell_5, zr_X_tell_5n, zr_X_tell_7, zr_X_tell_7n, zr_X_tell_9, zr_X_tell_9n, zr_X_tell_12, zr_X_tell_13, zr_X_tell_13n, zr_X_tell_15, zr_X_tell_16, zr_X_tell_17, zr_X_tell_20, zr_X_tell_23, zr_X_tell_24, zr_X_tell_25, zr_X_tell_26, zr_X_tell_27, zr_X_tell_30, h1.cls, r1, sX_mayBe _ _ _ h1 r2 r6, hb, sX_whyNot_1 _ _ _ h1 _ (Or.inl hb), z_obs, z_pu_s, z_pu_n, z00, z10, ↓reduceIte, true_or, or_true, z_b_t, z_b_f, Bool.false_eq_true, false_and, Bool.false_and]
    · cases hy : is01 y
      · refine ⟨G, ?_, h1, XF.rf⟩
        simp only [zm_X_tell, zr_X_tell_0, zr_X_tell_1, zr_X_tell_2, zr_X_tell_5, zr_X_tell_5n, zr_X_tell_7, zr_X_tell_7n, zr_X_tell_9, zr_X_tell_9n, zr_X_tell_12, zr_X_tell_13, zr_X_tell_13n, zr_X_tell_15, zr_X_tell_16, zr_X_tell_17, zr_X_tell_20, zr_X_tell_23, zr_X_tell_24, zr_X_tell_25, zr_X_tell_26, zr_X_tell_27, zr_X_tell_30, h1.cls, r1, sX_mayBe _ _ _ h1 r2 r6, hb, hy, sX_whyNot_1 _ _ _ h1 _ (Or.inr hy), z_obs, z_pu_s, z_pu_n, z00, z10, ↓reduceIte, true_or, or_true, z_b_t, z_b_f, Bool.false_eq_true, and_false, Bool.false_and, Bool.true_and]
      · by_cases hle : sz ≤ 48
        · obtain ⟨j, hj, rfl⟩ := isB_of w hb
          have hn : ¬ 48 < sz := by omega
          rw [jNb w hj]
          simp only [and_self, ↓reduceIte, hn]
          obtain ⟨q1, q2, q3, q4, q5⟩ := w.2.2.2 j hj
          obtain ⟨G1, g1, g2, g3⟩ := sX_kinds (E := E) 0 N k h1 w FX.rf r2 r3 r5 r6 hj
          obtain ⟨v, v1, v2, v3, v4⟩ := mk8 (whK s so sz el j)
          obtain ⟨G', _, e', p⟩ := z_loopG (fun i (a : Nat × Nat) (jk : Option Value) G => z_ev E i_X_tell lv 49 [some (.ref x), some (.int (nI d)), some (.int (nI j)), some (.int y), some (.ref r), some (.int (mkI (whK s so sz el j) 8)), some (.int (nI a.1)), some (.int (nI a.2)), some (.int (nI i)), jk] [] N k G) (tlF (whK s so sz el j) (sF s j)) (fun i a G' => XW G' x s ib u hs n ∧ FX x G G' ∧ a.2 ≤ 8) 24 (fun a _ G => some (some (.int (if y = 0 then nI a.1 else nI a.2)), N, k, G)) (fun a jk G1 hP => by
            have c : nI 24 ≤ nI 24 := nI_le (Nat.le_refl _) (by omega)
            by_cases h0 : y = 0
            · simp only [zr_X_tell_49, zr_X_tell_51, zr_X_tell_53, zr_X_tell_95, zr_X_tell_96, zr_X_tell_99, zr_X_tell_101, zr_X_tell_104, zr_X_tell_106, int_24, c, h0, z_obs, z_pu_s, z_pu_n, z00, z10, ↓reduceIte, true_or, or_true, z_b_t, z_b_f]
            · simp only [zr_X_tell_49, zr_X_tell_51, zr_X_tell_53, zr_X_tell_95, zr_X_tell_96, zr_X_tell_99, zr_X_tell_101, zr_X_tell_104, zr_X_tell_106, int_24, c, h0, z_obs, z_pu_s, z_pu_n, z00, z10, ↓reduceIte, true_or, or_true, z_b_t, z_b_f]) (fun i a jk G1 hi hP => by
            have c : ¬ nI 24 ≤ nI i := nI_ge hi (by omega)
            obtain ⟨hX, hF, ha⟩ := hP
            obtain ⟨G2, a1, a2, a3⟩ := sX_unlikeAt (E := E) 0 N k hX hF v4 q2 hi
            have hu := unl_le (whK s so sz el j) (sF s j) i
            unfold tlF
            by_cases hlt : a.2 < unl (whK s so sz el j) (sF s j) i
            · have q : ¬ nI (unl (whK s so sz el j) (sF s j) i) ≤ nI a.2 := nI_ge hlt (by omega)
              rw [if_pos hlt]
              refine ⟨G2, some (.int (nI (unl (whK s so sz el j) (sF s j) i))), ?_, a2, a3, hu⟩
              rw [zr_X_tell_49]
              simp only [zr_X_tell_51, zr_X_tell_53, zr_X_tell_56, zr_X_tell_57, zr_X_tell_59, zr_X_tell_61, zr_X_tell_62, zr_X_tell_65, zr_X_tell_66, zr_X_tell_69, zr_X_tell_72, zr_X_tell_74, zr_X_tell_76, zr_X_tell_78, zr_X_tell_81, zr_X_tell_83, zr_X_tell_85, zr_X_tell_87, zr_X_tell_89, zr_X_tell_92, int_24, c, hX.cls, hX.f0, hX.now.cls, sM_figureOf _ _ _ hX.now w hj, a1, q, z_obs, z_pu_s, z_pu_n, z00, z10, ↓reduceIte, true_or, or_true, z_b_t, z_b_f, nI_1]
            · have q : nI (unl (whK s so sz el j) (sF s j) i) ≤ nI a.2 := nI_le (by omega) (by omega)
              rw [if_neg hlt]
              refine ⟨G2, some (.int (nI (unl (whK s so sz el j) (sF s j) i))), ?_, a2, a3, ha⟩
              rw [zr_X_tell_49]
              simp only [zr_X_tell_51, zr_X_tell_53, zr_X_tell_56, zr_X_tell_57, zr_X_tell_59, zr_X_tell_61, zr_X_tell_62, zr_X_tell_65, zr_X_tell_66, zr_X_tell_69, zr_X_tell_72, zr_X_tell_74, zr_X_tell_76, zr_X_tell_78, zr_X_tell_81, zr_X_tell_83, zr_X_tell_85, zr_X_tell_87, zr_X_tell_89, zr_X_tell_92, int_24, c, hX.cls, hX.f0, hX.now.cls, sM_figureOf _ _ _ hX.now w hj, a1, q, z_obs, z_pu_s, z_pu_n, z00, z10, ↓reduceIte, true_or, or_true, z_b_t, z_b_f, nI_1]) 24 0 (0, 0) none G1 (by omega) ⟨g2, g3, Nat.zero_le _⟩
          refine ⟨G', ?_, p.1, p.2.1.xf⟩
          simp only [] at e' ⊢
          rw [← e']
          simp only [zm_X_tell, zr_X_tell_0, zr_X_tell_1, zr_X_tell_2, zr_X_tell_5, zr_X_tell_5n, zr_X_tell_7, zr_X_tell_7n, zr_X_tell_9, zr_X_tell_9n, zr_X_tell_12, zr_X_tell_13, zr_X_tell_13n, zr_X_tell_15, zr_X_tell_16, zr_X_tell_17, zr_X_tell_20, zr_X_tell_23, zr_X_tell_24, zr_X_tell_25, zr_X_tell_26, zr_X_tell_27, zr_X_tell_30, zr_X_tell_31, zr_X_tell_32, zr_X_tell_32n, zr_X_tell_34, zr_X_tell_35, zr_X_tell_38, zr_X_tell_40, zr_X_tell_41, zr_X_tell_43, zr_X_tell_44, zr_X_tell_46, zr_X_tell_47, h1.cls, r1, sX_mayBe _ _ _ h1 r2 r6, hb, hy, hle, decide_true, z_obs, z_pu_s, z_pu_n, z00, z10, ↓reduceIte, true_or, or_true, z_b_t, z_b_f, Bool.true_and, g1]
          rfl
        · refine ⟨G, ?_, h1, XF.rf⟩
          have hn : 48 < sz := by omega
          simp only [zm_X_tell, zr_X_tell_0, zr_X_tell_1, zr_X_tell_2, zr_X_tell_5, zr_X_tell_5n, zr_X_tell_7, zr_X_tell_7n, zr_X_tell_9, zr_X_tell_9n, zr_X_tell_12, zr_X_tell_13, zr_X_tell_13n, zr_X_tell_15, zr_X_tell_16, zr_X_tell_17, zr_X_tell_20, zr_X_tell_23, zr_X_tell_24, zr_X_tell_25, zr_X_tell_26, zr_X_tell_27, zr_X_tell_30, h1.cls, r1, sX_mayBe _ _ _ h1 r2 r6, hb, hy, hle, decide_false, sX_whyNot_3 _ _ _ h1 hd e hb hy, z_obs, z_pu_s, z_pu_n, z00, z10, ↓reduceIte, true_or, or_true, z_b_t, z_b_f, Bool.true_and, and_self, hn]
end
