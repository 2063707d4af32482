/-! THE MODEL: copied -/
theorem haB_f {sz : Nat} {i m : Int32} (h : haB sz i m = false) : m < 0 ∨ i < 0 ∨ (¬ m < 0 ∧ ¬ i < 0 ∧ nI sz - i < m) := by
  unfold haB at h
  by_cases h1 : i < 0
  · exact Or.inr (Or.inl h1)
  · by_cases h2 : m < 0
    · exact Or.inl h2
    · refine Or.inr (Or.inr ⟨h2, h1, ?_⟩)
      have h1' : 0 ≤ i := Int32.not_lt.mp h1
      have h2' : 0 ≤ m := Int32.not_lt.mp h2
      simp only [h1', h2', decide_true, Bool.true_and, decide_eq_false_iff_not] at h
      exact Int32.not_le.mp h
theorem haB_t {sz : Nat} {i m : Int32} (h : haB sz i m = true) : ¬ m < 0 ∧ ¬ i < 0 ∧ ¬ nI sz - i < m ∧ m ≤ nI sz - i := by
  unfold haB at h
  simp only [Bool.and_eq_true, decide_eq_true_eq] at h
  exact ⟨Int32.not_lt.mpr h.1.2, Int32.not_lt.mpr h.1.1, Int32.not_lt.mpr h.2, h.2⟩
section
variable {E : z_E} {G G' : z_H} {a : Nat} {s u : Nat → Nat} {ib : Bool} {hs hs' : Nat → Sh} (lv N k : Nat)
/-- what kind of thing a shelf holds -/
theorem DW.kd (h : DW G a s ib u hs) {d : Nat} (hd : d < 8) : ∃ c, z_ai E G (a + 9) (nI d) = some c ∧ (c = 0 ↔ isNo (hs d) = true) ∧ (c = 2 ↔ ∃ so sz el, hs d = Sh.ro so sz el) := by
  obtain ⟨c, ⟨h1, h2, h3, h4, h5⟩, h6, h7⟩ := h.sh
  have q := h7 d hd
  refine ⟨c 9 d, z_aiI h1 hd (by decide), ?_⟩
  rcases e : hs d with _ | ⟨kk, ff⟩ | ⟨so, sz, el⟩
  · rw [e] at q
    have q : c 9 d = 0 := q
    rw [q]
    refine ⟨⟨fun _ => rfl, fun _ => rfl⟩, ⟨fun z => absurd z (by decide), fun ⟨_, _, _, z⟩ => by cases z⟩⟩
  · rw [e] at q
    rw [q.1]
    refine ⟨⟨fun z => absurd z (by decide), fun z => by cases z⟩, ⟨fun z => absurd z (by decide), fun ⟨_, _, _, z⟩ => by cases z⟩⟩
  · rw [e] at q
    rw [q.1]
    refine ⟨⟨fun z => absurd z (by decide), fun z => by cases z⟩, ⟨fun _ => ⟨so, sz, el, rfl⟩, fun _ => rfl⟩⟩
theorem dCopy (h : DW G a s ib u hs) (d i e j m : Int32) : ∃ G', z_evM E i_D_copy lv [.ref a, .int d, .int i, .int e, .int j, .int m] N k G = some (some (.int (aCopy hs d i e j m).1), N, k, G') ∧ DW G' a s ib u (aCopy hs d i e j m).2 ∧ FR a 15 G G' := by
  unfold aCopy
  cases hd : inR d 8
  · refine ⟨G, ?_, by simpa using h, FR.rf⟩
    simp only [zm_D_copy, zr_D_copy_0, zr_D_copy_1, zr_D_copy_4, zr_D_copy_7, zr_D_copy_8, zr_D_copy_11, zr_D_copy_14, zr_D_copy_15, sD_isShelf, hd, z_obs, z_pu_s, z_pu_n, z00, z10, ↓reduceIte, true_or, or_true, z_b_t, z_b_f, Bool.false_eq_true, false_and]
  · cases he : inR e 8
    · refine ⟨G, ?_, by simpa using h, FR.rf⟩
      simp only [zm_D_copy, zr_D_copy_0, zr_D_copy_1, zr_D_copy_4, zr_D_copy_7, zr_D_copy_8, zr_D_copy_11, zr_D_copy_14, zr_D_copy_15, sD_isShelf, hd, he, z_obs, z_pu_s, z_pu_n, z00, z10, ↓reduceIte, true_or, or_true, z_b_t, z_b_f, Bool.false_eq_true, and_false]
    · obtain ⟨d, hd8, rfl⟩ := inR_of (by decide) hd
      obtain ⟨e, he8, rfl⟩ := inR_of (by decide) he
      rw [jN_nI (show d < 2 ^ 31 by omega), jN_nI (show e < 2 ^ 31 by omega)]
      simp only [and_self, ↓reduceIte]
      obtain ⟨cd, d1, d2, d3⟩ := h.kd (E := E) hd8
      obtain ⟨ce, e1, e2, e3⟩ := h.kd (E := E) he8
      by_cases hno : isNo (hs d) = true ∨ isNo (hs e) = true
      · rw [if_pos hno]
        refine ⟨G, ?_, h, FR.rf⟩
        by_cases n1 : isNo (hs d) = true
        · have c0 := d2.mpr n1
          simp only [zm_D_copy, zr_D_copy_0, zr_D_copy_1, zr_D_copy_4, zr_D_copy_7, zr_D_copy_8, zr_D_copy_11, zr_D_copy_14, zr_D_copy_15, zr_D_copy_16, zr_D_copy_17, zr_D_copy_20, zr_D_copy_21, zr_D_copy_22, zr_D_copy_25, zr_D_copy_26, zr_D_copy_29, zr_D_copy_30, zr_D_copy_31, zr_D_copy_34, zr_D_copy_36, sD_isShelf, hd, he, h.f14, d1, c0, z_obs, z_pu_s, z_pu_n, z00, z10, ↓reduceIte, true_or, or_true, z_b_t, z_b_f]
        · have c0 : ¬ cd = 0 := fun z => n1 (d2.mp z)
          have c1 := e2.mpr (hno.resolve_left n1)
          simp only [zm_D_copy, zr_D_copy_0, zr_D_copy_1, zr_D_copy_4, zr_D_copy_7, zr_D_copy_8, zr_D_copy_11, zr_D_copy_14, zr_D_copy_15, zr_D_copy_16, zr_D_copy_17, zr_D_copy_20, zr_D_copy_21, zr_D_copy_22, zr_D_copy_25, zr_D_copy_26, zr_D_copy_29, zr_D_copy_30, zr_D_copy_31, zr_D_copy_34, zr_D_copy_36, sD_isShelf, hd, he, h.f14, d1, c0, e1, c1, z_obs, z_pu_s, z_pu_n, z00, z10, ↓reduceIte, true_or, or_true, z_b_t, z_b_f]
      · rw [if_neg hno]
        have c0 : ¬ cd = 0 := fun z => hno (Or.inl (d2.mp z))
        have c1 : ¬ ce = 0 := fun z => hno (Or.inr (e2.mp z))
        by_cases rd : ∃ so sz el, hs d = Sh.ro so sz el
        · by_cases re : ∃ so sz el, hs e = Sh.ro so sz el
          · have cd2 := d3.mpr rd
            have ce2 := e3.mpr re
            subst cd2
            subst ce2
            obtain ⟨so, sz, el, ed⟩ := rd
            obtain ⟨so', sz', el', ee⟩ := re
            obtain ⟨-, r2, r3, r4, r5, r6⟩ := h.ro (E := E) hd8 ed
            obtain ⟨-, t2, t3, t4, t5, t6⟩ := h.ro (E := E) he8 ee
            rw [ed, ee]
            dsimp only
            by_cases hso : so = so'
            · subst hso
              rw [if_pos rfl]
              have pre : z_evM E i_D_copy lv [.ref a, .int (nI d), .int i, .int (nI e), .int j, .int m] N k G = z_ev E i_D_copy lv 75 [some (.ref a), some (.int (nI d)), some (.int i), some (.int (nI e)), some (.int j), some (.int m), none, none] [] N k G := by
                simp only [zm_D_copy, zr_D_copy_0, zr_D_copy_1, zr_D_copy_4, zr_D_copy_7, zr_D_copy_8, zr_D_copy_11, zr_D_copy_14, zr_D_copy_15, zr_D_copy_16, zr_D_copy_17, zr_D_copy_20, zr_D_copy_21, zr_D_copy_22, zr_D_copy_25, zr_D_copy_26, zr_D_copy_29, zr_D_copy_30, zr_D_copy_31, zr_D_copy_34, zr_D_copy_36, zr_D_copy_37, zr_D_copy_38, zr_D_copy_41, zr_D_copy_42, zr_D_copy_43, zr_D_copy_44, zr_D_copy_47, zr_D_copy_48, zr_D_copy_51, zr_D_copy_52, zr_D_copy_53, zr_D_copy_54, zr_D_copy_57, zr_D_copy_58, zr_D_copy_61, zr_D_copy_62, zr_D_copy_63, zr_D_copy_64, zr_D_copy_67, zr_D_copy_68, zr_D_copy_69, zr_D_copy_72, zr_D_copy_74, sD_isShelf, hd, he, h.f14, d1, e1, c0, c1, h.f17, r2, t2, show ((2 : Int32) = 2) = True by simp, z_obs, z_pu_s, z_pu_n, z00, z10, ↓reduceIte, true_or, or_true, z_b_t, z_b_f]
              rw [pre]
              by_cases hb : haB sz i m = true ∧ haB sz' j m = true
              · rw [if_pos hb]
                obtain ⟨b1, b2, b3, -⟩ := haB_t hb.1
                obtain ⟨-, b4, -, b5⟩ := haB_t hb.2
                obtain ⟨i, m, rfl, rfl, him⟩ := haB_of r5 hb.1
                obtain ⟨j, m', rfl, em, hjm⟩ := haB_of t5 hb.2
                have hlm : m < 2 ^ 31 := by
                  have := haB_of r5 hb.1
                  omega
                have hlm' : m = m' := by
                  by_cases hh : m' < 2 ^ 31
                  · exact (nI_eq hlm hh).mp em
                  · omega
                subst hlm'
                rw [jN_nI (show i < 2 ^ 31 by omega), jN_nI (show j < 2 ^ 31 by omega), jN_nI hlm]
                obtain ⟨c, ⟨h1, h2, h3, h4, h5⟩, h6, h7⟩ := h.sh
                obtain ⟨G4, _, e', P⟩ := z_loopG (fun q (_ : Unit) (jk : Option Value) G => z_ev E i_D_copy lv 122 [some (.ref a), some (.int (nI d)), some (.int (nI i)), some (.int (nI e)), some (.int (nI j)), some (.int (nI m)), some (.int (nI q)), jk] [] N k G) (fun _ a => a) (fun q _ G' => FR (a + 14) 1 G G' ∧ ∃ f, G' (a + 14) = some (.inr (.int, 800, .inl f)) ∧ (∀ p, p < q → f (100 * e + j + stQ i j m p) = c 14 (100 * d + i + stQ i j m p)) ∧ ∀ x, (∀ p, p < q → x ≠ 100 * e + j + stQ i j m p) → f x = c 14 x) m (fun _ _ G => some (some (.int (nI m)), N, k, G)) (fun _ _ G1 hP => by
                  have cc : nI m ≤ nI m := nI_le (Nat.le_refl _) hlm
                  simp only [zr_D_copy_122, zr_D_copy_124, zr_D_copy_126, zr_D_copy_129, zr_D_copy_130, zr_D_copy_132, zr_D_copy_135, zr_D_copy_137, zr_D_copy_140, zr_D_copy_142, zr_D_copy_143, zr_D_copy_144, zr_D_copy_146, zr_D_copy_147, zr_D_copy_149, zr_D_copy_150, zr_D_copy_153, zr_D_copy_155, zr_D_copy_156, zr_D_copy_157, zr_D_copy_159, zr_D_copy_160, zr_D_copy_162, zr_D_copy_163, zr_D_copy_164, zr_D_copy_167, zr_D_copy_169, zr_D_copy_170, zr_D_copy_171, zr_D_copy_172, zr_D_copy_173, zr_D_copy_175, zr_D_copy_176, zr_D_copy_177, zr_D_copy_178, zr_D_copy_181, zr_D_copy_184, zr_D_copy_186, cc, z_obs, z_pu_s, z_pu_n, z00, z10, ↓reduceIte, true_or, or_true, z_b_t, z_b_f]) (fun q _ jk G1 hq hP => by
                  obtain ⟨a1, f, a2, a3, a4⟩ := hP
                  have cc : ¬ nI m ≤ nI q := nI_ge hq hlm
                  have g19 : ∀ t f, z_gf G1 a [19, 12, 12, t, f] = some (.ref (a + 14)) := fun t f => (h.fr (G2 := G1) (a1 _ (by omega)) t f).2.2.2
                  have hst := stQ_lt (i := i) (j := j) hq
                  have hread : f (100 * d + i + stQ i j m q) = c 14 (100 * d + i + stQ i j m q) := a4 _ (fun p hp hx => by
                    have hsp := stQ_lt (i := i) (j := j) (show p < m by omega)
                    by_cases hde : d = e
                    · subst hde
                      unfold stQ at hx hst hsp
                      split at hx <;> omega
                    · omega)
                  have p5 := z_aiI (E := E) a2 (show 100 * d + i + stQ i j m q < 800 by omega) (show 800 < 2 ^ 31 by decide)
                  rw [hread] at p5
                  have p4 := z_piI (x := c 14 (100 * d + i + stQ i j m q)) a2 (show 100 * e + j + stQ i j m q < 800 by omega) (show 800 < 2 ^ 31 by decide)
                  refine ⟨z_up G1 (a + 14) (.inr (.int, 800, .inl (upd f (100 * e + j + stQ i j m q) (c 14 (100 * d + i + stQ i j m q))))), some (.int (nI (stQ i j m q))), ?_, a1.tr (fun x hx => z_up_n _ _ (by omega)), _, z_up_s _ _ _, fun p hp => ?_, fun x hx => ?_⟩
                  · rw [zr_D_copy_122]
                    by_cases hij : j < i
                    · have c5 : ¬ nI i ≤ nI j := nI_ge hij (by omega)
                      have es : stQ i j m q = q := by unfold stQ; rw [if_pos hij]
                      rw [es] at p4 p5 ⊢
                      simp only [zr_D_copy_124, zr_D_copy_126, zr_D_copy_129, zr_D_copy_130, zr_D_copy_132, zr_D_copy_135, zr_D_copy_137, zr_D_copy_140, zr_D_copy_142, zr_D_copy_143, zr_D_copy_144, zr_D_copy_146, zr_D_copy_147, zr_D_copy_149, zr_D_copy_150, zr_D_copy_153, zr_D_copy_155, zr_D_copy_156, zr_D_copy_157, zr_D_copy_159, zr_D_copy_160, zr_D_copy_162, zr_D_copy_163, zr_D_copy_164, zr_D_copy_167, zr_D_copy_169, zr_D_copy_170, zr_D_copy_171, zr_D_copy_172, zr_D_copy_173, zr_D_copy_175, zr_D_copy_176, zr_D_copy_177, zr_D_copy_178, zr_D_copy_181, cc, c5, g19, int_100, pk_mul, nI_add, p5, p4, z_obs, z_pu_s, z_pu_n, z00, z10, ↓reduceIte, true_or, or_true, z_b_t, z_b_f, nI_1]
                    · have c5 : nI i ≤ nI j := nI_le (by omega) (by omega)
                      have es : stQ i j m q = m - 1 - q := by unfold stQ; rw [if_neg hij]
                      rw [es] at p4 p5 ⊢
                      simp only [zr_D_copy_124, zr_D_copy_126, zr_D_copy_129, zr_D_copy_130, zr_D_copy_132, zr_D_copy_135, zr_D_copy_137, zr_D_copy_140, zr_D_copy_142, zr_D_copy_143, zr_D_copy_144, zr_D_copy_146, zr_D_copy_147, zr_D_copy_149, zr_D_copy_150, zr_D_copy_153, zr_D_copy_155, zr_D_copy_156, zr_D_copy_157, zr_D_copy_159, zr_D_copy_160, zr_D_copy_162, zr_D_copy_163, zr_D_copy_164, zr_D_copy_167, zr_D_copy_169, zr_D_copy_170, zr_D_copy_171, zr_D_copy_172, zr_D_copy_173, zr_D_copy_175, zr_D_copy_176, zr_D_copy_177, zr_D_copy_178, zr_D_copy_181, cc, c5, g19, pk_m1' (show 1 ≤ m by omega), pk_sub (show q ≤ m - 1 by omega), int_100, pk_mul, nI_add, p5, p4, z_obs, z_pu_s, z_pu_n, z00, z10, ↓reduceIte, true_or, or_true, z_b_t, z_b_f, nI_1]
                  · by_cases ep : p = q
                    · subst ep; exact pk_us
                    · have hne : 100 * e + j + stQ i j m p ≠ 100 * e + j + stQ i j m q := fun z => ep (stQ_inj (i := i) (j := j) (show p < m by omega) hq (by omega))
                      rw [pk_un hne]; exact a3 p (by omega)
                  · rw [pk_un (hx q (by omega))]
                    exact a4 x (fun p hp => hx p (by omega))) m 0 () none G (by omega) ⟨FR.rf, c 14, h6, fun p hp => absurd hp (Nat.not_lt_zero p), fun _ _ => rfl⟩
                obtain ⟨a1, f, a2, a3, a4⟩ := P
                refine ⟨G4, ?_, h.shelf (fun q q1 q2 => a1 q (by omega)) ⟨fun x => if x = 14 then f else c x, ⟨?_, ?_, ?_, ?_, ?_⟩, a2, fun x hx => ?_⟩, fun q hq => a1 q (by omega)⟩
                · rw [← e']
                  have n1 : ¬ nI m < 0 := b1
                  simp only [zr_D_copy_75, zr_D_copy_77, zr_D_copy_80, zr_D_copy_81, zr_D_copy_84, zr_D_copy_86, zr_D_copy_89, zr_D_copy_91, zr_D_copy_92, zr_D_copy_95, zr_D_copy_96, zr_D_copy_97, zr_D_copy_98, zr_D_copy_99, zr_D_copy_102, zr_D_copy_104, zr_D_copy_105, zr_D_copy_108, zr_D_copy_109, zr_D_copy_110, zr_D_copy_112, zr_D_copy_113, zr_D_copy_116, zr_D_copy_118, zr_D_copy_119, zr_D_copy_120, n1, b2, b4, h.f18, r3, t3, b3, b5, z_obs, z_pu_s, z_pu_n, z00, z10, ↓reduceIte, true_or, or_true, z_b_t, z_b_f]
                  rfl
                · rw [a1 _ (by omega)]; exact h1
                · rw [a1 _ (by omega)]; exact h2
                · rw [a1 _ (by omega)]; exact h3
                · rw [a1 _ (by omega)]; exact h4
                · rw [a1 _ (by omega)]; exact h5
                · by_cases ex : x = e
                  · subst ex
                    dsimp only
                    rw [upS_s]
                    have q := h7 x hx
                    have qd := h7 d hd8
                    rw [ee] at q
                    rw [ed] at qd
                    obtain ⟨q1, q2, q3, q4, q5, q6⟩ := q
                    obtain ⟨-, -, -, -, -, w6⟩ := qd
                    refine ⟨q1, q2, q3, q4, q5, fun y hy => ?_⟩
                    show f (100 * x + y) = cpE el el' i j m y
                    unfold cpE
                    by_cases hin : j ≤ y ∧ y < j + m
                    · rw [if_pos hin]
                      obtain ⟨p, p1, p2⟩ := stQ_sur i j (show y - j < m by omega)
                      have := a3 p p1
                      rw [p2, show 100 * x + j + (y - j) = 100 * x + y by omega, show 100 * d + i + (y - j) = 100 * d + (i + (y - j)) by omega] at this
                      rw [this]
                      exact w6 _ (by omega)
                    · rw [if_neg hin, a4 _ (fun p hp => by have := stQ_lt (i := i) (j := j) hp; omega)]
                      exact q6 y hy
                  · dsimp only
                    rw [upS_n _ _ ex]
                    refine (h7 x hx).congr (fun y y1 y2 => ?_) (fun y hy => ?_)
                    · show (if y = 14 then f else c y) x = c y x
                      rw [if_neg (by omega)]
                    · show f (100 * x + y) = _
                      exact a4 _ (fun p hp => by have := stQ_lt (i := i) (j := j) hp; omega)
              · rw [if_neg hb]
                refine ⟨G, ?_, h, FR.rf⟩
                have hb' : haB sz i m = false ∨ (haB sz i m = true ∧ haB sz' j m = false) := by
                  cases q1 : haB sz i m
                  · exact Or.inl rfl
                  · cases q2 : haB sz' j m
                    · exact Or.inr ⟨rfl, rfl⟩
                    · exact absurd ⟨q1, q2⟩ hb
                have rows : z_ev E i_D_copy lv 75 [some (.ref a), some (.int (nI d)), some (.int i), some (.int (nI e)), some (.int j), some (.int m), none, none] [] N k G = if m < 0 then some (some (.int (-13)), N, k, G) else if i < 0 then some (some (.int (-13)), N, k, G) else if j < 0 then some (some (.int (-13)), N, k, G) else if nI sz - i < m then some (some (.int (-13)), N, k, G) else if m ≤ nI sz' - j then z_ev E i_D_copy lv 119 [some (.ref a), some (.int (nI d)), some (.int i), some (.int (nI e)), some (.int j), some (.int m), none, none] [] N k G else some (some (.int (-13)), N, k, G) := by
                  simp only [zr_D_copy_75, zr_D_copy_77, zr_D_copy_80, zr_D_copy_81, zr_D_copy_84, zr_D_copy_86, zr_D_copy_89, zr_D_copy_91, zr_D_copy_92, zr_D_copy_95, zr_D_copy_96, zr_D_copy_97, zr_D_copy_98, zr_D_copy_99, zr_D_copy_102, zr_D_copy_104, zr_D_copy_105, zr_D_copy_108, zr_D_copy_109, zr_D_copy_110, zr_D_copy_112, zr_D_copy_113, zr_D_copy_116, zr_D_copy_118, h.f18, r3, t3, z_obs, z_pu_s, z_pu_n, z00, z10, ↓reduceIte, true_or, or_true, z_b_t, z_b_f]
                rw [rows]
                rcases hb' with q | ⟨q1, q2⟩
                · rcases haB_f q with q | q | ⟨x1, x2, x3⟩
                  · rw [if_pos q]
                  · rw [if_pos q]; split <;> rfl
                  · rw [if_neg x1, if_neg x2, if_pos x3]; split <;> rfl
                · obtain ⟨y1, y2, y3, y4⟩ := haB_t q1
                  rw [if_neg y1, if_neg y2]
                  rcases haB_f q2 with q | q | ⟨x1, x2, x3⟩
                  · exact absurd q y1
                  · rw [if_pos q]
                  · rw [if_neg x2, if_neg y3, if_neg (Int32.not_le.mpr x3)]
            · rw [if_neg hso]
              have cso : ¬ nI so = nI so' := fun z => hso ((nI_eq (by omega) (by omega)).mp z)
              refine ⟨G, ?_, h, FR.rf⟩
              simp only [zm_D_copy, zr_D_copy_0, zr_D_copy_1, zr_D_copy_4, zr_D_copy_7, zr_D_copy_8, zr_D_copy_11, zr_D_copy_14, zr_D_copy_15, zr_D_copy_16, zr_D_copy_17, zr_D_copy_20, zr_D_copy_21, zr_D_copy_22, zr_D_copy_25, zr_D_copy_26, zr_D_copy_29, zr_D_copy_30, zr_D_copy_31, zr_D_copy_34, zr_D_copy_36, zr_D_copy_37, zr_D_copy_38, zr_D_copy_41, zr_D_copy_42, zr_D_copy_43, zr_D_copy_44, zr_D_copy_47, zr_D_copy_48, zr_D_copy_51, zr_D_copy_52, zr_D_copy_53, zr_D_copy_54, zr_D_copy_57, zr_D_copy_58, zr_D_copy_61, zr_D_copy_62, zr_D_copy_63, zr_D_copy_64, zr_D_copy_67, zr_D_copy_68, zr_D_copy_69, zr_D_copy_72, zr_D_copy_74, sD_isShelf, hd, he, h.f14, d1, e1, c0, c1, h.f17, r2, t2, cso, show ((2 : Int32) = 2) = True by simp, z_obs, z_pu_s, z_pu_n, z00, z10, ↓reduceIte, true_or, or_true, z_b_t, z_b_f]
          · have cd2 := d3.mpr rd
            subst cd2
            have ce2 : ¬ ce = 2 := fun z => re (e3.mp z)
            obtain ⟨so, sz, el, ed⟩ := rd
            have run : z_evM E i_D_copy lv [.ref a, .int (nI d), .int i, .int (nI e), .int j, .int m] N k G = some (some (.int (-12)), N, k, G) := by
              simp only [zm_D_copy, zr_D_copy_0, zr_D_copy_1, zr_D_copy_4, zr_D_copy_7, zr_D_copy_8, zr_D_copy_11, zr_D_copy_14, zr_D_copy_15, zr_D_copy_16, zr_D_copy_17, zr_D_copy_20, zr_D_copy_21, zr_D_copy_22, zr_D_copy_25, zr_D_copy_26, zr_D_copy_29, zr_D_copy_30, zr_D_copy_31, zr_D_copy_34, zr_D_copy_36, zr_D_copy_37, zr_D_copy_38, zr_D_copy_41, zr_D_copy_42, zr_D_copy_43, zr_D_copy_44, zr_D_copy_47, zr_D_copy_48, zr_D_copy_51, zr_D_copy_52, zr_D_copy_53, zr_D_copy_54, zr_D_copy_57, zr_D_copy_58, zr_D_copy_61, zr_D_copy_62, zr_D_copy_63, zr_D_copy_64, zr_D_copy_67, zr_D_copy_68, zr_D_copy_69, zr_D_copy_72, zr_D_copy_74, sD_isShelf, hd, he, h.f14, d1, e1, c0, c1, ce2, show ((2 : Int32) = 2) = True by simp, z_obs, z_pu_s, z_pu_n, z00, z10, ↓reduceIte, true_or, or_true, z_b_t, z_b_f]
            rw [ed]
            rcases ee : hs e with _ | ⟨kk, ff⟩ | ⟨so', sz', el'⟩
            · exact ⟨G, run, h, FR.rf⟩
            · exact ⟨G, run, h, FR.rf⟩
            · exact absurd ⟨so', sz', el', ee⟩ re
        · have cd2 : ¬ cd = 2 := fun z => rd (d3.mp z)
          have run : z_evM E i_D_copy lv [.ref a, .int (nI d), .int i, .int (nI e), .int j, .int m] N k G = some (some (.int (-12)), N, k, G) := by
            simp only [zm_D_copy, zr_D_copy_0, zr_D_copy_1, zr_D_copy_4, zr_D_copy_7, zr_D_copy_8, zr_D_copy_11, zr_D_copy_14, zr_D_copy_15, zr_D_copy_16, zr_D_copy_17, zr_D_copy_20, zr_D_copy_21, zr_D_copy_22, zr_D_copy_25, zr_D_copy_26, zr_D_copy_29, zr_D_copy_30, zr_D_copy_31, zr_D_copy_34, zr_D_copy_36, zr_D_copy_37, zr_D_copy_38, zr_D_copy_41, zr_D_copy_42, zr_D_copy_43, zr_D_copy_44, zr_D_copy_47, zr_D_copy_48, zr_D_copy_51, zr_D_copy_52, zr_D_copy_53, zr_D_copy_54, zr_D_copy_57, zr_D_copy_58, zr_D_copy_61, zr_D_copy_62, zr_D_copy_63, zr_D_copy_64, zr_D_copy_67, zr_D_copy_68, zr_D_copy_69, zr_D_copy_72, zr_D_copy_74, sD_isShelf, hd, he, h.f14, d1, e1, c0, c1, cd2, z_obs, z_pu_s, z_pu_n, z00, z10, ↓reduceIte, true_or, or_true, z_b_t, z_b_f]
          rcases ed : hs d with _ | ⟨kk, ff⟩ | ⟨so', sz', el'⟩
          · exact ⟨G, run, h, FR.rf⟩
          · exact ⟨G, run, h, FR.rf⟩
          · exact absurd ⟨so', sz', el', ed⟩ rd
end
