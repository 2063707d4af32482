/-! THE CLASS: copied -/
theorem haB_of {sz : Nat} (hz : sz ≤ 100) {i m : Int32} (h : haB sz i m = true) : ∃ a b, i = nI a ∧ m = nI b ∧ a + b ≤ sz := by
  unfold haB at h
  simp only [Bool.and_eq_true, decide_eq_true_eq] at h
  obtain ⟨⟨h1, h2⟩, h3⟩ := h
  obtain ⟨a, a1, rfl⟩ := nI_of (Int32.not_lt.mpr h1)
  obtain ⟨b, b1, rfl⟩ := nI_of (Int32.not_lt.mpr h2)
  refine ⟨a, b, rfl, rfl, ?_⟩
  have e := Int32.le_iff_toInt_le.mp h3
  have es : (nI sz - nI a).toInt = (sz : Int) - a := by
    rw [Int32.toInt_sub, nI_toInt (by omega), nI_toInt a1, Int.bmod_def]
    omega
  rw [es, nI_toInt b1] at e
  omega
theorem haB_nI {sz a b : Nat} (hz : sz ≤ 100) (h : a + b ≤ sz) : haB sz (nI a) (nI b) = true := by
  unfold haB
  simp only [Bool.and_eq_true, decide_eq_true_eq]
  refine ⟨⟨nI_pos' (by omega), nI_pos' (by omega)⟩, ?_⟩
  rw [pk_sub (by omega)]
  exact nI_le (by omega) (by omega)
def isNo (v : Sh) : Bool := match v with
  | .inl () => true
  | _ => false
def cpE (f g : Nat → Int32) (i j m : Nat) : Nat → Int32 := fun q => if j ≤ q ∧ q < j + m then f (i + (q - j)) else g q
def aCopy (hs : Nat → Sh) (d i e j m : Int32) : Int32 × (Nat → Sh) := if inR d 8 = true ∧ inR e 8 = true then (if isNo (hs (jN d)) = true ∨ isNo (hs (jN e)) = true then (-11, hs) else match hs (jN d), hs (jN e) with
  | .inr (.inr (so, sz, el)), .inr (.inr (so', sz', el')) => if so = so' then (if haB sz i m = true ∧ haB sz' j m = true then (m, upS hs (jN e) (Sh.ro so' sz' (cpE el el' (jN i) (jN j) (jN m)))) else (-13, hs)) else (-12, hs)
  | _, _ => (-12, hs)) else (-1, hs)
section
variable {E : z_E} {G G' : z_H} {x : Nat} {s u : Nat → Nat} {ib : Bool} {hs : Nat → Sh} {n n' : Nat} (lv N k : Nat)
theorem sX_holdsNothing (h : XW G x s ib u hs n) {d : Nat} (hd : d < 8) : z_evM E i_X_holdsNothing lv [.ref x, .int (nI d)] N k G = some (some (.int (z_b (isNo (hs d)))), N, k, G) := by
  rcases e : hs d with _ | ⟨kk, ff⟩ | ⟨so, sz, el⟩
  · simp only [zm_X_holdsNothing, zr_X_holdsNothing_0, zr_X_holdsNothing_1, zr_X_holdsNothing_2, zr_X_holdsNothing_5, zr_X_holdsNothing_5n, zr_X_holdsNothing_8, zr_X_holdsNothing_9, zr_X_holdsNothing_10, zr_X_holdsNothing_13, zr_X_holdsNothing_13n, zr_X_holdsNothing_16, zr_X_holdsNothing_17, zr_X_holdsNothing_20, zr_X_holdsNothing_21, h.cls, sX_rowOn_no _ _ _ h hd e, sX_bellOn_no _ _ _ h hd e, z_obs, z_pu_s, z_pu_n, z00, z10, ↓reduceIte, true_or, or_true, z_b_t, z_b_f]; rfl
  · simp only [zm_X_holdsNothing, zr_X_holdsNothing_0, zr_X_holdsNothing_1, zr_X_holdsNothing_2, zr_X_holdsNothing_5, zr_X_holdsNothing_5n, zr_X_holdsNothing_8, zr_X_holdsNothing_9, zr_X_holdsNothing_10, zr_X_holdsNothing_13, zr_X_holdsNothing_13n, zr_X_holdsNothing_16, zr_X_holdsNothing_17, zr_X_holdsNothing_20, zr_X_holdsNothing_21, h.cls, sX_rowOn_be _ _ _ h hd e, (sX_bellOn_be (E := E) _ _ _ h hd e).1, z_obs, z_pu_s, z_pu_n, z00, z10, ↓reduceIte, true_or, or_true, z_b_t, z_b_f]; rfl
  · obtain ⟨r, r1, -⟩ := sX_rowOn_ro (E := E) h hd e
    simp only [zm_X_holdsNothing, zr_X_holdsNothing_0, zr_X_holdsNothing_1, zr_X_holdsNothing_2, zr_X_holdsNothing_5, zr_X_holdsNothing_5n, zr_X_holdsNothing_8, zr_X_holdsNothing_9, zr_X_holdsNothing_10, zr_X_holdsNothing_13, zr_X_holdsNothing_13n, zr_X_holdsNothing_16, zr_X_holdsNothing_17, zr_X_holdsNothing_20, zr_X_holdsNothing_21, h.cls, r1, z_obs, z_pu_s, z_pu_n, z00, z10, ↓reduceIte, true_or, or_true, z_b_t, z_b_f]; rfl
theorem xCopy (h : XW G x s ib u hs n) (d i e j m : Int32) : ∃ G', z_evM E i_X_copy lv [.ref x, .int d, .int i, .int e, .int j, .int m] N k G = some (some (.int (aCopy hs d i e j m).1), N, k, G') ∧ XW G' x s ib u (aCopy hs d i e j m).2 n ∧ XF x G G' := by
  unfold aCopy
  cases hd : inR d 8
  · refine ⟨G, ?_, by simpa using h, XF.rf⟩
    simp only [zm_X_copy, zr_X_copy_0, zr_X_copy_1, zr_X_copy_4, zr_X_copy_7, zr_X_copy_8, zr_X_copy_11, zr_X_copy_14, zr_X_copy_15, sX_isShelf, hd, z_obs, z_pu_s, z_pu_n, z00, z10, ↓reduceIte, true_or, or_true, z_b_t, z_b_f, Bool.false_eq_true, false_and]
  · cases he : inR e 8
    · refine ⟨G, ?_, by simpa using h, XF.rf⟩
      simp only [zm_X_copy, zr_X_copy_0, zr_X_copy_1, zr_X_copy_4, zr_X_copy_7, zr_X_copy_8, zr_X_copy_11, zr_X_copy_14, zr_X_copy_15, sX_isShelf, hd, he, z_obs, z_pu_s, z_pu_n, z00, z10, ↓reduceIte, true_or, or_true, z_b_t, z_b_f, Bool.false_eq_true, and_false]
    · obtain ⟨d, hd8, rfl⟩ := inR_of (by decide) hd
      obtain ⟨e, he8, rfl⟩ := inR_of (by decide) he
      rw [jN_nI (show d < 2 ^ 31 by omega), jN_nI (show e < 2 ^ 31 by omega)]
      have hpre : z_evM E i_X_copy lv [.ref x, .int (nI d), .int i, .int (nI e), .int j, .int m] N k G = if isNo (hs d) = true ∨ isNo (hs e) = true then some (some (.int (-11)), N, k, G) else z_ev E i_X_copy lv 35 [some (.ref x), some (.int (nI d)), some (.int i), some (.int (nI e)), some (.int j), some (.int m), none, none] [] N k G := by
        cases h1 : isNo (hs d)
        · cases h2 : isNo (hs e)
          · simp only [zm_X_copy, zr_X_copy_0, zr_X_copy_1, zr_X_copy_4, zr_X_copy_7, zr_X_copy_8, zr_X_copy_11, zr_X_copy_14, zr_X_copy_15, zr_X_copy_16, zr_X_copy_17, zr_X_copy_18, zr_X_copy_21, zr_X_copy_24, zr_X_copy_25, zr_X_copy_26, zr_X_copy_29, zr_X_copy_32, zr_X_copy_34, sX_isShelf, hd, he, h.cls, sX_holdsNothing _ _ _ h hd8, sX_holdsNothing _ _ _ h he8, h1, h2, z_obs, z_pu_s, z_pu_n, z00, z10, ↓reduceIte, true_or, or_true, z_b_t, z_b_f, Bool.false_eq_true, or_self]
          · simp only [zm_X_copy, zr_X_copy_0, zr_X_copy_1, zr_X_copy_4, zr_X_copy_7, zr_X_copy_8, zr_X_copy_11, zr_X_copy_14, zr_X_copy_15, zr_X_copy_16, zr_X_copy_17, zr_X_copy_18, zr_X_copy_21, zr_X_copy_24, zr_X_copy_25, zr_X_copy_26, zr_X_copy_29, zr_X_copy_32, zr_X_copy_34, sX_isShelf, hd, he, h.cls, sX_holdsNothing _ _ _ h hd8, sX_holdsNothing _ _ _ h he8, h1, h2, z_obs, z_pu_s, z_pu_n, z00, z10, ↓reduceIte, true_or, or_true, z_b_t, z_b_f]
        · simp only [zm_X_copy, zr_X_copy_0, zr_X_copy_1, zr_X_copy_4, zr_X_copy_7, zr_X_copy_8, zr_X_copy_11, zr_X_copy_14, zr_X_copy_15, zr_X_copy_16, zr_X_copy_17, zr_X_copy_18, zr_X_copy_21, zr_X_copy_24, zr_X_copy_25, zr_X_copy_26, zr_X_copy_29, zr_X_copy_32, zr_X_copy_34, sX_isShelf, hd, he, h.cls, sX_holdsNothing _ _ _ h hd8, h1, z_obs, z_pu_s, z_pu_n, z00, z10, ↓reduceIte, true_or, or_true, z_b_t, z_b_f]
      rw [hpre]
      simp only [and_self, ↓reduceIte]
      by_cases hno : isNo (hs d) = true ∨ isNo (hs e) = true
      · rw [if_pos hno, if_pos hno]
        exact ⟨G, rfl, h, XF.rf⟩
      · rw [if_neg hno, if_neg hno]
        rcases e1 : hs d with _ | ⟨kk, ff⟩ | ⟨so, sz, el⟩
        · exact absurd (Or.inl (by rw [e1]; rfl)) hno
        · refine ⟨G, ?_, by dsimp only; exact h, XF.rf⟩
          rcases e2 : hs e with _ | ⟨kk', ff'⟩ | ⟨so', sz', el'⟩
          · exact absurd (Or.inr (by rw [e2]; rfl)) hno
          · simp only [zr_X_copy_35, zr_X_copy_36, zr_X_copy_37, zr_X_copy_40, zr_X_copy_40n, zr_X_copy_42, zr_X_copy_43, zr_X_copy_44, zr_X_copy_47, zr_X_copy_47n, zr_X_copy_49, zr_X_copy_49n, zr_X_copy_51, zr_X_copy_51n, zr_X_copy_72, zr_X_copy_74, h.cls, sX_rowOn_be _ _ _ h hd8 e1, sX_rowOn_be _ _ _ h he8 e2, z_obs, z_pu_s, z_pu_n, z00, z10, ↓reduceIte, true_or, or_true, z_b_t, z_b_f]
          · obtain ⟨r, r1, -⟩ := sX_rowOn_ro (E := E) h he8 e2
            simp only [zr_X_copy_35, zr_X_copy_36, zr_X_copy_37, zr_X_copy_40, zr_X_copy_40n, zr_X_copy_42, zr_X_copy_43, zr_X_copy_44, zr_X_copy_47, zr_X_copy_47n, zr_X_copy_49, zr_X_copy_49n, zr_X_copy_51, zr_X_copy_51n, zr_X_copy_72, zr_X_copy_74, h.cls, sX_rowOn_be _ _ _ h hd8 e1, r1, z_obs, z_pu_s, z_pu_n, z00, z10, ↓reduceIte, true_or, or_true, z_b_t, z_b_f]
        · obtain ⟨r, r1, r2, r3, r4, r5, r6⟩ := sX_rowOn_ro (E := E) h hd8 e1
          rcases e2 : hs e with _ | ⟨kk', ff'⟩ | ⟨so', sz', el'⟩
          · exact absurd (Or.inr (by rw [e2]; rfl)) hno
          · refine ⟨G, ?_, by dsimp only; exact h, XF.rf⟩
            simp only [zr_X_copy_35, zr_X_copy_36, zr_X_copy_37, zr_X_copy_40, zr_X_copy_40n, zr_X_copy_42, zr_X_copy_43, zr_X_copy_44, zr_X_copy_47, zr_X_copy_47n, zr_X_copy_49, zr_X_copy_49n, zr_X_copy_51, zr_X_copy_51n, zr_X_copy_54, zr_X_copy_54n, zr_X_copy_56, zr_X_copy_56n, zr_X_copy_72, zr_X_copy_74, h.cls, r1, sX_rowOn_be _ _ _ h he8 e2, z_obs, z_pu_s, z_pu_n, z00, z10, ↓reduceIte, true_or, or_true, z_b_t, z_b_f]
          · obtain ⟨q, q1, q2, q3, q4, q5, q6, q7⟩ := sX_rowOn_ro' (E := E) h he8 e2
            dsimp only
            by_cases hso : so = so'
            · subst hso
              rw [if_pos rfl]
              by_cases ha : haB sz i m = true ∧ haB sz' j m = true
              · rw [if_pos ha]
                obtain ⟨i, m, rfl, rfl, hle⟩ := haB_of r6 ha.1
                obtain ⟨j, m', rfl, hmm, hle'⟩ := haB_of q6 ha.2
                have hm' : m' = m := ((nI_eq (by omega) (by omega)).mp hmm).symm
                subst hm'
                obtain ⟨f, f1, f2⟩ := r2.2
                obtain ⟨g, g1, g2⟩ := q2.2
                have hcp : z_cp G (r + 1) (nI i) (q + 1) (nI j) (nI m') = some (z_up G (q + 1) (.inr (.int, sz', .inl (va_cpy f g i j m')))) := by
                  unfold z_cp
                  simp only [f1, g1, nI_clamp (show i < 2 ^ 31 by omega), nI_clamp (show j < 2 ^ 31 by omega), nI_clamp (show m' < 2 ^ 31 by omega)]
                  rw [if_neg]
                  intro z
                  rcases z with z | z | z | z | z
                  · exact nI_pos (by omega) z
                  · exact nI_pos (by omega) z
                  · exact nI_pos (by omega) z
                  · omega
                  · omega
                have hR : RA (z_up G (q + 1) (.inr (.int, sz', .inl (va_cpy f g i j m')))) q so sz' (cpE el el' i j m') := ⟨by rw [z_up_n _ _ (by omega)]; exact q2.1, _, z_up_s _ _ _, fun p hp => by
                  unfold cpE
                  by_cases c : j ≤ p ∧ p < j + m'
                  · rw [if_pos c, pk_cpy_in c.1 c.2, f2 _ (by omega)]
                  · rw [if_neg c, pk_cpy_out (by omega), g2 _ hp]⟩
                obtain ⟨k1, k2⟩ := h.rowUp he8 e2 q7 (fun p hp => z_up_n _ _ hp) hR
                rw [jN_nI (show i < 2 ^ 31 by omega), jN_nI (show j < 2 ^ 31 by omega), jN_nI (show m' < 2 ^ 31 by omega)]
                refine ⟨_, ?_, k1, k2⟩
                simp only [zr_X_copy_35, zr_X_copy_36, zr_X_copy_37, zr_X_copy_40, zr_X_copy_40n, zr_X_copy_42, zr_X_copy_43, zr_X_copy_44, zr_X_copy_47, zr_X_copy_47n, zr_X_copy_49, zr_X_copy_49n, zr_X_copy_51, zr_X_copy_51n, zr_X_copy_54, zr_X_copy_54n, zr_X_copy_56, zr_X_copy_56n, zr_X_copy_59, zr_X_copy_59n, zr_X_copy_61, zr_X_copy_64, zr_X_copy_64n, zr_X_copy_66, zr_X_copy_69, zr_X_copy_72, zr_X_copy_74, zr_X_copy_75, zr_X_copy_75n, zr_X_copy_77, zr_X_copy_78, zr_X_copy_80, zr_X_copy_83, zr_X_copy_86, zr_X_copy_86n, zr_X_copy_88, zr_X_copy_90, zr_X_copy_92, zr_X_copy_95, zr_X_copy_98, zr_X_copy_100, zr_X_copy_101, zr_X_copy_101n, zr_X_copy_103, zr_X_copy_106, zr_X_copy_107, zr_X_copy_107n, zr_X_copy_109, zr_X_copy_112, zr_X_copy_114, zr_X_copy_116, zr_X_copy_119, zr_X_copy_121, h.cls, r1, q1, r2.cls, q2.cls, r2.f0, q2.f0, r2.f1, q2.f1, sR_hasAll _ _ _ r2, sR_hasAll _ _ _ q2, ha.1, ha.2, hcp, z_obs, z_pu_s, z_pu_n, z00, z10, ↓reduceIte, true_or, or_true, z_b_t, z_b_f]
              · rw [if_neg ha]
                refine ⟨G, ?_, h, XF.rf⟩
                cases h1 : haB sz i m
                · simp only [zr_X_copy_35, zr_X_copy_36, zr_X_copy_37, zr_X_copy_40, zr_X_copy_40n, zr_X_copy_42, zr_X_copy_43, zr_X_copy_44, zr_X_copy_47, zr_X_copy_47n, zr_X_copy_49, zr_X_copy_49n, zr_X_copy_51, zr_X_copy_51n, zr_X_copy_54, zr_X_copy_54n, zr_X_copy_56, zr_X_copy_56n, zr_X_copy_59, zr_X_copy_59n, zr_X_copy_61, zr_X_copy_64, zr_X_copy_64n, zr_X_copy_66, zr_X_copy_69, zr_X_copy_72, zr_X_copy_74, zr_X_copy_75, zr_X_copy_75n, zr_X_copy_77, zr_X_copy_78, zr_X_copy_80, zr_X_copy_83, zr_X_copy_86, zr_X_copy_86n, zr_X_copy_88, zr_X_copy_90, zr_X_copy_92, zr_X_copy_95, zr_X_copy_98, zr_X_copy_100, h.cls, r1, q1, r2.cls, q2.cls, r2.f0, q2.f0, sR_hasAll _ _ _ r2, h1, z_obs, z_pu_s, z_pu_n, z00, z10, ↓reduceIte, true_or, or_true, z_b_t, z_b_f]
                · cases h2 : haB sz' j m
                  · simp only [zr_X_copy_35, zr_X_copy_36, zr_X_copy_37, zr_X_copy_40, zr_X_copy_40n, zr_X_copy_42, zr_X_copy_43, zr_X_copy_44, zr_X_copy_47, zr_X_copy_47n, zr_X_copy_49, zr_X_copy_49n, zr_X_copy_51, zr_X_copy_51n, zr_X_copy_54, zr_X_copy_54n, zr_X_copy_56, zr_X_copy_56n, zr_X_copy_59, zr_X_copy_59n, zr_X_copy_61, zr_X_copy_64, zr_X_copy_64n, zr_X_copy_66, zr_X_copy_69, zr_X_copy_72, zr_X_copy_74, zr_X_copy_75, zr_X_copy_75n, zr_X_copy_77, zr_X_copy_78, zr_X_copy_80, zr_X_copy_83, zr_X_copy_86, zr_X_copy_86n, zr_X_copy_88, zr_X_copy_90, zr_X_copy_92, zr_X_copy_95, zr_X_copy_98, zr_X_copy_100, h.cls, r1, q1, r2.cls, q2.cls, r2.f0, q2.f0, sR_hasAll _ _ _ r2, sR_hasAll _ _ _ q2, h1, h2, z_obs, z_pu_s, z_pu_n, z00, z10, ↓reduceIte, true_or, or_true, z_b_t, z_b_f]
                  · exact absurd ⟨h1, h2⟩ ha
            · rw [if_neg hso]
              refine ⟨G, ?_, h, XF.rf⟩
              have c : (nI so = nI so') = False := eq_false (fun z => hso ((nI_eq (by omega) (by omega)).mp z))
              simp only [zr_X_copy_35, zr_X_copy_36, zr_X_copy_37, zr_X_copy_40, zr_X_copy_40n, zr_X_copy_42, zr_X_copy_43, zr_X_copy_44, zr_X_copy_47, zr_X_copy_47n, zr_X_copy_49, zr_X_copy_49n, zr_X_copy_51, zr_X_copy_51n, zr_X_copy_54, zr_X_copy_54n, zr_X_copy_56, zr_X_copy_56n, zr_X_copy_59, zr_X_copy_59n, zr_X_copy_61, zr_X_copy_64, zr_X_copy_64n, zr_X_copy_66, zr_X_copy_69, zr_X_copy_72, zr_X_copy_74, h.cls, r1, q1, r2.f0, q2.f0, c, z_obs, z_pu_s, z_pu_n, z00, z10, ↓reduceIte, true_or, or_true, z_b_t, z_b_f]
end
