/-! THE MODEL: rows made, put, told, copied -/
def elT (hs : Nat → Sh) (d i : Int32) : Int32 := if inR d 8 = true then (match hs (jN d) with
  | .inr (.inr (_, sz, _)) => if inR i sz = true then 0 else 2
  | _ => 2) else 1
def elV (hs : Nat → Sh) (d i : Int32) : Int64 := match hs (jN d) with
  | .inr (.inr (_, _, el)) => (el (jN i)).toInt64
  | _ => 0
def stQ (i j m k : Nat) : Nat := if j < i then k else m - 1 - k
theorem stQ_lt {i j m k : Nat} (h : k < m) : stQ i j m k < m := by unfold stQ; split <;> omega
theorem stQ_inj {i j m k k' : Nat} (h : k < m) (h' : k' < m) (e : stQ i j m k = stQ i j m k') : k = k' := by
  unfold stQ at e
  split at e <;> omega
theorem stQ_sur (i j : Nat) {m r : Nat} (h : r < m) : ∃ k, k < m ∧ stQ i j m k = r := by
  unfold stQ
  by_cases hh : j < i
  · exact ⟨r, h, by rw [if_pos hh]⟩
  · exact ⟨m - 1 - r, by omega, by rw [if_neg hh]; omega⟩
section
variable {E : z_E} {G G' : z_H} {a : Nat} {s u : Nat → Nat} {ib : Bool} {hs hs' : Nat → Sh} (lv N k : Nat)
theorem DW.fr (h : DW G a s ib u hs) {G2 : z_H} (e : G2 a = G a) (t f : Nat) : z_gf G2 a [0, 12, 12, t, f] = some (.ref (a + 1)) ∧ z_gf G2 a [17, 12, 12, t, f] = some (.ref (a + 12)) ∧ z_gf G2 a [18, 12, 12, t, f] = some (.ref (a + 13)) ∧ z_gf G2 a [19, 12, 12, t, f] = some (.ref (a + 14)) := by
  obtain ⟨q, eq⟩ := h.o
  have e2 : G2 a = some (.inl (12, dFs a (z_b ib) q)) := by rw [e]; exact eq
  exact ⟨z_gfI e2 (by decide) (by decide) rfl, z_gfI e2 (by decide) (by decide) rfl, z_gfI e2 (by decide) (by decide) rfl, z_gfI e2 (by decide) (by decide) rfl⟩
theorem dRow (h : DW G a s ib u hs) (d so m : Int32) : ∃ G', z_evM E i_D_row lv [.ref a, .int d, .int so, .int m] N k G = some (some (.int (aRow hs d so m).1), N, k, G') ∧ DW G' a s ib u (aRow hs d so m).2 ∧ FR a 15 G G' := by
  unfold aRow
  cases hd : inR d 8
  · refine ⟨G, ?_, by simpa using h, FR.rf⟩
    simp only [zm_D_row, zr_D_row_0, zr_D_row_1, zr_D_row_4, zr_D_row_7, zr_D_row_8, zr_D_row_9, zr_D_row_10, zr_D_row_13, zr_D_row_16, zr_D_row_17, zr_D_row_19, zr_D_row_22, zr_D_row_23, sD_isShelf, hd, z_obs, z_pu_s, z_pu_n, z00, z10, ↓reduceIte, true_or, or_true, z_b_t, z_b_f, Bool.false_eq_true, false_and]
  · cases hso : inR so 3
    · refine ⟨G, ?_, by simpa using h, FR.rf⟩
      simp only [zm_D_row, zr_D_row_0, zr_D_row_1, zr_D_row_4, zr_D_row_7, zr_D_row_8, zr_D_row_9, zr_D_row_10, zr_D_row_13, zr_D_row_16, zr_D_row_17, zr_D_row_19, zr_D_row_22, zr_D_row_23, sD_isShelf, hd, sD_isIn, il_3, hso, z_obs, z_pu_s, z_pu_n, z00, z10, ↓reduceIte, true_or, or_true, z_b_t, z_b_f, Bool.false_eq_true, false_and, and_false]
    · by_cases hm : m ≤ 100
      · by_cases hm0 : m < 0
        · have cm : ¬ (0 : Int32) ≤ m := Int32.not_le.mpr hm0
          simp only [hm, hm0, and_self, ↓reduceIte]
          refine ⟨G, ?_, h, FR.rf⟩
          simp only [zm_D_row, zr_D_row_0, zr_D_row_1, zr_D_row_4, zr_D_row_7, zr_D_row_8, zr_D_row_9, zr_D_row_10, zr_D_row_13, zr_D_row_16, zr_D_row_17, zr_D_row_19, zr_D_row_22, zr_D_row_23, zr_D_row_24, zr_D_row_25, zr_D_row_28, zr_D_row_30, sD_isShelf, hd, sD_isIn, il_3, hso, hm, cm, z_obs, z_pu_s, z_pu_n, z00, z10, ↓reduceIte, true_or, or_true, z_b_t, z_b_f]
        · have cm : (0 : Int32) ≤ m := Int32.not_lt.mp hm0
          simp only [hm, hm0, and_self, ↓reduceIte]
          obtain ⟨m, m1, rfl⟩ := nI_of hm0
          have m2 : m ≤ 100 := (nI_leI m1 (show 100 < 2 ^ 31 by omega)).mp hm
          obtain ⟨d, hd8, rfl⟩ := inR_of (by decide) hd
          obtain ⟨so, so3, rfl⟩ := inR_of (by decide) hso
          rw [jN_nI (show d < 2 ^ 31 by omega), jN_nI (show so < 2 ^ 31 by omega), jN_nI m1]
          obtain ⟨c, ⟨h1, h2, h3, h4, h5⟩, h6, h7⟩ := h.sh
          have p1 := z_piI (x := 2) h1 hd8 (show 8 < 2 ^ 31 by decide)
          have p2 := z_piI (x := nI so) (show z_up G (a + 9) (.inr (.int, 8, .inl (upd (c 9) d 2))) (a + 12) = some (.inr (.int, 8, .inl (c 12))) by rw [z_up_n _ _ (by omega)]; exact h4) hd8 (show 8 < 2 ^ 31 by decide)
          have p3 := z_piI (x := nI m) (show z_up (z_up G (a + 9) (.inr (.int, 8, .inl (upd (c 9) d 2)))) (a + 12) (.inr (.int, 8, .inl (upd (c 12) d (nI so)))) (a + 13) = some (.inr (.int, 8, .inl (c 13))) by rw [z_up_n _ _ (by omega), z_up_n _ _ (by omega)]; exact h5) hd8 (show 8 < 2 ^ 31 by decide)
          have q1 := (h.fr (G2 := z_up G (a + 9) (.inr (.int, 8, .inl (upd (c 9) d 2)))) (z_up_n _ _ (by omega)) 3 1).2.1
          have q2 := (h.fr (G2 := z_up (z_up G (a + 9) (.inr (.int, 8, .inl (upd (c 9) d 2)))) (a + 12) (.inr (.int, 8, .inl (upd (c 12) d (nI so))))) (by rw [z_up_n _ _ (by omega), z_up_n _ _ (by omega)]) 3 1).2.2.1
          generalize hG3 : z_up (z_up (z_up G (a + 9) (.inr (.int, 8, .inl (upd (c 9) d 2)))) (a + 12) (.inr (.int, 8, .inl (upd (c 12) d (nI so))))) (a + 13) (.inr (.int, 8, .inl (upd (c 13) d (nI m)))) = G3 at p3
          have g3 : ∀ q, q ≠ a + 9 → q ≠ a + 12 → q ≠ a + 13 → G3 q = G q := fun q e1 e2 e3 => by rw [← hG3, z_up_n _ _ e3, z_up_n _ _ e2, z_up_n _ _ e1]
          have g9 : G3 (a + 9) = some (.inr (.int, 8, .inl (upd (c 9) d 2))) := by rw [← hG3, z_up_n _ _ (by omega), z_up_n _ _ (by omega), z_up_s]
          have g12 : G3 (a + 12) = some (.inr (.int, 8, .inl (upd (c 12) d (nI so)))) := by rw [← hG3, z_up_n _ _ (by omega), z_up_s]
          have g13 : G3 (a + 13) = some (.inr (.int, 8, .inl (upd (c 13) d (nI m)))) := by rw [← hG3, z_up_s]
          obtain ⟨G4, _, e, P⟩ := z_loopG (fun i (_ : Unit) (_ : Unit) G => z_ev E i_D_row lv 55 [some (.ref a), some (.int (nI d)), some (.int (nI so)), some (.int (nI m)), some (.int (nI i))] [] N k G) (fun _ a => a) (fun i _ G' => FR (a + 14) 1 G3 G' ∧ ∃ f, G' (a + 14) = some (.inr (.int, 800, .inl f)) ∧ (∀ j, j < i → f (100 * d + j) = 0) ∧ ∀ x, (x < 100 * d ∨ 100 * d + 100 ≤ x) → f x = c 14 x) 100 (fun _ _ G => some (some (.int 0), N, k, G)) (fun _ _ G1 hP => by
            have c : nI 100 ≤ nI 100 := nI_le (Nat.le_refl _) (by omega)
            simp only [zr_D_row_55, zr_D_row_57, zr_D_row_59, zr_D_row_62, zr_D_row_63, zr_D_row_66, zr_D_row_68, zr_D_row_69, zr_D_row_70, zr_D_row_72, zr_D_row_73, zr_D_row_74, zr_D_row_75, zr_D_row_78, zr_D_row_81, zr_D_row_82, int_100, c, z_obs, z_pu_s, z_pu_n, z00, z10, ↓reduceIte, true_or, or_true, z_b_t, z_b_f]) (fun i _ _ G1 hi hP => by
            obtain ⟨e1, f, e2, e3, e4⟩ := hP
            have cc : ¬ nI 100 ≤ nI i := nI_ge hi (by omega)
            have q3 := (h.fr (G2 := G1) (by rw [e1 _ (by omega), g3 _ (by omega) (by omega) (by omega)]) 3 1).2.2.2
            have p4 := z_piI (x := 0) e2 (show 100 * d + i < 800 by omega) (show 800 < 2 ^ 31 by decide)
            refine ⟨z_up G1 (a + 14) (.inr (.int, 800, .inl (upd f (100 * d + i) 0))), (), ?_, e1.tr (fun x hx => z_up_n _ _ (by omega)), upd f (100 * d + i) 0, z_up_s _ _ _, fun j hj => ?_, fun x hx => ?_⟩
            · rw [zr_D_row_55]
              simp only [zr_D_row_57, zr_D_row_59, zr_D_row_62, zr_D_row_63, zr_D_row_66, zr_D_row_68, zr_D_row_69, zr_D_row_70, zr_D_row_72, zr_D_row_73, zr_D_row_74, zr_D_row_75, zr_D_row_78, int_100, cc, q3, pk_mul, nI_add, p4, z_obs, z_pu_s, z_pu_n, z00, z10, ↓reduceIte, true_or, or_true, z_b_t, z_b_f, nI_1]
            · by_cases ej : j = i
              · subst ej; exact pk_us
              · rw [pk_un (by omega)]; exact e3 j (by omega)
            · rw [pk_un (by omega)]; exact e4 x hx) 100 0 () () G3 (by omega) ⟨FR.rf, c 14, by rw [g3 _ (by omega) (by omega) (by omega)]; exact h6, fun j hj => absurd hj (Nat.not_lt_zero j), fun _ _ => rfl⟩
          obtain ⟨e1, f, e2, e3, e4⟩ := P
          refine ⟨G4, ?_, h.shelf (fun q q1 q2 => by rw [e1 q (by omega), g3 q (by omega) (by omega) (by omega)]) ⟨fun i => if i = 9 then upd (c 9) d 2 else if i = 12 then upd (c 12) d (nI so) else if i = 13 then upd (c 13) d (nI m) else if i = 14 then f else c i, ⟨?_, ?_, ?_, ?_, ?_⟩, ?_, fun j hj => ?_⟩, fun q hq => by rw [e1 q (by omega), g3 q (by omega) (by omega) (by omega)]⟩
          · simp only [zm_D_row, zr_D_row_0, zr_D_row_1, zr_D_row_4, zr_D_row_7, zr_D_row_8, zr_D_row_9, zr_D_row_10, zr_D_row_13, zr_D_row_16, zr_D_row_17, zr_D_row_19, zr_D_row_22, zr_D_row_23, zr_D_row_24, zr_D_row_25, zr_D_row_28, zr_D_row_30, zr_D_row_31, zr_D_row_32, zr_D_row_35, zr_D_row_36, zr_D_row_37, zr_D_row_38, zr_D_row_39, zr_D_row_42, zr_D_row_43, zr_D_row_44, zr_D_row_45, zr_D_row_46, zr_D_row_49, zr_D_row_50, zr_D_row_51, zr_D_row_52, zr_D_row_53, sD_isShelf, hd, sD_isIn, il_3, hso, hm, cm, h.f14, p1, q1, p2, q2, p3, z_obs, z_pu_s, z_pu_n, z00, z10, ↓reduceIte, true_or, or_true, z_b_t, z_b_f]
            exact e
          · rw [e1 _ (by omega), g9]; rfl
          · rw [e1 _ (by omega), g3 _ (by omega) (by omega) (by omega), h2]; rfl
          · rw [e1 _ (by omega), g3 _ (by omega) (by omega) (by omega), h3]; rfl
          · rw [e1 _ (by omega), g12]; rfl
          · rw [e1 _ (by omega), g13]; rfl
          · rw [e2]; rfl
          · by_cases ej : j = d
            · subst ej
              rw [upS_s]
              exact ⟨pk_us, pk_us, pk_us, so3, m2, fun i hi => e3 i (by omega)⟩
            · rw [upS_n _ _ ej]
              refine (h7 j hj).congr (fun i i1 i2 => ?_) (fun i hi => e4 (100 * j + i) (by omega))
              show (if i = 9 then upd (c 9) d 2 else if i = 12 then upd (c 12) d (nI so) else if i = 13 then upd (c 13) d (nI m) else if i = 14 then f else c i) j = c i j
              split
              · next e => subst e; exact pk_un ej
              · split
                · next e => subst e; exact pk_un ej
                · split
                  · next e => subst e; exact pk_un ej
                  · rw [if_neg (by omega)]
      · have cm : ¬ m ≤ 100 := hm
        simp only [hm, and_false, ↓reduceIte]
        refine ⟨G, ?_, h, FR.rf⟩
        simp only [zm_D_row, zr_D_row_0, zr_D_row_1, zr_D_row_4, zr_D_row_7, zr_D_row_8, zr_D_row_9, zr_D_row_10, zr_D_row_13, zr_D_row_16, zr_D_row_17, zr_D_row_19, zr_D_row_22, zr_D_row_23, sD_isShelf, hd, sD_isIn, il_3, hso, cm, z_obs, z_pu_s, z_pu_n, z00, z10, ↓reduceIte, true_or, or_true, z_b_t, z_b_f]
/-- a row's cells -/
theorem DW.ro (h : DW G a s ib u hs) {d so sz : Nat} {el : Nat → Int32} (hd : d < 8) (e : hs d = Sh.ro so sz el) : z_ai E G (a + 9) (nI d) = some 2 ∧ z_ai E G (a + 12) (nI d) = some (nI so) ∧ z_ai E G (a + 13) (nI d) = some (nI sz) ∧ so < 3 ∧ sz ≤ 100 ∧ ∀ i, i < sz → z_ai E G (a + 14) (nI (100 * d + i)) = some (el i) := by
  obtain ⟨c, ⟨h1, h2, h3, h4, h5⟩, h6, h7⟩ := h.sh
  have q := h7 d hd
  rw [e] at q
  obtain ⟨q1, q2, q3, q4, q5, q6⟩ := q
  exact ⟨by rw [z_aiI h1 hd (by decide), q1], by rw [z_aiI h4 hd (by decide), q2], by rw [z_aiI h5 hd (by decide), q3], q4, q5, fun i hi => by rw [z_aiI h6 (by omega) (by decide), q6 i hi]⟩
theorem dPut (h : DW G a s ib u hs) (d i v : Int32) : ∃ G', z_evM E i_D_put lv [.ref a, .int d, .int i, .int v] N k G = some (some (.int (aPut hs d i v).1), N, k, G') ∧ DW G' a s ib u (aPut hs d i v).2 ∧ FR a 15 G G' := by
  unfold aPut
  by_cases hl : lkR hs d ≠ 0
  · rw [if_pos hl]
    refine ⟨G, ?_, h, FR.rf⟩
    simp only [zm_D_put, zr_D_put_0, zr_D_put_1, zr_D_put_2, zr_D_put_3, zr_D_put_6, zr_D_put_8, zr_D_put_10, zr_D_put_13, zr_D_put_15, h.cls, sD_wrongRow _ _ _ h, hl, z_obs, z_pu_s, z_pu_n, z00, z10, ↓reduceIte, true_or, or_true, z_b_t, z_b_f]
  · rw [if_neg hl]
    have hl0 : lkR hs d = 0 := by simpa using hl
    obtain ⟨d, so, sz, el, hd, rfl, e⟩ := lkR_ro hl
    obtain ⟨r1, r2, r3, r4, r5, r6⟩ := h.ro (E := E) hd e
    rw [jN_nI (show d < 2 ^ 31 by omega), e]
    dsimp only
    cases hi : inR i sz
    · simp only [Bool.false_eq_true, ↓reduceIte]
      refine ⟨G, ?_, h, FR.rf⟩
      simp only [zm_D_put, zr_D_put_0, zr_D_put_1, zr_D_put_2, zr_D_put_3, zr_D_put_6, zr_D_put_8, zr_D_put_10, zr_D_put_13, zr_D_put_15, zr_D_put_16, zr_D_put_17, zr_D_put_18, zr_D_put_19, zr_D_put_22, zr_D_put_23, zr_D_put_24, zr_D_put_25, zr_D_put_26, zr_D_put_29, zr_D_put_32, zr_D_put_34, h.cls, sD_wrongRow _ _ _ h, hl0, h.f18, r3, sD_isIn, inL_m i (show sz < 2 ^ 31 by omega), hi, z_obs, z_pu_s, z_pu_n, z00, z10, ↓reduceIte, true_or, or_true, z_b_t, z_b_f]
    · simp only [↓reduceIte]
      obtain ⟨i, i1, rfl⟩ := inR_of (by omega) hi
      rw [jN_nI (show i < 2 ^ 31 by omega)]
      obtain ⟨c, ⟨h1, h2, h3, h4, h5⟩, h6, h7⟩ := h.sh
      have p1 := z_piI (x := cvI so v) h6 (show 100 * d + i < 800 by omega) (show 800 < 2 ^ 31 by decide)
      refine ⟨z_up G (a + 14) (.inr (.int, 800, .inl (upd (c 14) (100 * d + i) (cvI so v)))), ?_, h.shelf (fun q q1 q2 => z_up_n _ _ (by omega)) ⟨fun j => if j = 14 then upd (c 14) (100 * d + i) (cvI so v) else c j, ⟨?_, ?_, ?_, ?_, ?_⟩, z_up_s _ _ _, fun j hj => ?_⟩, fun q hq => z_up_n _ _ (by omega)⟩
      · have hc : so = 0 ∨ so = 1 ∨ so = 2 := by omega
        rcases hc with rfl | rfl | rfl
        · have ec : cvI 0 v = v.toInt8.toInt32 := rfl
          rw [ec] at p1
          simp only [zm_D_put, zr_D_put_0, zr_D_put_1, zr_D_put_2, zr_D_put_3, zr_D_put_6, zr_D_put_8, zr_D_put_10, zr_D_put_13, zr_D_put_15, zr_D_put_16, zr_D_put_17, zr_D_put_18, zr_D_put_19, zr_D_put_22, zr_D_put_23, zr_D_put_24, zr_D_put_25, zr_D_put_26, zr_D_put_29, zr_D_put_32, zr_D_put_34, zr_D_put_35, zr_D_put_36, zr_D_put_39, zr_D_put_41, zr_D_put_42, zr_D_put_43, zr_D_put_44, zr_D_put_45, zr_D_put_46, zr_D_put_49, zr_D_put_50, zr_D_put_51, zr_D_put_54, zr_D_put_55, zr_D_put_56, zr_D_put_59, zr_D_put_60, zr_D_put_63, zr_D_put_64, zr_D_put_65, zr_D_put_66, zr_D_put_69, zr_D_put_70, zr_D_put_71, zr_D_put_74, zr_D_put_75, zr_D_put_76, zr_D_put_77, h.cls, sD_wrongRow _ _ _ h, hl0, h.f17, h.f18, h.f19, r2, r3, sD_isIn, inL_m (nI i) (show sz < 2 ^ 31 by omega), hi, show (nI 0 = 0) = True from eq_true rfl, int_100, pk_mul, nI_add, p1, z_obs, z_pu_s, z_pu_n, z00, z10, ↓reduceIte, true_or, or_true, z_b_t, z_b_f]
          rfl
        · have ec : cvI 1 v = v.toInt16.toInt32 := rfl
          rw [ec] at p1
          simp only [zm_D_put, zr_D_put_0, zr_D_put_1, zr_D_put_2, zr_D_put_3, zr_D_put_6, zr_D_put_8, zr_D_put_10, zr_D_put_13, zr_D_put_15, zr_D_put_16, zr_D_put_17, zr_D_put_18, zr_D_put_19, zr_D_put_22, zr_D_put_23, zr_D_put_24, zr_D_put_25, zr_D_put_26, zr_D_put_29, zr_D_put_32, zr_D_put_34, zr_D_put_35, zr_D_put_36, zr_D_put_39, zr_D_put_41, zr_D_put_42, zr_D_put_43, zr_D_put_44, zr_D_put_45, zr_D_put_46, zr_D_put_49, zr_D_put_50, zr_D_put_51, zr_D_put_54, zr_D_put_55, zr_D_put_56, zr_D_put_59, zr_D_put_60, zr_D_put_63, zr_D_put_64, zr_D_put_65, zr_D_put_66, zr_D_put_69, zr_D_put_70, zr_D_put_71, zr_D_put_74, zr_D_put_75, zr_D_put_76, zr_D_put_77, h.cls, sD_wrongRow _ _ _ h, hl0, h.f17, h.f18, h.f19, r2, r3, sD_isIn, inL_m (nI i) (show sz < 2 ^ 31 by omega), hi, show (nI 1 = 0) = False from eq_false (by decide), show (nI 1 = 1) = True from eq_true rfl, int_100, pk_mul, nI_add, p1, z_obs, z_pu_s, z_pu_n, z00, z10, ↓reduceIte, true_or, or_true, z_b_t, z_b_f]
          rfl
        · have ec : cvI 2 v = v := rfl
          rw [ec] at p1
          simp only [zm_D_put, zr_D_put_0, zr_D_put_1, zr_D_put_2, zr_D_put_3, zr_D_put_6, zr_D_put_8, zr_D_put_10, zr_D_put_13, zr_D_put_15, zr_D_put_16, zr_D_put_17, zr_D_put_18, zr_D_put_19, zr_D_put_22, zr_D_put_23, zr_D_put_24, zr_D_put_25, zr_D_put_26, zr_D_put_29, zr_D_put_32, zr_D_put_34, zr_D_put_35, zr_D_put_36, zr_D_put_39, zr_D_put_41, zr_D_put_42, zr_D_put_43, zr_D_put_44, zr_D_put_45, zr_D_put_46, zr_D_put_49, zr_D_put_50, zr_D_put_51, zr_D_put_54, zr_D_put_55, zr_D_put_56, zr_D_put_59, zr_D_put_60, zr_D_put_63, zr_D_put_64, zr_D_put_65, zr_D_put_66, zr_D_put_69, zr_D_put_70, zr_D_put_71, zr_D_put_74, zr_D_put_75, zr_D_put_76, zr_D_put_77, h.cls, sD_wrongRow _ _ _ h, hl0, h.f17, h.f18, h.f19, r2, r3, sD_isIn, inL_m (nI i) (show sz < 2 ^ 31 by omega), hi, show (nI 2 = 0) = False from eq_false (by decide), show (nI 2 = 1) = False from eq_false (by decide), int_100, pk_mul, nI_add, p1, z_obs, z_pu_s, z_pu_n, z00, z10, ↓reduceIte, true_or, or_true, z_b_t, z_b_f]
          rfl
      · rw [z_up_n _ _ (by omega)]; exact h1
      · rw [z_up_n _ _ (by omega)]; exact h2
      · rw [z_up_n _ _ (by omega)]; exact h3
      · rw [z_up_n _ _ (by omega)]; exact h4
      · rw [z_up_n _ _ (by omega)]; exact h5
      · by_cases ej : j = d
        · subst ej
          have q := h7 j hj
          rw [e] at q
          obtain ⟨q1, q2, q3, q4, q5, q6⟩ := q
          rw [upS_s]
          refine ⟨q1, q2, q3, q4, q5, fun x hx => ?_⟩
          show upd (c 14) (100 * j + i) (cvI so v) (100 * j + x) = upd el i (cvI so v) x
          by_cases ex : x = i
          · subst ex; rw [pk_us, pk_us]
          · rw [pk_un (by omega), pk_un ex]; exact q6 x hx
        · rw [upS_n _ _ ej]
          refine (h7 j hj).congr (fun x x1 x2 => ?_) (fun x hx => ?_)
          · show (if x = 14 then _ else c x) j = c x j
            rw [if_neg (by omega)]
          · show upd (c 14) (100 * d + i) (cvI so v) (100 * j + x) = _
            rw [pk_un (by omega)]
theorem dElement (h : DW G a s ib u hs) (d i : Int32) : ∃ G', z_evM E i_D_element lv [.ref a, .int d, .int i] N k G = some (some (.long (if elT hs d i = 0 then elV hs d i else 0)), N, k, G') ∧ DW G' a s ib u hs ∧ FR a 15 G G' ∧ z_gf G' a [20, 12, 12, 0, 0] = some (.int (elT hs d i)) := by
  obtain ⟨q, hq⟩ := h.o
  have key : ∀ t : Int32, ∃ G', z_pf G a (.int t) false [20, 12, 12, 0, 0] = some G' ∧ DW G' a s ib u hs ∧ FR a 15 G G' ∧ z_gf G' a [20, 12, 12, 0, 0] = some (.int t) := fun t => ⟨_, DW.pf hq 20 (by omega) t, h.no, fun x hx => z_up_n _ _ (by omega), z_gfI (z_up_s _ _ _) (by decide) (by decide) rfl⟩
  cases hd : inR d 8
  · have e1 : elT hs d i = 1 := by unfold elT; rw [hd]; rfl
    rw [e1]
    obtain ⟨G', g1, g2, g3, g4⟩ := key 1
    refine ⟨G', ?_, g2, g3, g4⟩
    simp only [zm_D_element, zr_D_element_0, zr_D_element_1, zr_D_element_2, zr_D_element_5, zr_D_element_8, zr_D_element_9, zr_D_element_12, zr_D_element_13, zr_D_element_16, zr_D_element_17, zr_D_element_18, zr_D_element_19, zr_D_element_22, zr_D_element_23, zr_D_element_24, zr_D_element_25, zr_D_element_28, zr_D_element_29, zr_D_element_30, zr_D_element_31, zr_D_element_32, zr_D_element_35, zr_D_element_38, zr_D_element_39, zr_D_element_42, zr_D_element_43, zr_D_element_46, zr_D_element_47, zr_D_element_50, zr_D_element_53, zr_D_element_54, zr_D_element_57, zr_D_element_59, zr_D_element_60, zr_D_element_61, zr_D_element_62, zr_D_element_63, zr_D_element_64, zr_D_element_65, zr_D_element_68, zr_D_element_69, sD_isShelf, hd, g1, g4, show ¬ (1 : Int32) = 0 by decide, z_obs, z_pu_s, z_pu_n, z00, z10, ↓reduceIte, true_or, or_true, z_b_t, z_b_f]
  · obtain ⟨d, hd8, rfl⟩ := inR_of (by decide) hd
    have two : (∀ so sz el, hs d = Sh.ro so sz el → inR i sz = false) → ∃ c2, z_ai E G (a + 9) (nI d) = some c2 ∧ (c2 = 2 → ∃ so sz el, hs d = Sh.ro so sz el) := by
      intro _
      obtain ⟨c, ⟨h1, h2, h3, h4, h5⟩, h6, h7⟩ := h.sh
      refine ⟨c 9 d, z_aiI h1 hd8 (by decide), fun e2 => ?_⟩
      have qq := h7 d hd8
      rcases e : hs d with _ | ⟨kk, ff⟩ | ⟨so, sz, el⟩
      · rw [e] at qq
        have qq : c 9 d = 0 := qq
        rw [qq] at e2; exact absurd e2 (by decide)
      · rw [e] at qq
        rw [qq.1] at e2; exact absurd e2 (by decide)
      · exact ⟨so, sz, el, rfl⟩
    by_cases hr : ∃ so sz el, hs d = Sh.ro so sz el
    · obtain ⟨so, sz, el, e⟩ := hr
      obtain ⟨r1, r2, r3, r4, r5, r6⟩ := h.ro (E := E) hd8 e
      cases hi : inR i sz
      · have e1 : elT hs (nI d) i = 2 := by unfold elT; rw [hd, jN_nI (show d < 2 ^ 31 by omega), e]; simp only [hi, ↓reduceIte, Bool.false_eq_true]
        rw [e1]
        obtain ⟨G', g1, g2, g3, g4⟩ := key 2
        refine ⟨G', ?_, g2, g3, g4⟩
        simp only [zm_D_element, zr_D_element_0, zr_D_element_1, zr_D_element_2, zr_D_element_5, zr_D_element_8, zr_D_element_9, zr_D_element_12, zr_D_element_13, zr_D_element_16, zr_D_element_17, zr_D_element_18, zr_D_element_19, zr_D_element_22, zr_D_element_23, zr_D_element_24, zr_D_element_25, zr_D_element_28, zr_D_element_29, zr_D_element_30, zr_D_element_31, zr_D_element_32, zr_D_element_35, zr_D_element_38, zr_D_element_39, zr_D_element_42, zr_D_element_43, zr_D_element_46, zr_D_element_47, zr_D_element_50, zr_D_element_53, zr_D_element_54, zr_D_element_57, zr_D_element_59, zr_D_element_60, zr_D_element_61, zr_D_element_62, zr_D_element_63, zr_D_element_64, zr_D_element_65, zr_D_element_68, zr_D_element_69, sD_isShelf, hd, h.f14, r1, h.f18, r3, sD_isIn, inL_m i (show sz < 2 ^ 31 by omega), hi, g1, g4, show ¬ (2 : Int32) = 0 by decide, show ((2 : Int32) = 2) = True by simp, z_obs, z_pu_s, z_pu_n, z00, z10, ↓reduceIte, true_or, or_true, z_b_t, z_b_f]
      · have e1 : elT hs (nI d) i = 0 := by unfold elT; rw [hd, jN_nI (show d < 2 ^ 31 by omega), e]; simp only [hi, ↓reduceIte]
        rw [e1]
        obtain ⟨G', g1, g2, g3, g4⟩ := key 0
        refine ⟨G', ?_, g2, g3, g4⟩
        obtain ⟨i, i1, rfl⟩ := inR_of (by omega) hi
        have e2 : elV hs (nI d) (nI i) = (el i).toInt64 := by unfold elV; rw [jN_nI (show d < 2 ^ 31 by omega), jN_nI (show i < 2 ^ 31 by omega), e]
        rw [e2]
        have r7 := (g2.ro (E := E) hd8 e).2.2.2.2.2 i i1
        simp only [zm_D_element, zr_D_element_0, zr_D_element_1, zr_D_element_2, zr_D_element_5, zr_D_element_8, zr_D_element_9, zr_D_element_12, zr_D_element_13, zr_D_element_16, zr_D_element_17, zr_D_element_18, zr_D_element_19, zr_D_element_22, zr_D_element_23, zr_D_element_24, zr_D_element_25, zr_D_element_28, zr_D_element_29, zr_D_element_30, zr_D_element_31, zr_D_element_32, zr_D_element_35, zr_D_element_38, zr_D_element_39, zr_D_element_42, zr_D_element_43, zr_D_element_46, zr_D_element_47, zr_D_element_50, zr_D_element_53, zr_D_element_54, zr_D_element_57, zr_D_element_59, zr_D_element_60, zr_D_element_61, zr_D_element_62, zr_D_element_63, zr_D_element_64, zr_D_element_65, zr_D_element_68, zr_D_element_69, sD_isShelf, hd, h.f14, r1, h.f18, r3, sD_isIn, inL_m (nI i) (show sz < 2 ^ 31 by omega), hi, g1, g4, g2.f19, int_100, pk_mul, nI_add, r7, show ((2 : Int32) = 2) = True by simp, z_obs, z_pu_s, z_pu_n, z00, z10, ↓reduceIte, true_or, or_true, z_b_t, z_b_f]
    · obtain ⟨c2, r1, hc⟩ := two (fun so sz el e => absurd ⟨so, sz, el, e⟩ hr)
      have c2n : ¬ c2 = 2 := fun e => hr (hc e)
      have e1 : elT hs (nI d) i = 2 := by
        unfold elT
        rw [hd, jN_nI (show d < 2 ^ 31 by omega)]
        rcases e : hs d with _ | ⟨kk, ff⟩ | ⟨so, sz, el⟩
        · rfl
        · rfl
        · exact absurd ⟨so, sz, el, e⟩ hr
      rw [e1]
      obtain ⟨G', g1, g2, g3, g4⟩ := key 2
      refine ⟨G', ?_, g2, g3, g4⟩
      simp only [zm_D_element, zr_D_element_0, zr_D_element_1, zr_D_element_2, zr_D_element_5, zr_D_element_8, zr_D_element_9, zr_D_element_12, zr_D_element_13, zr_D_element_16, zr_D_element_17, zr_D_element_18, zr_D_element_19, zr_D_element_22, zr_D_element_23, zr_D_element_24, zr_D_element_25, zr_D_element_28, zr_D_element_29, zr_D_element_30, zr_D_element_31, zr_D_element_32, zr_D_element_35, zr_D_element_38, zr_D_element_39, zr_D_element_42, zr_D_element_43, zr_D_element_46, zr_D_element_47, zr_D_element_50, zr_D_element_53, zr_D_element_54, zr_D_element_57, zr_D_element_59, zr_D_element_60, zr_D_element_61, zr_D_element_62, zr_D_element_63, zr_D_element_64, zr_D_element_65, zr_D_element_68, zr_D_element_69, sD_isShelf, hd, h.f14, r1, c2n, g1, g4, show ¬ (2 : Int32) = 0 by decide, z_obs, z_pu_s, z_pu_n, z00, z10, ↓reduceIte, true_or, or_true, z_b_t, z_b_f]
theorem dThrown {t : Int32} (h : z_gf G a [20, 12, 12, 0, 0] = some (.int t)) : z_evM E i_D_thrown lv [.ref a] N k G = some (some (.int t), N, k, G) := by
  simp only [zm_D_thrown, zr_D_thrown_0, zr_D_thrown_1, zr_D_thrown_4, h, z_obs, z_pu_s, z_pu_n, z00, z10, ↓reduceIte, true_or, or_true, z_b_t, z_b_f]
end
