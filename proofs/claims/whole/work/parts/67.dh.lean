/-! THE MODEL: the busiest hour, who is alone, one door, who is nearest, what is judged -/
section
variable {E : z_E} {G : z_H} {a : Nat} {s u : Nat → Nat} {ib : Bool} {hs : Nat → Sh} (lv N k : Nat)
theorem sD_bitsH (w : WF s) (t : Nat) : z_evM E i_D_bits lv [.int (hmI s t)] N k G = some (some (.int (nI (pcn s t))), N, k, G) := by
  obtain ⟨v, v1, v2, v3, -⟩ := hmI_num w t
  rw [v2, v3]
  exact sD_bits lv N k G v1
def bzG (s : Nat → Nat) (h f : Nat) : Nat := if pcn s f < pcn s h then h else f
theorem bz_eq (s : Nat → Nat) : foldN (bzF s) 24 0 (0, 0) = (foldN (bzG s) 23 1 0, pcn s (foldN (bzG s) 23 1 0)) ∧ foldN (bzG s) 23 1 0 < 24 := by
  have h0 : bzF s 0 (0, 0) = (0, pcn s 0) := by
    unfold bzF
    by_cases h : 0 < pcn s 0
    · rw [if_pos h]
    · rw [if_neg h]; rw [show pcn s 0 = 0 by omega]
  have := foldN_sim (f := bzF s) (g := bzG s) (R := fun j p q => p = (q, pcn s q) ∧ q < j ∧ 1 ≤ j) 23 1 (0, pcn s 0) 0 ⟨rfl, by omega, by omega⟩ (by
    intro j p q h1 h2 ⟨r1, r2, r3⟩
    subst r1
    unfold bzF bzG
    dsimp only
    by_cases h : pcn s q < pcn s j
    · rw [if_pos h, if_pos h]; exact ⟨rfl, by omega, by omega⟩
    · rw [if_neg h, if_neg h]; exact ⟨rfl, by omega, by omega⟩)
  refine ⟨?_, this.2.1⟩
  show foldN (bzF s) 23 1 (bzF s 0 (0, 0)) = _
  rw [h0]
  exact this.1
theorem dBusiest (h : DW G a s ib u hs) (w : WF s) (y : Int32) : z_evM E i_D_busiest lv [.ref a, .int y] N k G = some (some (.int (aBusiest s y)), N, k, G) := by
  unfold aBusiest
  cases hy : is01 y
  · simp only [zm_D_busiest, zr_D_busiest_0, zr_D_busiest_1, zr_D_busiest_2, zr_D_busiest_3, zr_D_busiest_6, zr_D_busiest_9, zr_D_busiest_10, sD_isIn, il_01, hy, z_obs, z_pu_s, z_pu_n, z00, z10, ↓reduceIte, true_or, or_true, z_b_t, z_b_f, Bool.false_eq_true]
  · obtain ⟨b1, b2⟩ := bz_eq s
    rw [b1]
    simp only [zm_D_busiest, zr_D_busiest_0, zr_D_busiest_1, zr_D_busiest_2, zr_D_busiest_3, zr_D_busiest_6, zr_D_busiest_9, zr_D_busiest_10, zr_D_busiest_11, zr_D_busiest_12, zr_D_busiest_13, zr_D_busiest_14, sD_isIn, il_01, hy, z_obs, z_pu_s, z_pu_n, z00, z10, ↓reduceIte, true_or, or_true, z_b_t, z_b_f]
    refine z_loopP (fun i (acc : Nat) (_ : Unit) => z_ev E i_D_busiest lv 15 [some (.ref a), some (.int y), some (.int (nI acc)), some (.int (nI i))] [] N k G) (bzG s) (fun i acc => acc < 24) 24 (fun acc => some (some (.int (if y = 0 then nI acc else nI (pcn s acc))), N, k, G)) ?_ ?_ 23 1 0 () (by omega) (by omega)
    · intro acc _ hP
      have c : nI 24 ≤ nI 24 := nI_le (Nat.le_refl _) (by omega)
      by_cases h0 : y = 0
      · simp only [zr_D_busiest_15, zr_D_busiest_16, zr_D_busiest_18, zr_D_busiest_21, zr_D_busiest_22, zr_D_busiest_23, zr_D_busiest_26, zr_D_busiest_29, zr_D_busiest_30, zr_D_busiest_31, zr_D_busiest_34, zr_D_busiest_37, zr_D_busiest_40, zr_D_busiest_41, zr_D_busiest_42, zr_D_busiest_45, zr_D_busiest_48, zr_D_busiest_49, zr_D_busiest_52, zr_D_busiest_53, zr_D_busiest_56, zr_D_busiest_57, zr_D_busiest_58, zr_D_busiest_61, zr_D_busiest_64, int_24, c, z_obs, z_pu_s, z_pu_n, z00, z10, ↓reduceIte, true_or, or_true, z_b_t, z_b_f, h0]
      · simp only [zr_D_busiest_15, zr_D_busiest_16, zr_D_busiest_18, zr_D_busiest_21, zr_D_busiest_22, zr_D_busiest_23, zr_D_busiest_26, zr_D_busiest_29, zr_D_busiest_30, zr_D_busiest_31, zr_D_busiest_34, zr_D_busiest_37, zr_D_busiest_40, zr_D_busiest_41, zr_D_busiest_42, zr_D_busiest_45, zr_D_busiest_48, zr_D_busiest_49, zr_D_busiest_52, zr_D_busiest_53, zr_D_busiest_56, zr_D_busiest_57, zr_D_busiest_58, zr_D_busiest_61, zr_D_busiest_64, int_24, c, z_obs, z_pu_s, z_pu_n, z00, z10, ↓reduceIte, true_or, or_true, z_b_t, z_b_f, h0, h.cls, sD_homeAt' _ _ _ h w hP, sD_bitsH _ _ _ w]
    · intro i acc _ hi hP
      have c : ¬ nI 24 ≤ nI i := nI_ge hi (by omega)
      have p1 := pcn_le w i
      have p2 := pcn_le w acc
      unfold bzG
      rw [zr_D_busiest_15]
      by_cases hlt : pcn s acc < pcn s i
      · have q : ¬ nI (pcn s i) ≤ nI (pcn s acc) := nI_ge hlt (by omega)
        simp only [hlt, ↓reduceIte]
        refine ⟨hi, (), ?_⟩
        simp only [zr_D_busiest_16, zr_D_busiest_18, zr_D_busiest_21, zr_D_busiest_22, zr_D_busiest_23, zr_D_busiest_26, zr_D_busiest_29, zr_D_busiest_30, zr_D_busiest_31, zr_D_busiest_34, zr_D_busiest_37, zr_D_busiest_40, zr_D_busiest_41, zr_D_busiest_42, zr_D_busiest_45, int_24, c, h.cls, sD_homeAt' _ _ _ h w hi, sD_homeAt' _ _ _ h w hP, sD_bitsH _ _ _ w, q, z_obs, z_pu_s, z_pu_n, z00, z10, ↓reduceIte, true_or, or_true, z_b_t, z_b_f, nI_1]
      · have q : nI (pcn s i) ≤ nI (pcn s acc) := nI_le (by omega) (by omega)
        simp only [hlt, ↓reduceIte]
        refine ⟨hP, (), ?_⟩
        simp only [zr_D_busiest_16, zr_D_busiest_18, zr_D_busiest_21, zr_D_busiest_22, zr_D_busiest_23, zr_D_busiest_26, zr_D_busiest_29, zr_D_busiest_30, zr_D_busiest_31, zr_D_busiest_34, zr_D_busiest_37, zr_D_busiest_40, zr_D_busiest_41, zr_D_busiest_42, zr_D_busiest_45, int_24, c, h.cls, sD_homeAt' _ _ _ h w hi, sD_homeAt' _ _ _ h w hP, sD_bitsH _ _ _ w, q, z_obs, z_pu_s, z_pu_n, z00, z10, ↓reduceIte, true_or, or_true, z_b_t, z_b_f, nI_1]
theorem dAlone (h : DW G a s ib u hs) (w : WF s) : z_evM E i_D_alone lv [.ref a] N k G = some (some (.int (aAlone s)), N, k, G) := by
  unfold aAlone
  simp only [zm_D_alone, zr_D_alone_0, zr_D_alone_1, zr_D_alone_2, zr_D_alone_3]
  refine z_loop (fun i (acc : Int32) => z_ev E i_D_alone lv 4 [some (.ref a), some (.int acc), some (.int (nI i))] [] N k G) (fun h acc => if pcn s h = 1 then acc ||| hmI s h else acc) 24 (fun acc => some (some (.int acc), N, k, G)) ?_ ?_ 24 0 0 (by omega)
  · intro acc
    have c : nI 24 ≤ nI 24 := nI_le (Nat.le_refl _) (by omega)
    simp only [zr_D_alone_0, zr_D_alone_1, zr_D_alone_2, zr_D_alone_3, zr_D_alone_4, zr_D_alone_5, zr_D_alone_7, zr_D_alone_10, zr_D_alone_11, zr_D_alone_12, zr_D_alone_13, zr_D_alone_16, zr_D_alone_19, zr_D_alone_20, zr_D_alone_23, zr_D_alone_24, zr_D_alone_25, zr_D_alone_28, zr_D_alone_31, zr_D_alone_32, zr_D_alone_33, zr_D_alone_34, zr_D_alone_37, zr_D_alone_40, zr_D_alone_41, int_24, c, z_obs, z_pu_s, z_pu_n, z00, z10, ↓reduceIte, true_or, or_true, z_b_t, z_b_f]
  · intro i acc hi
    have c : ¬ nI 24 ≤ nI i := nI_ge hi (by omega)
    have hle := pcn_le w i
    rw [zr_D_alone_4]
    by_cases h1 : pcn s i = 1
    · simp only [zr_D_alone_0, zr_D_alone_1, zr_D_alone_2, zr_D_alone_3, zr_D_alone_5, zr_D_alone_7, zr_D_alone_10, zr_D_alone_11, zr_D_alone_12, zr_D_alone_13, zr_D_alone_16, zr_D_alone_19, zr_D_alone_20, zr_D_alone_23, zr_D_alone_24, zr_D_alone_25, zr_D_alone_28, zr_D_alone_31, zr_D_alone_32, zr_D_alone_33, zr_D_alone_34, zr_D_alone_37, zr_D_alone_40, zr_D_alone_41, int_24, c, h.cls, sD_homeAt' _ _ _ h w hi, sD_bitsH _ _ _ w, h1, show (nI 1 = (1 : Int32)) = True from eq_true rfl, z_obs, z_pu_s, z_pu_n, z00, z10, ↓reduceIte, true_or, or_true, z_b_t, z_b_f, nI_1]
    · have q : ¬ nI (pcn s i) = 1 := fun z => h1 ((nI_eq (b := 1) (by omega) (by omega)).mp z)
      simp only [zr_D_alone_0, zr_D_alone_1, zr_D_alone_2, zr_D_alone_3, zr_D_alone_5, zr_D_alone_7, zr_D_alone_10, zr_D_alone_11, zr_D_alone_12, zr_D_alone_13, zr_D_alone_16, zr_D_alone_19, zr_D_alone_20, zr_D_alone_23, zr_D_alone_24, zr_D_alone_25, zr_D_alone_28, zr_D_alone_31, zr_D_alone_32, zr_D_alone_33, zr_D_alone_34, zr_D_alone_37, zr_D_alone_40, zr_D_alone_41, int_24, c, h.cls, sD_homeAt' _ _ _ h w hi, sD_bitsH _ _ _ w, h1, q, z_obs, z_pu_s, z_pu_n, z00, z10, ↓reduceIte, true_or, or_true, z_b_t, z_b_f, nI_1, Int32.or_zero]
theorem dOneDoor (h : DW G a s ib u hs) (w : WF s) (y : Int32) : z_evM E i_D_oneDoor lv [.ref a, .int y] N k G = some (some (.int (aOneDoor s y)), N, k, G) := by
  have w1 := w.1
  unfold aOneDoor
  cases hy : is01 y
  · simp only [zm_D_oneDoor, zr_D_oneDoor_0, zr_D_oneDoor_1, zr_D_oneDoor_2, zr_D_oneDoor_3, zr_D_oneDoor_6, zr_D_oneDoor_9, zr_D_oneDoor_10, sD_isIn, il_01, hy, z_obs, z_pu_s, z_pu_n, z00, z10, ↓reduceIte, true_or, or_true, z_b_t, z_b_f, Bool.false_eq_true]
  · simp only [zm_D_oneDoor, zr_D_oneDoor_0, zr_D_oneDoor_1, zr_D_oneDoor_2, zr_D_oneDoor_3, zr_D_oneDoor_6, zr_D_oneDoor_9, zr_D_oneDoor_10, zr_D_oneDoor_11, zr_D_oneDoor_12, zr_D_oneDoor_13, zr_D_oneDoor_15, zr_D_oneDoor_16, zr_D_oneDoor_17, sD_isIn, il_01, hy, z_obs, z_pu_s, z_pu_n, z00, z10, ↓reduceIte, true_or, or_true, z_b_t, z_b_f]
    have stepP : ∀ i j, i < s 0 → j < s 0 → ∀ acc : Nat × Option Nat, ((acc.1 = 0 ↔ acc.2 = none) ∧ acc.1 ≤ 6 * i + j) → (((odI s i j acc).1 = 0 ↔ (odI s i j acc).2 = none) ∧ (odI s i j acc).1 ≤ 6 * i + (j + 1)) := by
      intro i j hi hj acc ⟨h1, h2⟩
      unfold odI
      split
      · dsimp only
        refine ⟨⟨fun z => by omega, fun z => ?_⟩, by omega⟩
        split at z
        · cases z
        · next q => exact absurd z q
      · exact ⟨h1, by omega⟩
    refine z_loopP (fun i (acc : Nat × Option Nat) (jk : Option Value) => z_ev E i_D_oneDoor lv 19 [some (.ref a), some (.int y), some (.int (nI acc.1)), some (.int (oI acc.2)), some (.int (nI i)), jk] [] N k G) (odO s) (fun i acc => (acc.1 = 0 ↔ acc.2 = none) ∧ acc.1 ≤ 6 * i) (s 0) (fun acc => some (some (.int (if y = 0 then nI acc.1 else oI acc.2)), N, k, G)) ?_ ?_ (s 0) 0 (0, none) none (by omega) ⟨⟨fun _ => rfl, fun _ => rfl⟩, by omega⟩ |>.trans ?_
    · intro acc jk _
      have c : nI (s 0) ≤ nI (s 0) := nI_le (Nat.le_refl _) (by omega)
      by_cases h0 : y = 0
      · simp only [zr_D_oneDoor_19, zr_D_oneDoor_21, zr_D_oneDoor_22, zr_D_oneDoor_25, zr_D_oneDoor_26, zr_D_oneDoor_27, zr_D_oneDoor_139, zr_D_oneDoor_140, zr_D_oneDoor_143, zr_D_oneDoor_144, zr_D_oneDoor_147, zr_D_oneDoor_148, h.f0, h.st.r0, c, z_obs, z_pu_s, z_pu_n, z00, z10, ↓reduceIte, true_or, or_true, z_b_t, z_b_f, h0]
      · simp only [zr_D_oneDoor_19, zr_D_oneDoor_21, zr_D_oneDoor_22, zr_D_oneDoor_25, zr_D_oneDoor_26, zr_D_oneDoor_27, zr_D_oneDoor_139, zr_D_oneDoor_140, zr_D_oneDoor_143, zr_D_oneDoor_144, zr_D_oneDoor_147, zr_D_oneDoor_148, h.f0, h.st.r0, c, z_obs, z_pu_s, z_pu_n, z00, z10, ↓reduceIte, true_or, or_true, z_b_t, z_b_f, h0]
    · intro i acc jk hi hP
      have c : ¬ nI (s 0) ≤ nI i := nI_ge hi (by omega)
      have hin : ∀ m j b, j + m = s 0 → i < j → ((b.1 = 0 ↔ b.2 = none) ∧ b.1 ≤ 6 * i + j) → (((foldN (odI s i) m j b).1 = 0 ↔ (foldN (odI s i) m j b).2 = none) ∧ (foldN (odI s i) m j b).1 ≤ 6 * i + s 0) := by
        intro m
        induction m with
        | zero => intro j b hj _ hb; exact ⟨hb.1, by have := hb.2; show b.1 ≤ _; omega⟩
        | succ m ih => intro j b hj hij hb; exact ih (j + 1) _ (by omega) (by omega) (stepP i j hi (by omega) b hb)
      have hO := hin (s 0 - (i + 1)) (i + 1) acc (by omega) (by omega) ⟨hP.1, by omega⟩
      refine ⟨⟨hO.1, ?_⟩, some (.int (nI (s 0))), ?_⟩
      · have h2 := hO.2
        show (foldN (odI s i) (s 0 - (i + 1)) (i + 1) acc).1 ≤ _
        omega
      rw [zr_D_oneDoor_19]
      simp only [zr_D_oneDoor_21, zr_D_oneDoor_22, zr_D_oneDoor_25, zr_D_oneDoor_26, zr_D_oneDoor_27, zr_D_oneDoor_30, zr_D_oneDoor_32, zr_D_oneDoor_33, zr_D_oneDoor_34, h.f0, h.st.r0, c, z_obs, z_pu_s, z_pu_n, z00, z10, ↓reduceIte, true_or, or_true, z_b_t, z_b_f, nI_1]
      refine z_loopP (fun j (acc : Nat × Option Nat) (_ : Unit) => z_ev E i_D_oneDoor lv 36 [some (.ref a), some (.int y), some (.int (nI acc.1)), some (.int (oI acc.2)), some (.int (nI i)), some (.int (nI j))] [] N k G) (odI s i) (fun j acc => i < j ∧ (acc.1 = 0 ↔ acc.2 = none) ∧ acc.1 ≤ 6 * i + j) (s 0) (fun acc => z_ev E i_D_oneDoor lv 19 [some (.ref a), some (.int y), some (.int (nI acc.1)), some (.int (oI acc.2)), some (.int (nI (i + 1))), some (.int (nI (s 0)))] [] N k G) ?_ ?_ (s 0 - (i + 1)) (i + 1) acc () (by omega) ⟨by omega, hP.1, by omega⟩
      · intro acc _ _
        have c : nI (s 0) ≤ nI (s 0) := nI_le (Nat.le_refl _) (by omega)
        simp only [zr_D_oneDoor_36, zr_D_oneDoor_38, zr_D_oneDoor_39, zr_D_oneDoor_42, zr_D_oneDoor_43, zr_D_oneDoor_44, zr_D_oneDoor_133, zr_D_oneDoor_136, h.f0, h.st.r0, c, z_obs, z_pu_s, z_pu_n, z00, z10, ↓reduceIte, true_or, or_true, z_b_t, z_b_f, nI_1]
      · intro j acc _ hj ⟨hij, hQ⟩
        have c : ¬ nI (s 0) ≤ nI j := nI_ge hj (by omega)
        have ki := w.2.2.2 i hi
        have kj := w.2.2.2 j hj
        have vi := wt_le _ ki.1 _ ki.2.1
        have vj := wt_le _ kj.1 _ kj.2.1
        have vi1 : sW s i ≤ 10 := vi.2.1
        have vj1 : sW s j ≤ 10 := vj.2.1
        have vi2 : sS s i ≤ 25 := vi.2.2
        have vj2 : sS s j ≤ 25 := vj.2.2
        have e1 : (nI (sW s i) = nI (sW s j)) = (sW s i = sW s j) := nI_eqI' (by omega) (by omega)
        have e2 : (nI (sS s i) = nI (sS s j)) = (sS s i = sS s j) := nI_eqI' (by omega) (by omega)
        have e3 : (nI acc.1 = 0) = (acc.1 = 0) := nI_eqI' (b := 0) (by have := hQ.2; omega) (by omega)
        refine ⟨⟨by omega, stepP i j hi hj acc hQ⟩, (), ?_⟩
        have pre : z_ev E i_D_oneDoor lv 36 [some (.ref a), some (.int y), some (.int (nI acc.1)), some (.int (oI acc.2)), some (.int (nI i)), some (.int (nI j))] [] N k G = if dOb s i j = true then (if acc.1 = 0 then z_ev E i_D_oneDoor lv 123 [some (.ref a), some (.int y), some (.int (nI acc.1)), some (.int (oI acc.2)), some (.int (nI i)), some (.int (nI j))] [.int (nI (10 * i + j))] N k G else z_ev E i_D_oneDoor lv 123 [some (.ref a), some (.int y), some (.int (nI acc.1)), some (.int (oI acc.2)), some (.int (nI i)), some (.int (nI j))] [.int (oI acc.2)] N k G) else z_ev E i_D_oneDoor lv 127 [some (.ref a), some (.int y), some (.int (nI acc.1)), some (.int (oI acc.2)), some (.int (nI i)), some (.int (nI j))] [] N k G := by
          simp only [zr_D_oneDoor_36, zr_D_oneDoor_38, zr_D_oneDoor_39, zr_D_oneDoor_42, zr_D_oneDoor_43, zr_D_oneDoor_44, zr_D_oneDoor_47, zr_D_oneDoor_48, zr_D_oneDoor_50, zr_D_oneDoor_53, zr_D_oneDoor_54, zr_D_oneDoor_56, zr_D_oneDoor_59, zr_D_oneDoor_62, zr_D_oneDoor_63, zr_D_oneDoor_66, zr_D_oneDoor_68, zr_D_oneDoor_71, zr_D_oneDoor_72, zr_D_oneDoor_75, zr_D_oneDoor_77, zr_D_oneDoor_80, zr_D_oneDoor_83, zr_D_oneDoor_84, zr_D_oneDoor_87, zr_D_oneDoor_89, zr_D_oneDoor_92, zr_D_oneDoor_93, zr_D_oneDoor_96, zr_D_oneDoor_98, zr_D_oneDoor_101, zr_D_oneDoor_104, zr_D_oneDoor_107, zr_D_oneDoor_108, zr_D_oneDoor_111, zr_D_oneDoor_113, zr_D_oneDoor_115, zr_D_oneDoor_116, zr_D_oneDoor_118, zr_D_oneDoor_119, zr_D_oneDoor_122, h.f0, h.st.r0, h.cls, c, sD_hoursHome _ _ _ h w hi, sD_hoursHome _ _ _ h w hj, sD_wantsOf _ _ _ h.st w hi, sD_wantsOf _ _ _ h.st w hj, sD_stepsOf _ _ _ h.st w hi, sD_stepsOf _ _ _ h.st w hj, e1, e2, e3, int_10, pk_mul, nI_add, z_obs, z_pu_s, z_pu_n, z00, z10, ↓reduceIte, true_or, or_true, z_b_t, z_b_f]
          unfold dOb
          by_cases g1 : hb (sK s i) (sF s i) = hb (sK s j) (sF s j) <;> by_cases g2 : sW s i = sW s j <;> by_cases g3 : sS s i = sS s j <;> simp [g1, g2, g3]
        rw [pre]
        unfold odI
        cases hd : dOb s i j
        · simp only [Bool.false_eq_true, ↓reduceIte, zr_D_oneDoor_127, zr_D_oneDoor_130, nI_1]
        · by_cases h2 : acc.2 = none
          · have z1 := hQ.1.mpr h2
            simp only [↓reduceIte, h2, z1, zr_D_oneDoor_123, zr_D_oneDoor_124, zr_D_oneDoor_127, zr_D_oneDoor_130, nI_1, oI]
          · have z1 : ¬ acc.1 = 0 := fun z => h2 (hQ.1.mp z)
            simp only [↓reduceIte, h2, z1, zr_D_oneDoor_123, zr_D_oneDoor_124, zr_D_oneDoor_127, zr_D_oneDoor_130, nI_1]
    · by_cases h0 : y = 0 <;> simp [h0]
theorem sD_far (p q : Nat) (hp : p < 2 ^ 31) (hq : q < 2 ^ 31) : z_evM E i_D_far lv [.int (nI p), .int (nI q)] N k G = some (some (.int (nI (if p ≤ q then q - p else p - q))), N, k, G) := by
  by_cases h : p ≤ q
  · have c : nI p ≤ nI q := nI_le h hq
    simp only [zm_D_far, zr_D_far_0, zr_D_far_1, zr_D_far_2, zr_D_far_5, zr_D_far_6, zr_D_far_7, zr_D_far_8, zr_D_far_11, zr_D_far_12, zr_D_far_13, zr_D_far_14, c, z_obs, z_pu_s, z_pu_n, z00, z10, ↓reduceIte, true_or, or_true, z_b_t, z_b_f, pk_sub h, h]
  · have c : ¬ nI p ≤ nI q := nI_ge (by omega) hp
    simp only [zm_D_far, zr_D_far_0, zr_D_far_1, zr_D_far_2, zr_D_far_5, zr_D_far_6, zr_D_far_7, zr_D_far_8, zr_D_far_11, zr_D_far_12, zr_D_far_13, zr_D_far_14, c, z_obs, z_pu_s, z_pu_n, z00, z10, ↓reduceIte, true_or, or_true, z_b_t, z_b_f, pk_sub (show q ≤ p by omega), h]
theorem dNearest (h : DW G a s ib u hs) (w : WF s) (p y : Int32) : z_evM E i_D_nearest lv [.ref a, .int p, .int y] N k G = some (some (.int (aNearest s p y)), N, k, G) := by
  have w1 := w.1
  unfold aNearest
  cases hp : inR p 31
  · simp only [zm_D_nearest, zr_D_nearest_0, zr_D_nearest_1, zr_D_nearest_4, zr_D_nearest_7, zr_D_nearest_8, zr_D_nearest_9, zr_D_nearest_10, zr_D_nearest_13, zr_D_nearest_16, zr_D_nearest_17, sD_isPlace, hp, z_obs, z_pu_s, z_pu_n, z00, z10, ↓reduceIte, true_or, or_true, z_b_t, z_b_f, Bool.false_eq_true, false_and]
  · cases hy : is01 y
    · simp only [zm_D_nearest, zr_D_nearest_0, zr_D_nearest_1, zr_D_nearest_4, zr_D_nearest_7, zr_D_nearest_8, zr_D_nearest_9, zr_D_nearest_10, zr_D_nearest_13, zr_D_nearest_16, zr_D_nearest_17, sD_isPlace, hp, sD_isIn, il_01, hy, z_obs, z_pu_s, z_pu_n, z00, z10, ↓reduceIte, true_or, or_true, z_b_t, z_b_f, Bool.false_eq_true, and_false]
    · obtain ⟨p, hp', rfl⟩ := inR_of (by decide) hp
      rw [jN_nI (by omega)]
      simp only [zm_D_nearest, zr_D_nearest_0, zr_D_nearest_1, zr_D_nearest_4, zr_D_nearest_7, zr_D_nearest_8, zr_D_nearest_9, zr_D_nearest_10, zr_D_nearest_13, zr_D_nearest_16, zr_D_nearest_17, zr_D_nearest_18, zr_D_nearest_20, zr_D_nearest_21, zr_D_nearest_23, zr_D_nearest_25, zr_D_nearest_26, sD_isPlace, hp, sD_isIn, il_01, hy, z_obs, z_pu_s, z_pu_n, z00, z10, ↓reduceIte, true_or, or_true, z_b_t, z_b_f, and_self]
      have hsim := foldN_sim (f := neF s p) (g := neF s p) (R := fun _ (q r : Option Nat × Nat) => q = r ∨ (q.1 = r.1 ∧ r.1 = none ∧ q.2 = 1000000000 ∧ r.2 = 31)) (s 0) 0 (none, 1000000000) (none, 31) (Or.inr ⟨rfl, rfl, rfl, rfl⟩) (by
        intro j q r _ hj hR
        have hP3 := (w.2.2.2 j (by omega)).2.2.1
        have hfa : faN s j p < 31 := by unfold faN; split <;> omega
        rcases hR with rfl | ⟨r1, r2, r3, r4⟩
        · exact Or.inl rfl
        · unfold neF
          rw [if_pos (by omega), if_pos (by omega)]
          exact Or.inl rfl)
      have he : ∀ q r : Option Nat × Nat, (q = r ∨ (q.1 = r.1 ∧ r.1 = none ∧ q.2 = 1000000000 ∧ r.2 = 31)) → (if q.1 = none ∨ y = 0 then oI q.1 else nI q.2) = (if r.1 = none ∨ y = 0 then oI r.1 else nI r.2) := by
        intro q r hR
        rcases hR with rfl | ⟨r1, r2, r3, r4⟩
        · rfl
        · rw [r1, if_pos (Or.inl r2), if_pos (Or.inl r2)]
      rw [← he _ _ hsim]
      refine z_loopP (fun i (acc : Option Nat × Nat) (jk : Option Value) => z_ev E i_D_nearest lv 28 [some (.ref a), some (.int (nI p)), some (.int y), some (.int (oI acc.1)), some (.int (nI acc.2)), some (.int (nI i)), jk] [] N k G) (neF s p) (fun i acc => acc.2 ≤ 1000000000 ∧ ∀ v, acc.1 = some v → v < 2 ^ 31) (s 0) (fun acc => some (some (.int (if acc.1 = none ∨ y = 0 then oI acc.1 else nI acc.2)), N, k, G)) ?_ ?_ (s 0) 0 (none, 1000000000) none (by omega) ⟨Nat.le_refl _, fun v hv => by cases hv⟩
      · intro acc jk ⟨_, hQ⟩
        have c : nI (s 0) ≤ nI (s 0) := nI_le (Nat.le_refl _) (by omega)
        rcases hn : acc.1 with _ | v
        · simp only [zr_D_nearest_28, zr_D_nearest_30, zr_D_nearest_31, zr_D_nearest_34, zr_D_nearest_35, zr_D_nearest_36, zr_D_nearest_79, zr_D_nearest_80, zr_D_nearest_83, zr_D_nearest_84, zr_D_nearest_87, zr_D_nearest_88, zr_D_nearest_91, zr_D_nearest_93, h.f0, h.st.r0, c, oI, show ((-4 : Int32) < 0) = True from eq_true (by decide), z_obs, z_pu_s, z_pu_n, z00, z10, ↓reduceIte, true_or, or_true, z_b_t, z_b_f]
        · have hv := hQ v hn
          have cv : ¬ nI v < 0 := nI_pos hv
          by_cases h0 : y = 0
          · simp only [zr_D_nearest_28, zr_D_nearest_30, zr_D_nearest_31, zr_D_nearest_34, zr_D_nearest_35, zr_D_nearest_36, zr_D_nearest_79, zr_D_nearest_80, zr_D_nearest_83, zr_D_nearest_84, zr_D_nearest_87, zr_D_nearest_88, zr_D_nearest_91, zr_D_nearest_93, h.f0, h.st.r0, c, oI, cv, h0, z_obs, z_pu_s, z_pu_n, z00, z10, ↓reduceIte, true_or, or_true, z_b_t, z_b_f]
          · simp only [zr_D_nearest_28, zr_D_nearest_30, zr_D_nearest_31, zr_D_nearest_34, zr_D_nearest_35, zr_D_nearest_36, zr_D_nearest_79, zr_D_nearest_80, zr_D_nearest_83, zr_D_nearest_84, zr_D_nearest_87, zr_D_nearest_88, zr_D_nearest_91, zr_D_nearest_93, h.f0, h.st.r0, c, oI, cv, h0, z_obs, z_pu_s, z_pu_n, z00, z10, ↓reduceIte, true_or, or_true, z_b_t, z_b_f, reduceCtorEq, or_self]
      · intro i acc jk hi ⟨hP, hQ⟩
        have c : ¬ nI (s 0) ≤ nI i := nI_ge hi (by omega)
        have hi6 : i < 6 := by omega
        have hP3 := (w.2.2.2 i hi).2.2.1
        have hf := sD_far (E := E) (G := G) 0 N k p (sP s i) (by omega) (by omega)
        change z_evM E i_D_far 0 [.int (nI p), .int (nI (sP s i))] N k G = some (some (.int (nI (faN s i p))), N, k, G) at hf
        have hfa : faN s i p < 31 := by unfold faN; split <;> omega
        unfold neF
        rw [zr_D_nearest_28]
        by_cases hlt : faN s i p < acc.2
        · have q : nI (faN s i p) < nI acc.2 := nI_lt hlt (by omega)
          simp only [hlt, ↓reduceIte]
          refine ⟨⟨by omega, fun v hv => by injection hv with hv; omega⟩, some (.int (nI (faN s i p))), ?_⟩
          simp only [zr_D_nearest_30, zr_D_nearest_31, zr_D_nearest_34, zr_D_nearest_35, zr_D_nearest_36, zr_D_nearest_39, zr_D_nearest_40, zr_D_nearest_41, zr_D_nearest_44, zr_D_nearest_46, zr_D_nearest_47, zr_D_nearest_50, zr_D_nearest_51, zr_D_nearest_54, zr_D_nearest_56, zr_D_nearest_58, zr_D_nearest_60, zr_D_nearest_63, zr_D_nearest_66, zr_D_nearest_68, zr_D_nearest_69, zr_D_nearest_71, zr_D_nearest_73, zr_D_nearest_76, h.f0, h.st.r0, c, sD_of2, h.st.k2 hi6, hf, q, z_obs, z_pu_s, z_pu_n, z00, z10, ↓reduceIte, true_or, or_true, z_b_t, z_b_f, nI_1, oI]
        · have q : ¬ nI (faN s i p) < nI acc.2 := nI_nlt (by omega) (by omega)
          simp only [hlt, ↓reduceIte]
          refine ⟨⟨hP, hQ⟩, some (.int (nI (faN s i p))), ?_⟩
          simp only [zr_D_nearest_30, zr_D_nearest_31, zr_D_nearest_34, zr_D_nearest_35, zr_D_nearest_36, zr_D_nearest_39, zr_D_nearest_40, zr_D_nearest_41, zr_D_nearest_44, zr_D_nearest_46, zr_D_nearest_47, zr_D_nearest_50, zr_D_nearest_51, zr_D_nearest_54, zr_D_nearest_56, zr_D_nearest_58, zr_D_nearest_60, zr_D_nearest_63, zr_D_nearest_66, zr_D_nearest_68, zr_D_nearest_69, zr_D_nearest_71, zr_D_nearest_73, zr_D_nearest_76, h.f0, h.st.r0, c, sD_of2, h.st.k2 hi6, hf, q, z_obs, z_pu_s, z_pu_n, z00, z10, ↓reduceIte, true_or, or_true, z_b_t, z_b_f, nI_1]
theorem sD_leastOf {so : Nat} (hso : so < 3) : z_evM E i_D_leastOf lv [.int (nI so)] N k G = some (some (.int (lstI so)), N, k, G) := by
  have : so = 0 ∨ so = 1 ∨ so = 2 := by omega
  rcases this with rfl | rfl | rfl
  · simp only [zm_D_leastOf, zr_D_leastOf_0, zr_D_leastOf_1, zr_D_leastOf_4, zr_D_leastOf_6, zr_D_leastOf_9, zr_D_leastOf_10, zr_D_leastOf_11, zr_D_leastOf_14, zr_D_leastOf_17, zr_D_leastOf_20, zr_D_leastOf_22, z_obs, z_pu_s, z_pu_n, z00, z10, ↓reduceIte, true_or, or_true, z_b_t, z_b_f, show (nI 0 = 0) = True from eq_true rfl]; rfl
  · simp only [zm_D_leastOf, zr_D_leastOf_0, zr_D_leastOf_1, zr_D_leastOf_4, zr_D_leastOf_6, zr_D_leastOf_9, zr_D_leastOf_10, zr_D_leastOf_11, zr_D_leastOf_14, zr_D_leastOf_17, zr_D_leastOf_20, zr_D_leastOf_22, z_obs, z_pu_s, z_pu_n, z00, z10, ↓reduceIte, true_or, or_true, z_b_t, z_b_f, show ¬ nI 1 = 0 by decide, show (nI 1 = 1) = True from eq_true rfl]; rfl
  · simp only [zm_D_leastOf, zr_D_leastOf_0, zr_D_leastOf_1, zr_D_leastOf_4, zr_D_leastOf_6, zr_D_leastOf_9, zr_D_leastOf_10, zr_D_leastOf_11, zr_D_leastOf_14, zr_D_leastOf_17, zr_D_leastOf_20, zr_D_leastOf_22, z_obs, z_pu_s, z_pu_n, z00, z10, ↓reduceIte, true_or, or_true, z_b_t, z_b_f, show ¬ nI 2 = 0 by decide, show ¬ nI 2 = 1 by decide]; rfl
theorem dJudge (h : DW G a s ib u hs) (w : WF s) (d : Int32) : z_evM E i_D_judge lv [.ref a, .int d] N k G = some (some (.int (aJudge s hs d)), N, k, G) := by
  unfold aJudge
  by_cases hl : lkR hs d ≠ 0
  · rw [if_pos hl]
    simp only [zm_D_judge, zr_D_judge_0, zr_D_judge_1, zr_D_judge_2, zr_D_judge_3, zr_D_judge_6, zr_D_judge_7, zr_D_judge_8, zr_D_judge_11, zr_D_judge_12, h.cls, sD_wrongRow _ _ _ h, hl, z_obs, z_pu_s, z_pu_n, z00, z10, ↓reduceIte, true_or, or_true, z_b_t, z_b_f]
  · rw [if_neg hl]
    have hl0 : lkR hs d = 0 := by simpa using hl
    obtain ⟨d, so, sz, el, hd, rfl, e⟩ := lkR_ro hl
    obtain ⟨r1, r2, r3, r4, r5, r6⟩ := h.ro (E := E) hd e
    rw [jN_nI (show d < 2 ^ 31 by omega), e]
    have w1 := w.2.1
    simp only [zm_D_judge, zr_D_judge_0, zr_D_judge_1, zr_D_judge_2, zr_D_judge_3, zr_D_judge_6, zr_D_judge_7, zr_D_judge_8, zr_D_judge_11, zr_D_judge_12, zr_D_judge_13, zr_D_judge_14, h.cls, sD_wrongRow _ _ _ h, hl0, z_obs, z_pu_s, z_pu_n, z00, z10, ↓reduceIte, true_or, or_true, z_b_t, z_b_f]
    refine z_find (fun i (jk : Option Value) => z_ev E i_D_judge lv 15 [some (.ref a), some (.int (nI d)), some (.int 0), some (.int (nI i)), jk] [] N k G) (jgP s so el) sz (fun o => some (some (.int (oI o)), N, k, G)) ?_ ?_ ?_ sz 0 none (by omega)
    · intro jk
      have c : nI sz ≤ nI sz := nI_le (Nat.le_refl _) (by omega)
      simp only [zr_D_judge_15, zr_D_judge_16, zr_D_judge_17, zr_D_judge_20, zr_D_judge_21, zr_D_judge_22, zr_D_judge_80, zr_D_judge_82, h.f18, r3, c, z_obs, z_pu_s, z_pu_n, z00, z10, ↓reduceIte, true_or, or_true, z_b_t, z_b_f]
      rfl
    · intro i jk hi hp
      have c : ¬ nI sz ≤ nI i := nI_ge hi (by omega)
      unfold jgP at hp
      simp only [ne_eq, Bool.and_eq_true, decide_eq_true_eq] at hp
      rw [zr_D_judge_15]
      simp only [zr_D_judge_16, zr_D_judge_17, zr_D_judge_20, zr_D_judge_21, zr_D_judge_22, zr_D_judge_25, zr_D_judge_26, zr_D_judge_29, zr_D_judge_31, zr_D_judge_32, zr_D_judge_33, zr_D_judge_34, zr_D_judge_35, zr_D_judge_36, zr_D_judge_38, zr_D_judge_40, zr_D_judge_41, zr_D_judge_44, zr_D_judge_45, zr_D_judge_46, zr_D_judge_49, zr_D_judge_52, zr_D_judge_54, zr_D_judge_55, zr_D_judge_56, zr_D_judge_59, zr_D_judge_60, zr_D_judge_61, zr_D_judge_62, zr_D_judge_63, zr_D_judge_66, zr_D_judge_69, zr_D_judge_72, zr_D_judge_73, h.f18, r3, c, h.f19, h.f17, h.f0, h.cls, h.st.r1, r2, int_100, pk_mul, nI_add, r6 i hi, sD_leastOf _ _ _ r4, hp.1, hp.2, sD_homeAt _ _ _ h w (show s 1 + i < 2 ^ 31 by omega), sD_bitsH _ _ _ w, z_obs, z_pu_s, z_pu_n, z00, z10, ↓reduceIte, true_or, or_true, z_b_t, z_b_f, oI]
    · intro i jk hi hp
      have c : ¬ nI sz ≤ nI i := nI_ge hi (by omega)
      unfold jgP at hp
      refine ⟨some (.int (el i)), ?_⟩
      rw [zr_D_judge_15]
      by_cases q1 : el i = lstI so
      · simp only [zr_D_judge_16, zr_D_judge_17, zr_D_judge_20, zr_D_judge_21, zr_D_judge_22, zr_D_judge_25, zr_D_judge_26, zr_D_judge_29, zr_D_judge_31, zr_D_judge_32, zr_D_judge_33, zr_D_judge_34, zr_D_judge_35, zr_D_judge_36, zr_D_judge_38, zr_D_judge_40, zr_D_judge_41, zr_D_judge_44, zr_D_judge_45, zr_D_judge_46, zr_D_judge_49, zr_D_judge_52, zr_D_judge_54, zr_D_judge_55, zr_D_judge_56, zr_D_judge_59, zr_D_judge_60, zr_D_judge_61, zr_D_judge_62, zr_D_judge_63, zr_D_judge_66, zr_D_judge_69, zr_D_judge_72, zr_D_judge_73, zr_D_judge_74, zr_D_judge_77, h.f18, r3, c, h.f19, h.f17, h.f0, h.cls, h.st.r1, r2, int_100, pk_mul, nI_add, r6 i hi, sD_leastOf _ _ _ r4, q1, z_obs, z_pu_s, z_pu_n, z00, z10, ↓reduceIte, true_or, or_true, z_b_t, z_b_f, nI_1]
      · have q2 : el i = nI (pcn s ((s 1 + i) % 24)) := by simpa [q1] using hp
        have q1' : ¬ nI (pcn s ((s 1 + i) % 24)) = lstI so := by rw [← q2]; exact q1
        simp only [zr_D_judge_16, zr_D_judge_17, zr_D_judge_20, zr_D_judge_21, zr_D_judge_22, zr_D_judge_25, zr_D_judge_26, zr_D_judge_29, zr_D_judge_31, zr_D_judge_32, zr_D_judge_33, zr_D_judge_34, zr_D_judge_35, zr_D_judge_36, zr_D_judge_38, zr_D_judge_40, zr_D_judge_41, zr_D_judge_44, zr_D_judge_45, zr_D_judge_46, zr_D_judge_49, zr_D_judge_52, zr_D_judge_54, zr_D_judge_55, zr_D_judge_56, zr_D_judge_59, zr_D_judge_60, zr_D_judge_61, zr_D_judge_62, zr_D_judge_63, zr_D_judge_66, zr_D_judge_69, zr_D_judge_72, zr_D_judge_73, zr_D_judge_74, zr_D_judge_77, h.f18, r3, c, h.f19, h.f17, h.f0, h.cls, h.st.r1, r2, int_100, pk_mul, nI_add, r6 i hi, sD_leastOf _ _ _ r4, q2, q1', sD_homeAt _ _ _ h w (show s 1 + i < 2 ^ 31 by omega), sD_bitsH _ _ _ w, z_obs, z_pu_s, z_pu_n, z00, z10, ↓reduceIte, true_or, or_true, z_b_t, z_b_f, nI_1]
end
