/-! MARSH: more reads, loops -/
def foldN {α : Type} (f : Nat → α → α) : Nat → Nat → α → α
  | 0, _, acc => acc
  | m + 1, i, acc => foldN f m (i + 1) (f i acc)
theorem z_loop {α : Type} (V : Nat → α → Option z_R) (f : Nat → α → α) (N : Nat) (R : α → Option z_R) (hx : ∀ acc, V N acc = R acc) (hs : ∀ i acc, i < N → V i acc = V (i + 1) (f i acc)) : ∀ m i acc, i + m = N → V i acc = R (foldN f m i acc) := by
  intro m
  induction m with
  | zero => intro i acc h; rw [show i = N by omega]; exact hx acc
  | succ m ih => intro i acc h; rw [hs i acc (by omega)]; exact ih (i + 1) _ (by omega)
theorem int_24 : (24 : Int32) = nI 24 := rfl
theorem int_48 : (48 : Int32) = nI 48 := rfl
theorem int_100 : (100 : Int32) = nI 100 := rfl
theorem int_99 : (99 : Int32) = nI 99 := rfl
theorem int_31 : (31 : Int32) = nI 31 := rfl
theorem int_6 : (6 : Int32) = nI 6 := rfl
theorem int_999 : (999 : Int32) = nI 999 := rfl
theorem not_isB {s : Nat → Nat} {x : Int32} (h : ¬ isB s x = true) : isB s x = false := by simpa using h
/-- BELLS (bits) HOME at an hour -/
def hmI (s : Nat → Nat) (t : Nat) : Int32 := foldN (fun b acc => acc ||| (if hm (sK s b) (sF s b) t = true then (1 : Int32) <<< (nI b &&& 31) else 0)) (s 0) 0 0
def toldI (s : Nat → Nat) (j : Nat) (x : Int32) : Int32 := if x = 0 then nI (sK s j) else if x = 1 then nI (sF s j) else if x = 2 then nI (sP s j) else if x = 3 then nI (sR s j) else if x = 4 then nI (sO s j) else if x = 5 then nI (sW s j) else if x = 6 then nI (sS s j) else if x = 7 then z_b (hm (sK s j) (sF s j) (s 1)) else -1
section
variable {E : z_E} {G : z_H} {a : Nat} {s : Nat → Nat} (lv n k : Nat)
theorem sM_homeAt (h : MA G a s) (w : WF s) {t : Nat} (ht : t < 24) : z_evM E i_M_homeAt lv [.ref a, .int (nI t)] n k G = some (some (.int (hmI s t)), n, k, G) := by
  have h6 := w.1
  simp only [zm_M_homeAt, zr_M_homeAt_0, zr_M_homeAt_1, zr_M_homeAt_2, zr_M_homeAt_3]
  refine z_loop (fun i acc => z_ev E i_M_homeAt lv 4 [some (.ref a), some (.int (nI t)), some (.int acc), some (.int (nI i))] [] n k G) (fun b acc => acc ||| (if hm (sK s b) (sF s b) t = true then (1 : Int32) <<< (nI b &&& 31) else 0)) (s 0) (fun acc => some (some (.int acc), n, k, G)) ?_ ?_ (s 0) 0 0 (by omega)
  · intro acc
    have c : nI (s 0) ≤ nI (s 0) := nI_le (Nat.le_refl _) (by omega)
    simp only [zr_M_homeAt_0, zr_M_homeAt_1, zr_M_homeAt_2, zr_M_homeAt_3, zr_M_homeAt_4, zr_M_homeAt_5, zr_M_homeAt_6, zr_M_homeAt_9, zr_M_homeAt_12, zr_M_homeAt_13, zr_M_homeAt_14, zr_M_homeAt_15, zr_M_homeAt_16, zr_M_homeAt_19, zr_M_homeAt_22, zr_M_homeAt_23, zr_M_homeAt_24, zr_M_homeAt_25, zr_M_homeAt_28, zr_M_homeAt_29, zr_M_homeAt_30, zr_M_homeAt_31, zr_M_homeAt_34, zr_M_homeAt_37, zr_M_homeAt_38, h.f8, c, z_obs, ↓reduceIte]
  · intro i acc hi
    have c : ¬ nI (s 0) ≤ nI i := nI_ge hi (by omega)
    cases hb : hm (sK s i) (sF s i) t
    · simp only [zr_M_homeAt_4, zr_M_homeAt_0, zr_M_homeAt_1, zr_M_homeAt_2, zr_M_homeAt_3, zr_M_homeAt_5, zr_M_homeAt_6, zr_M_homeAt_9, zr_M_homeAt_12, zr_M_homeAt_13, zr_M_homeAt_14, zr_M_homeAt_15, zr_M_homeAt_16, zr_M_homeAt_19, zr_M_homeAt_22, zr_M_homeAt_23, zr_M_homeAt_24, zr_M_homeAt_25, zr_M_homeAt_28, zr_M_homeAt_29, zr_M_homeAt_30, zr_M_homeAt_31, zr_M_homeAt_34, zr_M_homeAt_37, zr_M_homeAt_38, h.f8, c, z_obs, ↓reduceIte, h.cls, sM_isHomeAt _ _ _ h w hi ht, z_pu_s, hb, z_bz, nI_1, Bool.false_eq_true]
    · simp only [zr_M_homeAt_4, zr_M_homeAt_0, zr_M_homeAt_1, zr_M_homeAt_2, zr_M_homeAt_3, zr_M_homeAt_5, zr_M_homeAt_6, zr_M_homeAt_9, zr_M_homeAt_12, zr_M_homeAt_13, zr_M_homeAt_14, zr_M_homeAt_15, zr_M_homeAt_16, zr_M_homeAt_19, zr_M_homeAt_22, zr_M_homeAt_23, zr_M_homeAt_24, zr_M_homeAt_25, zr_M_homeAt_28, zr_M_homeAt_29, zr_M_homeAt_30, zr_M_homeAt_31, zr_M_homeAt_34, zr_M_homeAt_37, zr_M_homeAt_38, h.f8, c, z_obs, ↓reduceIte, h.cls, sM_isHomeAt _ _ _ h w hi ht, z_pu_s, hb, z_bz, nI_1, Bool.true_eq_false]
theorem sM_hoursOf (h : MA G a s) (w : WF s) {j : Nat} (hj : j < s 0) : z_evM E i_M_hoursAtHomeOf lv [.ref a, .int (nI j)] n k G = some (some (.int (hb (sK s j) (sF s j))), n, k, G) := by
  simp only [zm_M_hoursAtHomeOf, zr_M_hoursAtHomeOf_0, zr_M_hoursAtHomeOf_1, zr_M_hoursAtHomeOf_2, zr_M_hoursAtHomeOf_5, zr_M_hoursAtHomeOf_8, zr_M_hoursAtHomeOf_9, zr_M_hoursAtHomeOf_12, zr_M_hoursAtHomeOf_13, zr_M_hoursAtHomeOf_14, zr_M_hoursAtHomeOf_17, zr_M_hoursAtHomeOf_18, h.cls, sM_has _ _ _ h, isB_nI w hj, z_obs, z_pu_s, z_b_t, z10, ↓reduceIte, h.f5, h.a6 w hj]
theorem sM_hoursOf_f (h : MA G a s) {x : Int32} (hx : isB s x = false) : z_evM E i_M_hoursAtHomeOf lv [.ref a, .int x] n k G = some (some (.int (-1)), n, k, G) := by
  simp only [zm_M_hoursAtHomeOf, zr_M_hoursAtHomeOf_0, zr_M_hoursAtHomeOf_1, zr_M_hoursAtHomeOf_2, zr_M_hoursAtHomeOf_5, zr_M_hoursAtHomeOf_8, zr_M_hoursAtHomeOf_9, zr_M_hoursAtHomeOf_12, zr_M_hoursAtHomeOf_13, zr_M_hoursAtHomeOf_14, zr_M_hoursAtHomeOf_17, zr_M_hoursAtHomeOf_18, h.cls, sM_has _ _ _ h, hx, z_obs, z_pu_s, z_b_f, z00, ↓reduceIte]
theorem sM_told (h : MA G a s) (w : WF s) {j : Nat} (hj : j < s 0) (x : Int32) : z_evM E i_M_told lv [.ref a, .int (nI j), .int x] n k G = some (some (.int (toldI s j x)), n, k, G) := by
  have hj6 : j < 6 := Nat.lt_of_lt_of_le hj w.1
  simp only [zm_M_told, zr_M_told_0, zr_M_told_1, zr_M_told_2, zr_M_told_5, zr_M_told_8, zr_M_told_9, zr_M_told_10, zr_M_told_11, zr_M_told_56, zr_M_told_57, zr_M_told_60, zr_M_told_61, zr_M_told_62, zr_M_told_63, zr_M_told_64, zr_M_told_67, zr_M_told_68, zr_M_told_69, zr_M_told_70, zr_M_told_71, zr_M_told_74, zr_M_told_75, zr_M_told_76, zr_M_told_77, zr_M_told_78, zr_M_told_81, zr_M_told_82, zr_M_told_83, zr_M_told_84, zr_M_told_85, zr_M_told_88, zr_M_told_89, zr_M_told_90, zr_M_told_91, zr_M_told_92, zr_M_told_95, zr_M_told_96, zr_M_told_97, zr_M_told_98, zr_M_told_99, zr_M_told_102, zr_M_told_103, zr_M_told_104, zr_M_told_105, zr_M_told_106, zr_M_told_107, zr_M_told_108, zr_M_told_111, zr_M_told_114, zr_M_told_117, zr_M_told_118, zr_M_told_121, zr_M_told_122, zr_M_told_123, zr_M_told_124, h.cls, sM_has _ _ _ h, isB_nI w hj, z_obs, z_pu_s, z_b_t, z10, ↓reduceIte, h.f0, h.f1, h.f2, h.f3, h.f4, h.f6, h.f7, h.f9, h.a1 hj6, h.a2 hj6, h.a3 hj6, h.a4 hj6, h.a5 hj6, h.a7 w hj, h.a8 w hj, sM_isHomeAt _ _ _ h w hj w.2.1, z_bz]
  unfold toldI
  repeat' split
  all_goals first | rfl | (simp_all [z_b])
theorem sM_told_f (h : MA G a s) {x : Int32} (hx : isB s x = false) (y : Int32) : z_evM E i_M_told lv [.ref a, .int x, .int y] n k G = some (some (.int (-1)), n, k, G) := by
  simp only [zm_M_told, zr_M_told_0, zr_M_told_1, zr_M_told_2, zr_M_told_5, zr_M_told_8, zr_M_told_9, zr_M_told_10, zr_M_told_11, zr_M_told_56, zr_M_told_57, zr_M_told_60, zr_M_told_61, zr_M_told_62, zr_M_told_63, zr_M_told_64, zr_M_told_67, zr_M_told_68, zr_M_told_69, zr_M_told_70, zr_M_told_71, zr_M_told_74, zr_M_told_75, zr_M_told_76, zr_M_told_77, zr_M_told_78, zr_M_told_81, zr_M_told_82, zr_M_told_83, zr_M_told_84, zr_M_told_85, zr_M_told_88, zr_M_told_89, zr_M_told_90, zr_M_told_91, zr_M_told_92, zr_M_told_95, zr_M_told_96, zr_M_told_97, zr_M_told_98, zr_M_told_99, zr_M_told_102, zr_M_told_103, zr_M_told_104, zr_M_told_105, zr_M_told_106, zr_M_told_107, zr_M_told_108, zr_M_told_111, zr_M_told_114, zr_M_told_117, zr_M_told_118, zr_M_told_121, zr_M_told_122, zr_M_told_123, zr_M_told_124, h.cls, sM_has _ _ _ h, hx, z_obs, z_pu_s, z_b_f, z00, ↓reduceIte]
theorem sM_kindOf (h : MA G a s) (w : WF s) {j : Nat} (hj : j < s 0) : z_evM E i_M_kindOf lv [.ref a, .int (nI j)] n k G = some (some (.int (nI (sK s j))), n, k, G) := by
  simp only [zm_M_kindOf, zr_M_kindOf_0, zr_M_kindOf_1, zr_M_kindOf_2, zr_M_kindOf_3, zr_M_kindOf_6, h.cls, sM_told _ _ _ h w hj, z_obs, z_pu_s]; rfl
theorem sM_figureOf (h : MA G a s) (w : WF s) {j : Nat} (hj : j < s 0) : z_evM E i_M_figureOf lv [.ref a, .int (nI j)] n k G = some (some (.int (nI (sF s j))), n, k, G) := by
  simp only [zm_M_figureOf, zr_M_figureOf_0, zr_M_figureOf_1, zr_M_figureOf_2, zr_M_figureOf_3, zr_M_figureOf_6, h.cls, sM_told _ _ _ h w hj, z_obs, z_pu_s]; rfl
theorem sM_placeOf (h : MA G a s) (w : WF s) {j : Nat} (hj : j < s 0) : z_evM E i_M_placeOf lv [.ref a, .int (nI j)] n k G = some (some (.int (nI (sP s j))), n, k, G) := by
  simp only [zm_M_placeOf, zr_M_placeOf_0, zr_M_placeOf_1, zr_M_placeOf_2, zr_M_placeOf_3, zr_M_placeOf_6, h.cls, sM_told _ _ _ h w hj, z_obs, z_pu_s]; rfl
theorem sM_rungOf (h : MA G a s) (w : WF s) {j : Nat} (hj : j < s 0) : z_evM E i_M_rungOf lv [.ref a, .int (nI j)] n k G = some (some (.int (nI (sR s j))), n, k, G) := by
  simp only [zm_M_rungOf, zr_M_rungOf_0, zr_M_rungOf_1, zr_M_rungOf_2, zr_M_rungOf_3, zr_M_rungOf_6, h.cls, sM_told _ _ _ h w hj, z_obs, z_pu_s]; rfl
theorem sM_wantsOf (h : MA G a s) (w : WF s) {j : Nat} (hj : j < s 0) : z_evM E i_M_wantsOf lv [.ref a, .int (nI j)] n k G = some (some (.int (nI (sW s j))), n, k, G) := by
  simp only [zm_M_wantsOf, zr_M_wantsOf_0, zr_M_wantsOf_1, zr_M_wantsOf_2, zr_M_wantsOf_3, zr_M_wantsOf_6, h.cls, sM_told _ _ _ h w hj, z_obs, z_pu_s]; rfl
theorem sM_ringsLacking (h : MA G a s) (w : WF s) (ws : WS s) {j : Nat} (hj : j < s 0) : z_evM E i_M_ringsLacking lv [.ref a, .int (nI j)] n k G = some (some (.int (nI (sW s j - sR s j))), n, k, G) := by
  have := ws j hj
  simp only [zm_M_ringsLacking, zr_M_ringsLacking_0, zr_M_ringsLacking_1, zr_M_ringsLacking_2, zr_M_ringsLacking_5, zr_M_ringsLacking_6, zr_M_ringsLacking_7, zr_M_ringsLacking_10, zr_M_ringsLacking_11, h.cls, sM_wantsOf _ _ _ h w hj, sM_rungOf _ _ _ h w hj, z_obs, z_pu_s, pk_sub (Nat.le_of_lt this)]
theorem sM_rung1 (h : MA G a s) (w : WF s) {j t r : Nat} (hj : j < s 0) (ht : t < 24) : z_evM E i_M_rungWithOneMore lv [.ref a, .int (nI j), .int (nI t), .int (nI r)] n k G = some (some (.int (nI (if hm (sK s j) (sF s j) t = true then r + 1 else 0))), n, k, G) := by
  simp only [zm_M_rungWithOneMore, zr_M_rungWithOneMore_0, zr_M_rungWithOneMore_1, zr_M_rungWithOneMore_2, zr_M_rungWithOneMore_3, zr_M_rungWithOneMore_6, zr_M_rungWithOneMore_9, zr_M_rungWithOneMore_10, zr_M_rungWithOneMore_11, zr_M_rungWithOneMore_12, zr_M_rungWithOneMore_15, zr_M_rungWithOneMore_16, h.cls, sM_isHomeAt _ _ _ h w hj ht, z_obs, z_pu_s, z_bz, nI_1]
  cases hm (sK s j) (sF s j) t <;> simp [nI_0]
theorem sM_farFrom (h : MA G a s) (w : WF s) {j p : Nat} (hj : j < s 0) (hp : p < 31) : z_evM E i_M_farFrom lv [.ref a, .int (nI j), .int (nI p)] n k G = some (some (.int (nI (if p ≤ sP s j then sP s j - p else p - sP s j))), n, k, G) := by
  have hP := (w.2.2.2 j hj).2.2.1
  simp only [zm_M_farFrom, zr_M_farFrom_0, zr_M_farFrom_1, zr_M_farFrom_2, zr_M_farFrom_5, zr_M_farFrom_6, zr_M_farFrom_7, zr_M_farFrom_10, h.cls, sM_placeOf _ _ _ h w hj, z_obs, z_pu_s]
  congr 4
  by_cases hle : p ≤ sP s j
  · rw [pk_sub hle, if_pos (nI_pos' (by omega)), if_pos hle]
  · have e : (0 : Int32) - (nI (sP s j) - nI p) = nI p - nI (sP s j) := by
      generalize nI (sP s j) = u
      generalize nI p = v
      exact Int32.toBitVec_inj.mp (by simp)
    have hn : ¬ 0 ≤ nI (sP s j) - nI p := Int32.not_le.mpr (pk_sneg (by omega) (by omega))
    rw [if_neg hn, e, pk_sub (by omega), if_neg hle]
theorem sM_areOneDoor (h : MA G a s) (w : WF s) {i j : Nat} (hi : i < s 0) (hj : j < s 0) : z_evM E i_M_areOneDoor lv [.ref a, .int (nI i), .int (nI j)] n k G = some (some (.int (z_b (decide (hb (sK s i) (sF s i) = hb (sK s j) (sF s j)) && (decide (sW s i = sW s j) && decide (sS s i = sS s j))))), n, k, G) := by
  have q1 := wt_le _ (w.2.2.2 i hi).1 _ (w.2.2.2 i hi).2.1
  have q2 := wt_le _ (w.2.2.2 j hj).1 _ (w.2.2.2 j hj).2.1
  have e1 : (nI (sW s i) = nI (sW s j)) = (sW s i = sW s j) := nI_eqI' (by unfold sW; omega) (by unfold sW; omega)
  have e2 : (nI (sS s i) = nI (sS s j)) = (sS s i = sS s j) := nI_eqI' (by unfold sS; omega) (by unfold sS; omega)
  simp only [zm_M_areOneDoor, zr_M_areOneDoor_0, zr_M_areOneDoor_1, zr_M_areOneDoor_2, zr_M_areOneDoor_5, zr_M_areOneDoor_8, zr_M_areOneDoor_9, zr_M_areOneDoor_10, zr_M_areOneDoor_13, zr_M_areOneDoor_16, zr_M_areOneDoor_17, zr_M_areOneDoor_20, zr_M_areOneDoor_21, zr_M_areOneDoor_22, zr_M_areOneDoor_23, zr_M_areOneDoor_26, zr_M_areOneDoor_27, zr_M_areOneDoor_28, zr_M_areOneDoor_31, zr_M_areOneDoor_32, zr_M_areOneDoor_35, zr_M_areOneDoor_36, zr_M_areOneDoor_37, zr_M_areOneDoor_38, zr_M_areOneDoor_41, zr_M_areOneDoor_42, zr_M_areOneDoor_43, zr_M_areOneDoor_46, zr_M_areOneDoor_47, zr_M_areOneDoor_50, zr_M_areOneDoor_51, zr_M_areOneDoor_52, zr_M_areOneDoor_53, zr_M_areOneDoor_56, zr_M_areOneDoor_57, zr_M_areOneDoor_58, zr_M_areOneDoor_61, zr_M_areOneDoor_62, zr_M_areOneDoor_65, zr_M_areOneDoor_66, h.cls, sM_has _ _ _ h, isB_nI w hi, isB_nI w hj, z_obs, z_pu_s, z_b_t, z10, z00, true_or, or_true, ↓reduceIte, h.f5, h.f6, h.f7, h.a6 w hi, h.a6 w hj, h.a7 w hi, h.a7 w hj, h.a8 w hi, h.a8 w hj, e1, e2]
  by_cases g1 : hb (sK s i) (sF s i) = hb (sK s j) (sF s j) <;> by_cases g2 : sW s i = sW s j <;> by_cases g3 : sS s i = sS s j <;> simp [g1, g2, g3, z_b]
end
