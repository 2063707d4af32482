/-! THE CLASS: bells of one door; who is nearest -/
theorem foldN_P {α : Type} {f : Nat → α → α} {Q : α → Prop} : ∀ m i acc, (∀ j a, i ≤ j → j < i + m → Q a → Q (f j a)) → Q acc → Q (foldN f m i acc) := by
  intro m
  induction m with
  | zero => intro i acc _ h; exact h
  | succ m ih => intro i acc h q; exact ih (i + 1) _ (fun j a h1 h2 => h j a (by omega) (by omega)) (h i acc (Nat.le_refl _) (by omega) q)
theorem oI_eq4 {o : Option Nat} (h : ∀ v, o = some v → v < 2 ^ 31) : (oI o = -4) = (o = none) := by
  rcases o with _ | v
  · simp [oI]
  · have hv := h v rfl
    simp only [oI, reduceCtorEq, eq_iff_iff, iff_false]
    intro h
    have : ¬ nI v < 0 := nI_pos (by omega)
    rw [h] at this
    exact this (by decide)
def dOb (s : Nat → Nat) (i j : Nat) : Bool := decide (hb (sK s i) (sF s i) = hb (sK s j) (sF s j)) && (decide (sW s i = sW s j) && decide (sS s i = sS s j))
def odI (s : Nat → Nat) (a b : Nat) (acc : Nat × Option Nat) : Nat × Option Nat := if dOb s a b = true then (acc.1 + 1, if acc.2 = none then some (10 * a + b) else acc.2) else acc
def odO (s : Nat → Nat) (a : Nat) (acc : Nat × Option Nat) : Nat × Option Nat := foldN (odI s a) (s 0 - (a + 1)) (a + 1) acc
def aOneDoor (s : Nat → Nat) (y : Int32) : Int32 := if is01 y = true then (if y = 0 then nI (foldN (odO s) (s 0) 0 (0, none)).1 else oI (foldN (odO s) (s 0) 0 (0, none)).2) else -1
def odQ (acc : Nat × Option Nat) : Prop := ∀ v, acc.2 = some v → v < 2 ^ 31
theorem odI_Q {s : Nat → Nat} (w : WF s) {a b : Nat} (ha : a < s 0) (hb : b < s 0) (acc : Nat × Option Nat) (h : odQ acc) : odQ (odI s a b acc) := by
  have w1 := w.1
  unfold odI
  split
  · intro v
    dsimp only
    split
    · intro e; injection e with e; omega
    · exact h v
  · exact h
theorem odO_Q {s : Nat → Nat} (w : WF s) {a : Nat} (ha : a < s 0) (acc : Nat × Option Nat) (h : odQ acc) : odQ (odO s a acc) := foldN_P _ _ _ (fun j c h1 h2 hc => odI_Q w ha (by omega) c hc) h
section
variable {E : z_E} {G : z_H} {x : Nat} {s u : Nat → Nat} {ib : Bool} {hs : Nat → Sh} {n : Nat} (lv N k : Nat)
theorem xOneDoor (h : XW G x s ib u hs n) (w : WF s) (y : Int32) : z_evM E i_X_oneDoor lv [.ref x, .int y] N k G = some (some (.int (aOneDoor s y)), N, k, G) := by
  have w1 := w.1
  unfold aOneDoor
  cases hy : is01 y
  · simp only [zm_X_oneDoor, zr_X_oneDoor_0, zr_X_oneDoor_1, zr_X_oneDoor_4, zr_X_oneDoor_7, zr_X_oneDoor_8, sX_is01, hy, z_obs, z_pu_s, z_pu_n, z00, z10, ↓reduceIte, true_or, or_true, z_b_t, z_b_f, Bool.false_eq_true]
  · simp only [zm_X_oneDoor, zr_X_oneDoor_0, zr_X_oneDoor_1, zr_X_oneDoor_4, zr_X_oneDoor_9, zr_X_oneDoor_10, zr_X_oneDoor_11, zr_X_oneDoor_13, zr_X_oneDoor_14, zr_X_oneDoor_15, sX_is01, hy, z_obs, z_pu_s, z_pu_n, z00, z10, ↓reduceIte, true_or, or_true, z_b_t, z_b_f]
    refine z_loopP (fun i (acc : Nat × Option Nat) (jk : Option Value) => z_ev E i_X_oneDoor lv 17 [some (.ref x), some (.int y), some (.int (nI acc.1)), some (.int (oI acc.2)), some (.int (nI i)), jk] [] N k G) (odO s) (fun i acc => odQ acc) (s 0) (fun acc => some (some (.int (if y = 0 then nI acc.1 else oI acc.2)), N, k, G)) ?_ ?_ (s 0) 0 (0, none) none (by omega) (fun v hv => by cases hv) |>.trans ?_
    · intro acc jk _
      have c : nI (s 0) ≤ nI (s 0) := nI_le (Nat.le_refl _) (by omega)
      by_cases h0 : y = 0
      · simp only [zr_X_oneDoor_0, zr_X_oneDoor_1, zr_X_oneDoor_4, zr_X_oneDoor_7, zr_X_oneDoor_8, zr_X_oneDoor_9, zr_X_oneDoor_10, zr_X_oneDoor_11, zr_X_oneDoor_13, zr_X_oneDoor_14, zr_X_oneDoor_15, zr_X_oneDoor_17, zr_X_oneDoor_19, zr_X_oneDoor_20, zr_X_oneDoor_23, zr_X_oneDoor_26, zr_X_oneDoor_29, zr_X_oneDoor_31, zr_X_oneDoor_32, zr_X_oneDoor_33, zr_X_oneDoor_35, zr_X_oneDoor_37, zr_X_oneDoor_38, zr_X_oneDoor_41, zr_X_oneDoor_44, zr_X_oneDoor_47, zr_X_oneDoor_48, zr_X_oneDoor_51, zr_X_oneDoor_53, zr_X_oneDoor_55, zr_X_oneDoor_58, zr_X_oneDoor_61, zr_X_oneDoor_64, zr_X_oneDoor_65, zr_X_oneDoor_67, zr_X_oneDoor_70, zr_X_oneDoor_72, zr_X_oneDoor_74, zr_X_oneDoor_75, zr_X_oneDoor_77, zr_X_oneDoor_78, zr_X_oneDoor_81, zr_X_oneDoor_82, zr_X_oneDoor_83, zr_X_oneDoor_86, zr_X_oneDoor_89, zr_X_oneDoor_92, zr_X_oneDoor_95, zr_X_oneDoor_96, zr_X_oneDoor_99, zr_X_oneDoor_100, zr_X_oneDoor_103, zr_X_oneDoor_104, h.f0, h.now.f8, c, z_obs, z_pu_s, z_pu_n, z00, z10, ↓reduceIte, true_or, or_true, z_b_t, z_b_f, h0]
      · simp only [zr_X_oneDoor_0, zr_X_oneDoor_1, zr_X_oneDoor_4, zr_X_oneDoor_7, zr_X_oneDoor_8, zr_X_oneDoor_9, zr_X_oneDoor_10, zr_X_oneDoor_11, zr_X_oneDoor_13, zr_X_oneDoor_14, zr_X_oneDoor_15, zr_X_oneDoor_17, zr_X_oneDoor_19, zr_X_oneDoor_20, zr_X_oneDoor_23, zr_X_oneDoor_26, zr_X_oneDoor_29, zr_X_oneDoor_31, zr_X_oneDoor_32, zr_X_oneDoor_33, zr_X_oneDoor_35, zr_X_oneDoor_37, zr_X_oneDoor_38, zr_X_oneDoor_41, zr_X_oneDoor_44, zr_X_oneDoor_47, zr_X_oneDoor_48, zr_X_oneDoor_51, zr_X_oneDoor_53, zr_X_oneDoor_55, zr_X_oneDoor_58, zr_X_oneDoor_61, zr_X_oneDoor_64, zr_X_oneDoor_65, zr_X_oneDoor_67, zr_X_oneDoor_70, zr_X_oneDoor_72, zr_X_oneDoor_74, zr_X_oneDoor_75, zr_X_oneDoor_77, zr_X_oneDoor_78, zr_X_oneDoor_81, zr_X_oneDoor_82, zr_X_oneDoor_83, zr_X_oneDoor_86, zr_X_oneDoor_89, zr_X_oneDoor_92, zr_X_oneDoor_95, zr_X_oneDoor_96, zr_X_oneDoor_99, zr_X_oneDoor_100, zr_X_oneDoor_103, zr_X_oneDoor_104, h.f0, h.now.f8, c, z_obs, z_pu_s, z_pu_n, z00, z10, ↓reduceIte, true_or, or_true, z_b_t, z_b_f, h0]
    · intro i acc jk hi hP
      have c : ¬ nI (s 0) ≤ nI i := nI_ge hi (by omega)
      refine ⟨odO_Q w hi acc hP, some (.int (nI (s 0))), ?_⟩
      rw [zr_X_oneDoor_17]
      simp only [zr_X_oneDoor_19, zr_X_oneDoor_20, zr_X_oneDoor_23, zr_X_oneDoor_26, zr_X_oneDoor_29, zr_X_oneDoor_31, zr_X_oneDoor_32, zr_X_oneDoor_33, h.f0, h.now.f8, c, z_obs, z_pu_s, z_pu_n, z00, z10, ↓reduceIte, true_or, or_true, z_b_t, z_b_f, nI_1]
      refine z_loopP (fun j (acc : Nat × Option Nat) (_ : Unit) => z_ev E i_X_oneDoor lv 35 [some (.ref x), some (.int y), some (.int (nI acc.1)), some (.int (oI acc.2)), some (.int (nI i)), some (.int (nI j))] [] N k G) (odI s i) (fun j acc => i < j ∧ odQ acc) (s 0) (fun acc => z_ev E i_X_oneDoor lv 17 [some (.ref x), some (.int y), some (.int (nI acc.1)), some (.int (oI acc.2)), some (.int (nI (i + 1))), some (.int (nI (s 0)))] [] N k G) ?_ ?_ (s 0 - (i + 1)) (i + 1) acc () (by omega) ⟨by omega, hP⟩
      · intro acc _ _
        have c : nI (s 0) ≤ nI (s 0) := nI_le (Nat.le_refl _) (by omega)
        simp only [zr_X_oneDoor_35, zr_X_oneDoor_37, zr_X_oneDoor_38, zr_X_oneDoor_41, zr_X_oneDoor_44, zr_X_oneDoor_89, zr_X_oneDoor_92, h.f0, h.now.f8, c, z_obs, z_pu_s, z_pu_n, z00, z10, ↓reduceIte, true_or, or_true, z_b_t, z_b_f, nI_1]
      · intro j acc _ hj ⟨hij, hP⟩
        have c : ¬ nI (s 0) ≤ nI j := nI_ge hj (by omega)
        have hd := sM_areOneDoor (E := E) 0 N k h.now w hi hj
        have hn := oI_eq4 hP
        refine ⟨⟨by omega, odI_Q w hi hj acc hP⟩, (), ?_⟩
        unfold odI dOb
        rw [zr_X_oneDoor_35]
        cases hb : (decide (hb (sK s i) (sF s i) = hb (sK s j) (sF s j)) && (decide (sW s i = sW s j) && decide (sS s i = sS s j)))
        · rw [hb] at hd
          simp only [zr_X_oneDoor_37, zr_X_oneDoor_38, zr_X_oneDoor_41, zr_X_oneDoor_44, zr_X_oneDoor_47, zr_X_oneDoor_48, zr_X_oneDoor_51, zr_X_oneDoor_53, zr_X_oneDoor_55, zr_X_oneDoor_58, zr_X_oneDoor_83, zr_X_oneDoor_86, h.f0, h.now.f8, h.now.cls, c, hd, z_obs, z_pu_s, z_pu_n, z00, z10, ↓reduceIte, true_or, or_true, z_b_t, z_b_f, nI_1, Bool.false_eq_true]
        · rw [hb] at hd
          by_cases h2 : acc.2 = none
          · simp only [h2, show (oI none = -4) = True by simp [oI], zr_X_oneDoor_37, zr_X_oneDoor_38, zr_X_oneDoor_41, zr_X_oneDoor_44, zr_X_oneDoor_47, zr_X_oneDoor_48, zr_X_oneDoor_51, zr_X_oneDoor_53, zr_X_oneDoor_55, zr_X_oneDoor_58, zr_X_oneDoor_61, zr_X_oneDoor_64, zr_X_oneDoor_65, zr_X_oneDoor_67, zr_X_oneDoor_70, zr_X_oneDoor_72, zr_X_oneDoor_74, zr_X_oneDoor_75, zr_X_oneDoor_77, zr_X_oneDoor_78, zr_X_oneDoor_82, zr_X_oneDoor_83, zr_X_oneDoor_86, h.f0, h.now.f8, h.now.cls, c, hd, z_obs, z_pu_s, z_pu_n, z00, z10, ↓reduceIte, true_or, or_true, z_b_t, z_b_f, nI_1, int_10, pk_mul, nI_add]
            simp only [oI]
          · simp only [h2, hn, zr_X_oneDoor_37, zr_X_oneDoor_38, zr_X_oneDoor_41, zr_X_oneDoor_44, zr_X_oneDoor_47, zr_X_oneDoor_48, zr_X_oneDoor_51, zr_X_oneDoor_53, zr_X_oneDoor_55, zr_X_oneDoor_58, zr_X_oneDoor_61, zr_X_oneDoor_64, zr_X_oneDoor_65, zr_X_oneDoor_67, zr_X_oneDoor_81, zr_X_oneDoor_82, zr_X_oneDoor_83, zr_X_oneDoor_86, h.f0, h.now.f8, h.now.cls, c, hd, z_obs, z_pu_s, z_pu_n, z00, z10, ↓reduceIte, true_or, or_true, z_b_t, z_b_f, nI_1]
    · by_cases h0 : y = 0 <;> simp [h0]
end
def faN (s : Nat → Nat) (b p : Nat) : Nat := if p ≤ sP s b then sP s b - p else p - sP s b
def neF (s : Nat → Nat) (p : Nat) (b : Nat) (acc : Option Nat × Nat) : Option Nat × Nat := if faN s b p < acc.2 then (some b, faN s b p) else acc
def aNearest (s : Nat → Nat) (p y : Int32) : Int32 := if inR p 31 = true ∧ is01 y = true then (let q := foldN (neF s (jN p)) (s 0) 0 (none, 31)
  if q.1 = none ∨ y = 0 then oI q.1 else nI q.2) else -1
section
variable {E : z_E} {G : z_H} {x : Nat} {s u : Nat → Nat} {ib : Bool} {hs : Nat → Sh} {n : Nat} (lv N k : Nat)
theorem xNearest (h : XW G x s ib u hs n) (w : WF s) (p y : Int32) : z_evM E i_X_nearest lv [.ref x, .int p, .int y] N k G = some (some (.int (aNearest s p y)), N, k, G) := by
  have w1 := w.1
  unfold aNearest
  cases hp : inR p 31
  · simp only [zm_X_nearest, zr_X_nearest_0, zr_X_nearest_1, zr_X_nearest_4, zr_X_nearest_14, zr_X_nearest_15, sX_isPlace, hp, z_obs, z_pu_s, z_pu_n, z00, z10, ↓reduceIte, true_or, or_true, z_b_t, z_b_f, Bool.false_eq_true, false_and]
  · cases hy : is01 y
    · simp only [zm_X_nearest, zr_X_nearest_0, zr_X_nearest_1, zr_X_nearest_4, zr_X_nearest_7, zr_X_nearest_8, zr_X_nearest_11, zr_X_nearest_14, zr_X_nearest_15, sX_isPlace, sX_is01, hp, hy, z_obs, z_pu_s, z_pu_n, z00, z10, ↓reduceIte, true_or, or_true, z_b_t, z_b_f, Bool.false_eq_true, and_false]
    · obtain ⟨p, hp', rfl⟩ := inR_of (by decide) hp
      rw [jN_nI (by omega)]
      simp only [zm_X_nearest, zr_X_nearest_0, zr_X_nearest_1, zr_X_nearest_4, zr_X_nearest_7, zr_X_nearest_8, zr_X_nearest_11, zr_X_nearest_16, zr_X_nearest_18, zr_X_nearest_19, zr_X_nearest_21, zr_X_nearest_23, zr_X_nearest_24, sX_isPlace, sX_is01, hp, hy, z_obs, z_pu_s, z_pu_n, z00, z10, ↓reduceIte, true_or, or_true, z_b_t, z_b_f, and_self]
      refine z_loopP (fun i (acc : Option Nat × Nat) (jk : Option Value) => z_ev E i_X_nearest lv 26 [some (.ref x), some (.int (nI p)), some (.int y), some (.int (oI acc.1)), some (.int (nI acc.2)), some (.int (nI i)), jk] [] N k G) (neF s p) (fun i acc => acc.2 ≤ 31 ∧ ∀ v, acc.1 = some v → v < 2 ^ 31) (s 0) (fun acc => some (some (.int (if acc.1 = none ∨ y = 0 then oI acc.1 else nI acc.2)), N, k, G)) ?_ ?_ (s 0) 0 (none, 31) none (by omega) ⟨Nat.le_refl _, fun v hv => by cases hv⟩
      · intro acc jk ⟨_, hQ⟩
        have c : nI (s 0) ≤ nI (s 0) := nI_le (Nat.le_refl _) (by omega)
        by_cases hn : acc.1 = none
        · simp only [zr_X_nearest_0, zr_X_nearest_1, zr_X_nearest_4, zr_X_nearest_7, zr_X_nearest_8, zr_X_nearest_11, zr_X_nearest_14, zr_X_nearest_15, zr_X_nearest_16, zr_X_nearest_18, zr_X_nearest_19, zr_X_nearest_21, zr_X_nearest_23, zr_X_nearest_24, zr_X_nearest_26, zr_X_nearest_28, zr_X_nearest_29, zr_X_nearest_32, zr_X_nearest_35, zr_X_nearest_38, zr_X_nearest_39, zr_X_nearest_42, zr_X_nearest_44, zr_X_nearest_45, zr_X_nearest_48, zr_X_nearest_50, zr_X_nearest_52, zr_X_nearest_54, zr_X_nearest_57, zr_X_nearest_59, zr_X_nearest_61, zr_X_nearest_63, zr_X_nearest_64, zr_X_nearest_67, zr_X_nearest_70, zr_X_nearest_71, zr_X_nearest_73, zr_X_nearest_76, zr_X_nearest_78, zr_X_nearest_79, zr_X_nearest_80, zr_X_nearest_83, zr_X_nearest_84, zr_X_nearest_87, zr_X_nearest_89, h.f0, h.now.f8, c, hn, show (oI none = -4) = True by simp [oI], z_obs, z_pu_s, z_pu_n, z00, z10, ↓reduceIte, true_or, or_true, z_b_t, z_b_f]
          rfl
        · by_cases h0 : y = 0
          · simp only [zr_X_nearest_0, zr_X_nearest_1, zr_X_nearest_4, zr_X_nearest_7, zr_X_nearest_8, zr_X_nearest_11, zr_X_nearest_14, zr_X_nearest_15, zr_X_nearest_16, zr_X_nearest_18, zr_X_nearest_19, zr_X_nearest_21, zr_X_nearest_23, zr_X_nearest_24, zr_X_nearest_26, zr_X_nearest_28, zr_X_nearest_29, zr_X_nearest_32, zr_X_nearest_35, zr_X_nearest_38, zr_X_nearest_39, zr_X_nearest_42, zr_X_nearest_44, zr_X_nearest_45, zr_X_nearest_48, zr_X_nearest_50, zr_X_nearest_52, zr_X_nearest_54, zr_X_nearest_57, zr_X_nearest_59, zr_X_nearest_61, zr_X_nearest_63, zr_X_nearest_64, zr_X_nearest_67, zr_X_nearest_70, zr_X_nearest_71, zr_X_nearest_73, zr_X_nearest_76, zr_X_nearest_78, zr_X_nearest_79, zr_X_nearest_80, zr_X_nearest_83, zr_X_nearest_84, zr_X_nearest_87, zr_X_nearest_89, h.f0, h.now.f8, c, hn, oI_eq4 hQ, h0, z_obs, z_pu_s, z_pu_n, z00, z10, ↓reduceIte, true_or, or_true, z_b_t, z_b_f]
          · simp only [zr_X_nearest_0, zr_X_nearest_1, zr_X_nearest_4, zr_X_nearest_7, zr_X_nearest_8, zr_X_nearest_11, zr_X_nearest_14, zr_X_nearest_15, zr_X_nearest_16, zr_X_nearest_18, zr_X_nearest_19, zr_X_nearest_21, zr_X_nearest_23, zr_X_nearest_24, zr_X_nearest_26, zr_X_nearest_28, zr_X_nearest_29, zr_X_nearest_32, zr_X_nearest_35, zr_X_nearest_38, zr_X_nearest_39, zr_X_nearest_42, zr_X_nearest_44, zr_X_nearest_45, zr_X_nearest_48, zr_X_nearest_50, zr_X_nearest_52, zr_X_nearest_54, zr_X_nearest_57, zr_X_nearest_59, zr_X_nearest_61, zr_X_nearest_63, zr_X_nearest_64, zr_X_nearest_67, zr_X_nearest_70, zr_X_nearest_71, zr_X_nearest_73, zr_X_nearest_76, zr_X_nearest_78, zr_X_nearest_79, zr_X_nearest_80, zr_X_nearest_83, zr_X_nearest_84, zr_X_nearest_87, zr_X_nearest_89, h.f0, h.now.f8, c, hn, oI_eq4 hQ, h0, z_obs, z_pu_s, z_pu_n, z00, z10, ↓reduceIte, true_or, or_true, z_b_t, z_b_f, or_false]
      · intro i acc jk hi ⟨hP, hQ⟩
        have c : ¬ nI (s 0) ≤ nI i := nI_ge hi (by omega)
        have hf := sM_farFrom (E := E) 0 N k h.now w hi hp'
        have hP3 := (w.2.2.2 i hi).2.2.1
        change z_evM E i_M_farFrom 0 [.ref (x + 1), .int (nI i), .int (nI p)] N k G = some (some (.int (nI (faN s i p))), N, k, G) at hf
        have hfa : faN s i p < 31 := by unfold faN; split <;> omega
        unfold neF
        rw [zr_X_nearest_26]
        by_cases hlt : faN s i p < acc.2
        · have q : ¬ nI acc.2 ≤ nI (faN s i p) := nI_ge hlt (by omega)
          simp only [hlt, ↓reduceIte]
          refine ⟨⟨by omega, fun v hv => by injection hv with hv; omega⟩, some (.int (nI (faN s i p))), ?_⟩
          simp only [zr_X_nearest_0, zr_X_nearest_1, zr_X_nearest_4, zr_X_nearest_7, zr_X_nearest_8, zr_X_nearest_11, zr_X_nearest_14, zr_X_nearest_15, zr_X_nearest_16, zr_X_nearest_18, zr_X_nearest_19, zr_X_nearest_21, zr_X_nearest_23, zr_X_nearest_24, zr_X_nearest_28, zr_X_nearest_29, zr_X_nearest_32, zr_X_nearest_35, zr_X_nearest_38, zr_X_nearest_39, zr_X_nearest_42, zr_X_nearest_44, zr_X_nearest_45, zr_X_nearest_48, zr_X_nearest_50, zr_X_nearest_52, zr_X_nearest_54, zr_X_nearest_57, zr_X_nearest_59, zr_X_nearest_61, zr_X_nearest_63, zr_X_nearest_64, zr_X_nearest_67, zr_X_nearest_70, zr_X_nearest_71, zr_X_nearest_73, zr_X_nearest_76, zr_X_nearest_78, zr_X_nearest_79, zr_X_nearest_80, zr_X_nearest_83, zr_X_nearest_84, zr_X_nearest_87, zr_X_nearest_89, h.f0, h.now.f8, h.now.cls, c, hf, q, z_obs, z_pu_s, z_pu_n, z00, z10, ↓reduceIte, true_or, or_true, z_b_t, z_b_f, nI_1, oI]
        · have q : nI acc.2 ≤ nI (faN s i p) := nI_le (by omega) (by omega)
          simp only [hlt, ↓reduceIte]
          refine ⟨⟨hP, hQ⟩, some (.int (nI (faN s i p))), ?_⟩
          simp only [zr_X_nearest_0, zr_X_nearest_1, zr_X_nearest_4, zr_X_nearest_7, zr_X_nearest_8, zr_X_nearest_11, zr_X_nearest_14, zr_X_nearest_15, zr_X_nearest_16, zr_X_nearest_18, zr_X_nearest_19, zr_X_nearest_21, zr_X_nearest_23, zr_X_nearest_24, zr_X_nearest_28, zr_X_nearest_29, zr_X_nearest_32, zr_X_nearest_35, zr_X_nearest_38, zr_X_nearest_39, zr_X_nearest_42, zr_X_nearest_44, zr_X_nearest_45, zr_X_nearest_48, zr_X_nearest_50, zr_X_nearest_52, zr_X_nearest_54, zr_X_nearest_57, zr_X_nearest_59, zr_X_nearest_61, zr_X_nearest_63, zr_X_nearest_64, zr_X_nearest_67, zr_X_nearest_70, zr_X_nearest_71, zr_X_nearest_73, zr_X_nearest_76, zr_X_nearest_78, zr_X_nearest_79, zr_X_nearest_80, zr_X_nearest_83, zr_X_nearest_84, zr_X_nearest_87, zr_X_nearest_89, h.f0, h.now.f8, h.now.cls, c, hf, q, z_obs, z_pu_s, z_pu_n, z00, z10, ↓reduceIte, true_or, or_true, z_b_t, z_b_f, nI_1]
end
