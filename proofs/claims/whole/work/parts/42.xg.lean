/-! THE CLASS: what rang, the ring that would tell most, by all KINDS -/
/-- is there one below m -/
def exB (p : Nat → Bool) (m : Nat) : Bool := (fnd p m 0).isSome
theorem fnd_iff {p : Nat → Bool} : ∀ m i, (fnd p m i).isSome = true ↔ ∃ j, i ≤ j ∧ j < i + m ∧ p j = true := by
  intro m
  induction m with
  | zero =>
    intro i
    constructor
    · intro h; cases h
    · rintro ⟨j, h1, h2, -⟩; omega
  | succ m ih =>
    intro i
    unfold fnd
    cases hp : p i
    · simp only [Bool.false_eq_true, ↓reduceIte]
      rw [ih (i + 1)]
      constructor
      · rintro ⟨j, h1, h2, h3⟩; exact ⟨j, by omega, by omega, h3⟩
      · rintro ⟨j, h1, h2, h3⟩
        refine ⟨j, ?_, by omega, h3⟩
        rcases Nat.lt_or_ge i j with h | h
        · exact h
        · have : j = i := by omega
          subst this
          rw [hp] at h3; cases h3
    · simp only [↓reduceIte, Option.isSome_some, true_iff]
      exact ⟨i, Nat.le_refl _, by omega, hp⟩
theorem exB_iff {p : Nat → Bool} {m : Nat} : exB p m = true ↔ ∃ j, j < m ∧ p j = true := by
  unfold exB
  rw [fnd_iff]
  constructor
  · rintro ⟨j, -, h2, h3⟩; exact ⟨j, by omega, h3⟩
  · rintro ⟨j, h2, h3⟩; exact ⟨j, by omega, by omega, h3⟩
theorem exB_congr {p q : Nat → Bool} {m m' : Nat} (h : (∃ j, j < m ∧ p j = true) ↔ ∃ j, j < m' ∧ q j = true) : exB p m = exB q m' := by
  rw [Bool.eq_iff_iff, exB_iff, exB_iff]; exact h
def kdI (c : Nat → Bool) (m : Nat) : Int32 := foldN (fun k acc => if c k = true then acc ||| (1 : Int32) <<< (nI k &&& 31) else acc) m 0 0
theorem or_0 (a : Int32) : a ||| 0 = a := by simp
theorem kdI_mk (c : Nat → Bool) (m : Nat) : kdI c m = mkI c m := foldN_congr _ _ _ fun j a _ _ => by
  cases c j
  · simp
  · simp
theorem mk8_all : ∀ v, v < 256 → mkI (b6 v) 8 = nI v ∧ ∀ k, k < 8 → ((nI v >>> (nI k &&& 31)) &&& 1) = if b6 v k = true then 1 else 0 := by decide +kernel
theorem mk8 (c : Nat → Bool) : ∃ v, v < 256 ∧ mkI c 8 = nI v ∧ (∀ b, b < 8 → b6 v b = c b) ∧ ∀ k, k < 8 → ((mkI c 8 >>> (nI k &&& 31)) &&& 1) = if c k = true then 1 else 0 := by
  obtain ⟨v, h1, h2⟩ := mk_num c 8
  obtain ⟨q1, q2⟩ := mk8_all v h1
  have e : mkI c 8 = nI v := by rw [← q1]; exact foldN_congr _ _ _ fun j a _ hj => by rw [h2 j (by omega)]
  exact ⟨v, h1, e, h2, fun k hk => by rw [e, q2 k hk, h2 k hk]⟩
def newB (c : Nat → Bool) (f t a : Nat) : Bool := c a && !(exB (fun b => c b && decide (g1H b f 0 t = g1H a f 0 t)) a)
/-- how many unlike answers one ring has -/
def unl (c : Nat → Bool) (f t : Nat) : Nat := mkC (newB c f t) 8
theorem g1H_le {k f r h : Nat} (hk : k < 8) (hf : f < 10) (hr : r < 10) : g1H k f r h ≤ 125 := by
  obtain ⟨a1, a2, a3⟩ := wt_le k hk f hf
  unfold g1H
  split
  · split
    · omega
    · have : stp k f * (r + 1) / wt k f ≤ stp k f := by
        apply Nat.div_le_of_le_mul
        rw [Nat.mul_comm (wt k f)]
        exact Nat.mul_le_mul_left _ (by omega)
      omega
  · omega
def whK (s : Nat → Nat) (so sz : Nat) (el : Nat → Int32) (b k : Nat) : Bool := crP so el k (sF s b) sz 0 (sR s b) (s 1)
def whF (s : Nat → Nat) (so sz : Nat) (el : Nat → Int32) (b f : Nat) : Bool := crP so el (sK s b) f sz 0 (sR s b) (s 1)
def tlF (c : Nat → Bool) (f h : Nat) (acc : Nat × Nat) : Nat × Nat := if acc.2 < unl c f h then (h, unl c f h) else acc
def aWhatRang (s : Nat → Nat) (hs : Nat → Sh) (d b y : Int32) : Int32 := if isB s b = true ∧ is01 y = true then (if lkR hs d ≠ 0 then lkR hs d else match hs (jN d) with
  | .inr (.inr (so, sz, el)) => if 48 < sz then -13 else if y = 0 then mkI (whK s so sz el (jN b)) 8 else mkI (whF s so sz el (jN b)) 10
  | _ => -1) else -1
def aTell (s : Nat → Nat) (hs : Nat → Sh) (d b y : Int32) : Int32 := if isB s b = true ∧ is01 y = true then (if lkR hs d ≠ 0 then lkR hs d else match hs (jN d) with
  | .inr (.inr (so, sz, el)) => if 48 < sz then -13 else (let q := foldN (tlF (whK s so sz el (jN b)) (sF s (jN b))) 24 0 (0, 0)
    if y = 0 then nI q.1 else nI q.2)
  | _ => -1) else -1
section
variable {E : z_E} {G0 G : z_H} {x : Nat} {s u : Nat → Nat} {ib : Bool} {hs : Nat → Sh} {n kd f r h : Nat} (lv N k : Nat)
theorem sX_kinds (h1 : XW G x s ib u hs n) (w : WF s) (h2 : FX x G0 G) {q so sz : Nat} {el : Nat → Int32} (hR : RA G0 q so sz el) (hq : x + 134 ≤ q) (hso : so < 3) (hz : sz ≤ 100) {j : Nat} (hj : j < s 0) : ∃ G', z_evM E i_X_kindsThatRang lv [.ref x, .ref q, .int (nI j)] N k G = some (some (.int (mkI (whK s so sz el j) 8)), N, k, G') ∧ XW G' x s ib u hs n ∧ FX x G0 G' := by
  obtain ⟨q1, q2, q3, q4, q5⟩ := w.2.2.2 j hj
  obtain ⟨G', _, e, p⟩ := z_loopG (fun i (a : Int32) (_ : Unit) G => z_ev E i_X_kindsThatRang lv 5 [some (.ref x), some (.ref q), some (.int (nI j)), some (.int a), some (.int (nI i))] [] N k G) (fun i a => if whK s so sz el j i = true then a ||| (1 : Int32) <<< (nI i &&& 31) else a) (fun i a G' => XW G' x s ib u hs n ∧ FX x G0 G') 8 (fun a _ G => some (some (.int a), N, k, G)) (fun a _ G1 hP => by
    have c : nI 8 ≤ nI 8 := nI_le (Nat.le_refl _) (by omega)
    simp only [zr_X_kindsThatRang_5, zr_X_kindsThatRang_7, zr_X_kindsThatRang_9, zr_X_kindsThatRang_55, zr_X_kindsThatRang_56, int_8, c, z_obs, z_pu_s, z_pu_n, z00, z10, ↓reduceIte, true_or, or_true, z_b_t, z_b_f]) (fun i a _ G1 hi hP => by
    have c : ¬ nI 8 ≤ nI i := nI_ge hi (by omega)
    obtain ⟨G2, g1, g2, g3⟩ := sX_couldRing (E := E) 0 N k hP.1 w hP.2 hR hq hso hz hi q2 q4
    refine ⟨G2, (), ?_, g2, g3⟩
    rw [zr_X_kindsThatRang_5]
    unfold whK
    have hX := hP.1
    cases hb : crP so el i (sF s j) sz 0 (sR s j) (s 1)
    · rw [hb] at g1
      simp only [zr_X_kindsThatRang_0, zr_X_kindsThatRang_1, zr_X_kindsThatRang_2, zr_X_kindsThatRang_3, zr_X_kindsThatRang_7, zr_X_kindsThatRang_9, zr_X_kindsThatRang_12, zr_X_kindsThatRang_13, zr_X_kindsThatRang_13n, zr_X_kindsThatRang_14, zr_X_kindsThatRang_15, zr_X_kindsThatRang_17, zr_X_kindsThatRang_18, zr_X_kindsThatRang_21, zr_X_kindsThatRang_22, zr_X_kindsThatRang_25, zr_X_kindsThatRang_28, zr_X_kindsThatRang_29, zr_X_kindsThatRang_32, zr_X_kindsThatRang_33, zr_X_kindsThatRang_36, zr_X_kindsThatRang_39, zr_X_kindsThatRang_42, zr_X_kindsThatRang_43, zr_X_kindsThatRang_44, zr_X_kindsThatRang_46, zr_X_kindsThatRang_47, zr_X_kindsThatRang_48, zr_X_kindsThatRang_49, zr_X_kindsThatRang_52, zr_X_kindsThatRang_55, zr_X_kindsThatRang_56, int_8, c, hX.cls, hX.f0, hX.now.cls, sM_figureOf _ _ _ hX.now w hj, sM_rungOf _ _ _ hX.now w hj, sX_houseOf _ _ _ hX hi q2, g1, z_obs, z_pu_s, z_pu_n, z00, z10, ↓reduceIte, true_or, or_true, z_b_t, z_b_f, nI_1, Bool.false_eq_true]
    · rw [hb] at g1
      simp only [zr_X_kindsThatRang_0, zr_X_kindsThatRang_1, zr_X_kindsThatRang_2, zr_X_kindsThatRang_3, zr_X_kindsThatRang_7, zr_X_kindsThatRang_9, zr_X_kindsThatRang_12, zr_X_kindsThatRang_13, zr_X_kindsThatRang_13n, zr_X_kindsThatRang_14, zr_X_kindsThatRang_15, zr_X_kindsThatRang_17, zr_X_kindsThatRang_18, zr_X_kindsThatRang_21, zr_X_kindsThatRang_22, zr_X_kindsThatRang_25, zr_X_kindsThatRang_28, zr_X_kindsThatRang_29, zr_X_kindsThatRang_32, zr_X_kindsThatRang_33, zr_X_kindsThatRang_36, zr_X_kindsThatRang_39, zr_X_kindsThatRang_42, zr_X_kindsThatRang_43, zr_X_kindsThatRang_44, zr_X_kindsThatRang_46, zr_X_kindsThatRang_47, zr_X_kindsThatRang_48, zr_X_kindsThatRang_49, zr_X_kindsThatRang_52, zr_X_kindsThatRang_55, zr_X_kindsThatRang_56, int_8, c, hX.cls, hX.f0, hX.now.cls, sM_figureOf _ _ _ hX.now w hj, sM_rungOf _ _ _ hX.now w hj, sX_houseOf _ _ _ hX hi q2, g1, z_obs, z_pu_s, z_pu_n, z00, z10, ↓reduceIte, true_or, or_true, z_b_t, z_b_f, nI_1]) 8 0 0 () G (by omega) ⟨h1, h2⟩
  refine ⟨G', ?_, p⟩
  rw [← kdI_mk, show kdI (whK s so sz el j) 8 = foldN (fun i a => if whK s so sz el j i = true then a ||| (1 : Int32) <<< (nI i &&& 31) else a) 8 0 0 from rfl, ← e]
  simp only [zm_X_kindsThatRang, zr_X_kindsThatRang_0, zr_X_kindsThatRang_1, zr_X_kindsThatRang_2, zr_X_kindsThatRang_3]
  rfl
theorem sX_figures (h1 : XW G x s ib u hs n) (w : WF s) (h2 : FX x G0 G) {q so sz : Nat} {el : Nat → Int32} (hR : RA G0 q so sz el) (hq : x + 134 ≤ q) (hso : so < 3) (hz : sz ≤ 100) {j : Nat} (hj : j < s 0) : ∃ G', z_evM E i_X_figuresThatRang lv [.ref x, .ref q, .int (nI j)] N k G = some (some (.int (mkI (whF s so sz el j) 10)), N, k, G') ∧ XW G' x s ib u hs n ∧ FX x G0 G' := by
  obtain ⟨q1, q2, q3, q4, q5⟩ := w.2.2.2 j hj
  obtain ⟨G', _, e, p⟩ := z_loopG (fun i (a : Int32) (_ : Unit) G => z_ev E i_X_figuresThatRang lv 5 [some (.ref x), some (.ref q), some (.int (nI j)), some (.int a), some (.int (nI i))] [] N k G) (fun i a => if whF s so sz el j i = true then a ||| (1 : Int32) <<< (nI i &&& 31) else a) (fun i a G' => XW G' x s ib u hs n ∧ FX x G0 G') 10 (fun a _ G => some (some (.int a), N, k, G)) (fun a _ G1 hP => by
    have c : nI 10 ≤ nI 10 := nI_le (Nat.le_refl _) (by omega)
    simp only [zr_X_figuresThatRang_5, zr_X_figuresThatRang_7, zr_X_figuresThatRang_9, zr_X_figuresThatRang_55, zr_X_figuresThatRang_56, int_10, c, z_obs, z_pu_s, z_pu_n, z00, z10, ↓reduceIte, true_or, or_true, z_b_t, z_b_f]) (fun i a _ G1 hi hP => by
    have c : ¬ nI 10 ≤ nI i := nI_ge hi (by omega)
    obtain ⟨G2, g1, g2, g3⟩ := sX_couldRing (E := E) 0 N k hP.1 w hP.2 hR hq hso hz q1 hi q4
    refine ⟨G2, (), ?_, g2, g3⟩
    rw [zr_X_figuresThatRang_5]
    unfold whF
    have hX := hP.1
    cases hb : crP so el (sK s j) i sz 0 (sR s j) (s 1)
    · rw [hb] at g1
      simp only [zr_X_figuresThatRang_0, zr_X_figuresThatRang_1, zr_X_figuresThatRang_2, zr_X_figuresThatRang_3, zr_X_figuresThatRang_7, zr_X_figuresThatRang_9, zr_X_figuresThatRang_12, zr_X_figuresThatRang_13, zr_X_figuresThatRang_13n, zr_X_figuresThatRang_14, zr_X_figuresThatRang_15, zr_X_figuresThatRang_16, zr_X_figuresThatRang_19, zr_X_figuresThatRang_20, zr_X_figuresThatRang_23, zr_X_figuresThatRang_25, zr_X_figuresThatRang_28, zr_X_figuresThatRang_29, zr_X_figuresThatRang_32, zr_X_figuresThatRang_33, zr_X_figuresThatRang_36, zr_X_figuresThatRang_39, zr_X_figuresThatRang_42, zr_X_figuresThatRang_43, zr_X_figuresThatRang_44, zr_X_figuresThatRang_46, zr_X_figuresThatRang_47, zr_X_figuresThatRang_48, zr_X_figuresThatRang_49, zr_X_figuresThatRang_52, zr_X_figuresThatRang_55, zr_X_figuresThatRang_56, int_10, c, hX.cls, hX.f0, hX.now.cls, sM_kindOf _ _ _ hX.now w hj, sM_rungOf _ _ _ hX.now w hj, sX_houseOf _ _ _ hX q1 hi, g1, z_obs, z_pu_s, z_pu_n, z00, z10, ↓reduceIte, true_or, or_true, z_b_t, z_b_f, nI_1, Bool.false_eq_true]
    · rw [hb] at g1
      simp only [zr_X_figuresThatRang_0, zr_X_figuresThatRang_1, zr_X_figuresThatRang_2, zr_X_figuresThatRang_3, zr_X_figuresThatRang_7, zr_X_figuresThatRang_9, zr_X_figuresThatRang_12, zr_X_figuresThatRang_13, zr_X_figuresThatRang_13n, zr_X_figuresThatRang_14, zr_X_figuresThatRang_15, zr_X_figuresThatRang_16, zr_X_figuresThatRang_19, zr_X_figuresThatRang_20, zr_X_figuresThatRang_23, zr_X_figuresThatRang_25, zr_X_figuresThatRang_28, zr_X_figuresThatRang_29, zr_X_figuresThatRang_32, zr_X_figuresThatRang_33, zr_X_figuresThatRang_36, zr_X_figuresThatRang_39, zr_X_figuresThatRang_42, zr_X_figuresThatRang_43, zr_X_figuresThatRang_44, zr_X_figuresThatRang_46, zr_X_figuresThatRang_47, zr_X_figuresThatRang_48, zr_X_figuresThatRang_49, zr_X_figuresThatRang_52, zr_X_figuresThatRang_55, zr_X_figuresThatRang_56, int_10, c, hX.cls, hX.f0, hX.now.cls, sM_kindOf _ _ _ hX.now w hj, sM_rungOf _ _ _ hX.now w hj, sX_houseOf _ _ _ hX q1 hi, g1, z_obs, z_pu_s, z_pu_n, z00, z10, ↓reduceIte, true_or, or_true, z_b_t, z_b_f, nI_1]) 10 0 0 () G (by omega) ⟨h1, h2⟩
  refine ⟨G', ?_, p⟩
  rw [← kdI_mk, show kdI (whF s so sz el j) 10 = foldN (fun i a => if whF s so sz el j i = true then a ||| (1 : Int32) <<< (nI i &&& 31) else a) 10 0 0 from rfl, ← e]
  simp only [zm_X_figuresThatRang, zr_X_figuresThatRang_0, zr_X_figuresThatRang_1, zr_X_figuresThatRang_2, zr_X_figuresThatRang_3]
  rfl
theorem sX_mayBe (h1 : XW G x s ib u hs n) {q so sz : Nat} {el : Nat → Int32} (hR : RA G q so sz el) (hz : sz ≤ 100) (b y : Int32) : z_evM E i_X_mayBeHeard lv [.ref x, .ref q, .int b, .int y] N k G = some (some (.int (z_b (isB s b && (is01 y && decide (sz ≤ 48))))), N, k, G) := by
  cases hb : isB s b
  · simp only [zm_X_mayBeHeard, zr_X_mayBeHeard_0, zr_X_mayBeHeard_1, zr_X_mayBeHeard_4, zr_X_mayBeHeard_5, zr_X_mayBeHeard_8, zr_X_mayBeHeard_27, zr_X_mayBeHeard_28, zr_X_mayBeHeard_31, zr_X_mayBeHeard_32, h1.f0, h1.now.cls, sM_has _ _ _ h1.now, hb, z_obs, z_pu_s, z_pu_n, z00, z10, ↓reduceIte, true_or, or_true, z_b_t, z_b_f, Bool.false_and]
  · cases hy : is01 y
    · simp only [zm_X_mayBeHeard, zr_X_mayBeHeard_0, zr_X_mayBeHeard_1, zr_X_mayBeHeard_4, zr_X_mayBeHeard_5, zr_X_mayBeHeard_8, zr_X_mayBeHeard_11, zr_X_mayBeHeard_12, zr_X_mayBeHeard_15, zr_X_mayBeHeard_18, zr_X_mayBeHeard_18n, zr_X_mayBeHeard_19, zr_X_mayBeHeard_22, zr_X_mayBeHeard_24, zr_X_mayBeHeard_27, zr_X_mayBeHeard_28, zr_X_mayBeHeard_31, zr_X_mayBeHeard_32, h1.f0, h1.now.cls, sM_has _ _ _ h1.now, hb, sX_is01, hy, z_obs, z_pu_s, z_pu_n, z00, z10, ↓reduceIte, true_or, or_true, z_b_t, z_b_f, Bool.false_and, Bool.true_and]
    · by_cases hle : sz ≤ 48
      · have c : ¬ nI 48 < nI sz := nI_nlt hle (by omega)
        simp only [zm_X_mayBeHeard, zr_X_mayBeHeard_0, zr_X_mayBeHeard_1, zr_X_mayBeHeard_4, zr_X_mayBeHeard_5, zr_X_mayBeHeard_8, zr_X_mayBeHeard_11, zr_X_mayBeHeard_12, zr_X_mayBeHeard_15, zr_X_mayBeHeard_18, zr_X_mayBeHeard_18n, zr_X_mayBeHeard_19, zr_X_mayBeHeard_22, zr_X_mayBeHeard_24, zr_X_mayBeHeard_27, zr_X_mayBeHeard_28, zr_X_mayBeHeard_31, zr_X_mayBeHeard_32, h1.f0, h1.now.cls, sM_has _ _ _ h1.now, hb, sX_is01, hy, hR.cls, sR_length _ _ _ hR, int_48, c, hle, decide_true, z_obs, z_pu_s, z_pu_n, z00, z10, ↓reduceIte, true_or, or_true, z_b_t, z_b_f, Bool.true_and]
      · have c : nI 48 < nI sz := nI_lt (by omega) (by omega)
        simp only [zm_X_mayBeHeard, zr_X_mayBeHeard_0, zr_X_mayBeHeard_1, zr_X_mayBeHeard_4, zr_X_mayBeHeard_5, zr_X_mayBeHeard_8, zr_X_mayBeHeard_11, zr_X_mayBeHeard_12, zr_X_mayBeHeard_15, zr_X_mayBeHeard_18, zr_X_mayBeHeard_18n, zr_X_mayBeHeard_19, zr_X_mayBeHeard_22, zr_X_mayBeHeard_24, zr_X_mayBeHeard_27, zr_X_mayBeHeard_28, zr_X_mayBeHeard_31, zr_X_mayBeHeard_32, h1.f0, h1.now.cls, sM_has _ _ _ h1.now, hb, sX_is01, hy, hR.cls, sR_length _ _ _ hR, int_48, c, hle, decide_false, z_obs, z_pu_s, z_pu_n, z00, z10, ↓reduceIte, true_or, or_true, z_b_t, z_b_f, Bool.true_and]
theorem sX_whyNot_1 (h1 : XW G x s ib u hs n) (d : Int32) {b y : Int32} (hby : isB s b = false ∨ is01 y = false) : z_evM E i_X_whyNotHeard lv [.ref x, .int d, .int b, .int y] N k G = some (some (.int (-1)), N, k, G) := by
  cases hb : isB s b
  · simp only [zm_X_whyNotHeard, zr_X_whyNotHeard_0, zr_X_whyNotHeard_1, zr_X_whyNotHeard_4, zr_X_whyNotHeard_5, zr_X_whyNotHeard_8, zr_X_whyNotHeard_18, zr_X_whyNotHeard_19, h1.f0, h1.now.cls, sM_has _ _ _ h1.now, hb, z_obs, z_pu_s, z_pu_n, z00, z10, ↓reduceIte, true_or, or_true, z_b_t, z_b_f]
  · rcases hby with hby | hy
    · rw [hb] at hby; cases hby
    · simp only [zm_X_whyNotHeard, zr_X_whyNotHeard_0, zr_X_whyNotHeard_1, zr_X_whyNotHeard_4, zr_X_whyNotHeard_5, zr_X_whyNotHeard_8, zr_X_whyNotHeard_11, zr_X_whyNotHeard_12, zr_X_whyNotHeard_15, zr_X_whyNotHeard_18, zr_X_whyNotHeard_19, h1.f0, h1.now.cls, sM_has _ _ _ h1.now, hb, sX_is01, hy, z_obs, z_pu_s, z_pu_n, z00, z10, ↓reduceIte, true_or, or_true, z_b_t, z_b_f]
theorem sX_whyNot_2 (h1 : XW G x s ib u hs n) {d : Int32} (hd : lkR hs d ≠ 0) {b y : Int32} (hb : isB s b = true) (hy : is01 y = true) : z_evM E i_X_whyNotHeard lv [.ref x, .int d, .int b, .int y] N k G = some (some (.int (lkR hs d)), N, k, G) := by
  simp only [zm_X_whyNotHeard, zr_X_whyNotHeard_0, zr_X_whyNotHeard_1, zr_X_whyNotHeard_4, zr_X_whyNotHeard_5, zr_X_whyNotHeard_8, zr_X_whyNotHeard_11, zr_X_whyNotHeard_12, zr_X_whyNotHeard_15, zr_X_whyNotHeard_18, zr_X_whyNotHeard_19, zr_X_whyNotHeard_20, zr_X_whyNotHeard_21, zr_X_whyNotHeard_22, zr_X_whyNotHeard_25, zr_X_whyNotHeard_25n, zr_X_whyNotHeard_28, zr_X_whyNotHeard_29, zr_X_whyNotHeard_30, zr_X_whyNotHeard_33, zr_X_whyNotHeard_36, zr_X_whyNotHeard_38, h1.cls, h1.f0, h1.now.cls, sM_has _ _ _ h1.now, hb, sX_is01, hy, rowOn_lk _ _ _ h1 hd, sX_lackOfRow _ _ _ h1 hd, z_obs, z_pu_s, z_pu_n, z00, z10, ↓reduceIte, true_or, or_true, z_b_t, z_b_f]
theorem sX_whyNot_3 (h1 : XW G x s ib u hs n) {d so sz : Nat} {el : Nat → Int32} (hd : d < 8) (e : hs d = Sh.ro so sz el) {b y : Int32} (hb : isB s b = true) (hy : is01 y = true) : z_evM E i_X_whyNotHeard lv [.ref x, .int (nI d), .int b, .int y] N k G = some (some (.int (-13)), N, k, G) := by
  obtain ⟨r, r1, -⟩ := sX_rowOn_ro (E := E) h1 hd e
  simp only [zm_X_whyNotHeard, zr_X_whyNotHeard_0, zr_X_whyNotHeard_1, zr_X_whyNotHeard_4, zr_X_whyNotHeard_5, zr_X_whyNotHeard_8, zr_X_whyNotHeard_11, zr_X_whyNotHeard_12, zr_X_whyNotHeard_15, zr_X_whyNotHeard_18, zr_X_whyNotHeard_19, zr_X_whyNotHeard_20, zr_X_whyNotHeard_21, zr_X_whyNotHeard_22, zr_X_whyNotHeard_25, zr_X_whyNotHeard_25n, zr_X_whyNotHeard_28, zr_X_whyNotHeard_29, zr_X_whyNotHeard_30, zr_X_whyNotHeard_33, zr_X_whyNotHeard_36, zr_X_whyNotHeard_38, h1.cls, h1.f0, h1.now.cls, sM_has _ _ _ h1.now, hb, sX_is01, hy, r1, z_obs, z_pu_s, z_pu_n, z00, z10, ↓reduceIte, true_or, or_true, z_b_t, z_b_f]
theorem xWhatRang (h1 : XW G x s ib u hs n) (w : WF s) (d b y : Int32) : ∃ G', z_evM E i_X_whatRang lv [.ref x, .int d, .int b, .int y] N k G = some (some (.int (aWhatRang s hs d b y)), N, k, G') ∧ XW G' x s ib u hs n ∧ XF x G G' := by
  unfold aWhatRang
  by_cases hl : lkR hs d ≠ 0
  · refine ⟨G, ?_, h1, XF.rf⟩
    cases hb : isB s b
    · simp only [zm_X_whatRang, zr_X_whatRang_0, zr_X_whatRang_1, zr_X_whatRang_2, zr_X_whatRang_5, zr_X_whatRang_5n, zr_X_whatRang_7, zr_X_whatRang_7n, zr_X_whatRang_9, zr_X_whatRang_9n, zr_X_whatRang_12, zr_X_whatRang_13, zr_X_whatRang_13n, zr_X_whatRang_15, zr_X_whatRang_16, zr_X_whatRang_17, zr_X_whatRang_20, zr_X_whatRang_23, zr_X_whatRang_24, zr_X_whatRang_25, zr_X_whatRang_26, zr_X_whatRang_27, zr_X_whatRang_30, h1.cls, rowOn_lk _ _ _ h1 hl, sX_whyNot_1 _ _ _ h1 d (Or.inl hb), z_obs, z_pu_s, z_pu_n, z00, z10, ↓reduceIte, true_or, or_true, z_b_t, z_b_f, Bool.false_eq_true, false_and]
    · cases hy : is01 y
      · simp only [zm_X_whatRang, zr_X_whatRang_0, zr_X_whatRang_1, zr_X_whatRang_2, zr_X_whatRang_5, zr_X_whatRang_5n, zr_X_whatRang_7, zr_X_whatRang_7n, zr_X_whatRang_9, zr_X_whatRang_9n, zr_X_whatRang_12, zr_X_whatRang_13, zr_X_whatRang_13n, zr_X_whatRang_15, zr_X_whatRang_16, zr_X_whatRang_17, zr_X_whatRang_20, zr_X_whatRang_23, zr_X_whatRang_24, zr_X_whatRang_25, zr_X_whatRang_26, zr_X_whatRang_27, zr_X_whatRang_30, h1.cls, rowOn_lk _ _ _ h1 hl, sX_whyNot_1 _ _ _ h1 d (Or.inr hy), z_obs, z_pu_s, z_pu_n, z00, z10, ↓reduceIte, true_or, or_true, z_b_t, z_b_f, Bool.false_eq_true, and_false]
      · simp only [zm_X_whatRang, zr_X_whatRang_0, zr_X_whatRang_1, zr_X_whatRang_2, zr_X_whatRang_5, zr_X_whatRang_5n, zr_X_whatRang_7, zr_X_whatRang_7n, zr_X_whatRang_9, zr_X_whatRang_9n, zr_X_whatRang_12, zr_X_whatRang_13, zr_X_whatRang_13n, zr_X_whatRang_15, zr_X_whatRang_16, zr_X_whatRang_17, zr_X_whatRang_20, zr_X_whatRang_23, zr_X_whatRang_24, zr_X_whatRang_25, zr_X_whatRang_26, zr_X_whatRang_27, zr_X_whatRang_30, h1.cls, rowOn_lk _ _ _ h1 hl, sX_whyNot_2 _ _ _ h1 hl hb hy, z_obs, z_pu_s, z_pu_n, z00, z10, ↓reduceIte, true_or, or_true, z_b_t, z_b_f, and_self, ne_eq, hl, not_false_eq_true]
  · obtain ⟨d, so, sz, el, hd, rfl, e⟩ := lkR_ro hl
    obtain ⟨r, r1, r2, r3, r4, r5, r6⟩ := sX_rowOn_ro (E := E) h1 hd e
    rw [if_neg hl, jN_nI (show d < 2 ^ 31 by omega), e]
    cases hb : isB s b
    · refine ⟨G, ?_, h1, XF.rf⟩
      simp only [zm_X_whatRang, zr_X_whatRang_0, zr_X_whatRang_1, zr_X_whatRang_2, zr_X_whatRang_5, zr_X_whatRang_5n, zr_X_whatRang_7, zr_X_whatRang_7n, zr_X_whatRang_9, zr_X_whatRang_9n, zr_X_whatRang_12, zr_X_whatRang_13, zr_X_whatRang_13n, zr_X_whatRang_15, zr_X_whatRang_16, zr_X_whatRang_17, zr_X_whatRang_20, zr_X_whatRang_23, zr_X_whatRang_24, zr_X_whatRang_25, zr_X_whatRang_26, zr_X_whatRang_27, zr_X_whatRang_30, h1.cls, r1, sX_mayBe _ _ _ h1 r2 r6, hb, sX_whyNot_1 _ _ _ h1 _ (Or.inl hb), z_obs, z_pu_s, z_pu_n, z00, z10, ↓reduceIte, true_or, or_true, z_b_t, z_b_f, Bool.false_eq_true, false_and, Bool.false_and]
    · cases hy : is01 y
      · refine ⟨G, ?_, h1, XF.rf⟩
        simp only [zm_X_whatRang, zr_X_whatRang_0, zr_X_whatRang_1, zr_X_whatRang_2, zr_X_whatRang_5, zr_X_whatRang_5n, zr_X_whatRang_7, zr_X_whatRang_7n, zr_X_whatRang_9, zr_X_whatRang_9n, zr_X_whatRang_12, zr_X_whatRang_13, zr_X_whatRang_13n, zr_X_whatRang_15, zr_X_whatRang_16, zr_X_whatRang_17, zr_X_whatRang_20, zr_X_whatRang_23, zr_X_whatRang_24, zr_X_whatRang_25, zr_X_whatRang_26, zr_X_whatRang_27, zr_X_whatRang_30, h1.cls, r1, sX_mayBe _ _ _ h1 r2 r6, hb, hy, sX_whyNot_1 _ _ _ h1 _ (Or.inr hy), z_obs, z_pu_s, z_pu_n, z00, z10, ↓reduceIte, true_or, or_true, z_b_t, z_b_f, Bool.false_eq_true, and_false, Bool.false_and, Bool.true_and]
      · by_cases hle : sz ≤ 48
        · obtain ⟨j, hj, rfl⟩ := isB_of w hb
          have hn : ¬ 48 < sz := by omega
          rw [jNb w hj]
          simp only [and_self, ↓reduceIte, hn]
          by_cases h0 : y = 0
          · subst h0
            obtain ⟨G', g1, g2, g3⟩ := sX_kinds (E := E) 0 N k h1 w FX.rf r2 r3 r5 r6 hj
            refine ⟨G', ?_, g2, g3.xf⟩
            simp only [zm_X_whatRang, zr_X_whatRang_0, zr_X_whatRang_1, zr_X_whatRang_2, zr_X_whatRang_5, zr_X_whatRang_5n, zr_X_whatRang_7, zr_X_whatRang_7n, zr_X_whatRang_9, zr_X_whatRang_9n, zr_X_whatRang_12, zr_X_whatRang_13, zr_X_whatRang_13n, zr_X_whatRang_15, zr_X_whatRang_16, zr_X_whatRang_17, zr_X_whatRang_20, zr_X_whatRang_23, zr_X_whatRang_24, zr_X_whatRang_25, zr_X_whatRang_26, zr_X_whatRang_27, zr_X_whatRang_30, zr_X_whatRang_31, zr_X_whatRang_32, zr_X_whatRang_35, zr_X_whatRang_36, zr_X_whatRang_36n, zr_X_whatRang_38, zr_X_whatRang_39, zr_X_whatRang_42, zr_X_whatRang_45, zr_X_whatRang_46, zr_X_whatRang_46n, zr_X_whatRang_48, zr_X_whatRang_49, zr_X_whatRang_52, h1.cls, r1, sX_mayBe _ _ _ h1 r2 r6, hb, hy, hle, decide_true, z_obs, z_pu_s, z_pu_n, z00, z10, ↓reduceIte, true_or, or_true, z_b_t, z_b_f, Bool.true_and, g1]
          · obtain ⟨G', g1, g2, g3⟩ := sX_figures (E := E) 0 N k h1 w FX.rf r2 r3 r5 r6 hj
            refine ⟨G', ?_, g2, g3.xf⟩
            simp only [zm_X_whatRang, zr_X_whatRang_0, zr_X_whatRang_1, zr_X_whatRang_2, zr_X_whatRang_5, zr_X_whatRang_5n, zr_X_whatRang_7, zr_X_whatRang_7n, zr_X_whatRang_9, zr_X_whatRang_9n, zr_X_whatRang_12, zr_X_whatRang_13, zr_X_whatRang_13n, zr_X_whatRang_15, zr_X_whatRang_16, zr_X_whatRang_17, zr_X_whatRang_20, zr_X_whatRang_23, zr_X_whatRang_24, zr_X_whatRang_25, zr_X_whatRang_26, zr_X_whatRang_27, zr_X_whatRang_30, zr_X_whatRang_31, zr_X_whatRang_32, zr_X_whatRang_35, zr_X_whatRang_36, zr_X_whatRang_36n, zr_X_whatRang_38, zr_X_whatRang_39, zr_X_whatRang_42, zr_X_whatRang_45, zr_X_whatRang_46, zr_X_whatRang_46n, zr_X_whatRang_48, zr_X_whatRang_49, zr_X_whatRang_52, h1.cls, r1, sX_mayBe _ _ _ h1 r2 r6, hb, hy, hle, decide_true, z_obs, z_pu_s, z_pu_n, z00, z10, ↓reduceIte, true_or, or_true, z_b_t, z_b_f, Bool.true_and, h0, g1]
        · refine ⟨G, ?_, h1, XF.rf⟩
          have hn : 48 < sz := by omega
          simp only [zm_X_whatRang, zr_X_whatRang_0, zr_X_whatRang_1, zr_X_whatRang_2, zr_X_whatRang_5, zr_X_whatRang_5n, zr_X_whatRang_7, zr_X_whatRang_7n, zr_X_whatRang_9, zr_X_whatRang_9n, zr_X_whatRang_12, zr_X_whatRang_13, zr_X_whatRang_13n, zr_X_whatRang_15, zr_X_whatRang_16, zr_X_whatRang_17, zr_X_whatRang_20, zr_X_whatRang_23, zr_X_whatRang_24, zr_X_whatRang_25, zr_X_whatRang_26, zr_X_whatRang_27, zr_X_whatRang_30, h1.cls, r1, sX_mayBe _ _ _ h1 r2 r6, hb, hy, hle, decide_false, sX_whyNot_3 _ _ _ h1 hd e hb hy, z_obs, z_pu_s, z_pu_n, z00, z10, ↓reduceIte, true_or, or_true, z_b_t, z_b_f, Bool.true_and, and_self, hn]
end
