/-! THE CLASS: told, come, rung, gone by; who is at home -/
theorem z_loopJ {α β : Type} (V : Nat → α → β → Option z_R) (f : Nat → α → α) (N : Nat) (R : α → Option z_R) (hx : ∀ acc j, V N acc j = R acc) (hs : ∀ i acc j, i < N → ∃ j', V i acc j = V (i + 1) (f i acc) j') : ∀ m i acc j, i + m = N → V i acc j = R (foldN f m i acc) := by
  intro m
  induction m with
  | zero => intro i acc j h; rw [show i = N by omega]; exact hx acc j
  | succ m ih =>
    intro i acc j h
    obtain ⟨j', e⟩ := hs i acc j (by omega)
    rw [e]; exact ih (i + 1) _ j' (by omega)
theorem z_loopP {α β : Type} (V : Nat → α → β → Option z_R) (f : Nat → α → α) (P : Nat → α → Prop) (N : Nat) (R : α → Option z_R) (hx : ∀ acc j, P N acc → V N acc j = R acc) (hs : ∀ i acc j, i < N → P i acc → P (i + 1) (f i acc) ∧ ∃ j', V i acc j = V (i + 1) (f i acc) j') : ∀ m i acc j, i + m = N → P i acc → V i acc j = R (foldN f m i acc) := by
  intro m
  induction m with
  | zero => intro i acc j h p; have e : i = N := by omega
            subst e; exact hx acc j p
  | succ m ih =>
    intro i acc j h p
    obtain ⟨p', j', e⟩ := hs i acc j (by omega) p
    rw [e]; exact ih (i + 1) _ j' (by omega) p'
def inAB (x : Int32) (a b : Nat) : Bool := decide (nI a ≤ x) && decide (x ≤ nI b)
theorem inAB_of {x : Int32} {a b : Nat} (hab : a ≤ b) (hb : b < 2 ^ 31) (h : inAB x a b = true) : ∃ j, a ≤ j ∧ j ≤ b ∧ x = nI j := by
  unfold inAB at h
  simp only [Bool.and_eq_true, decide_eq_true_eq] at h
  have h0 : 0 ≤ x := Int32.le_trans (nI_pos' (show a < 2 ^ 31 by omega)) h.1
  obtain ⟨j, h1, rfl⟩ := nI_of (Int32.not_lt.mpr h0)
  exact ⟨j, (nI_leI (by omega) h1).mp h.1, (nI_leI h1 hb).mp h.2, rfl⟩
theorem inAB_nI {j a b : Nat} (hb : b < 2 ^ 31) (h1 : a ≤ j) (h2 : j ≤ b) : inAB (nI j) a b = true := by
  unfold inAB
  simp only [Bool.and_eq_true, decide_eq_true_eq]
  exact ⟨nI_le h1 (by omega), nI_le h2 hb⟩
theorem inAB_f {x : Int32} {a b : Nat} (h : inAB x a b = false) : x < nI a ∨ (¬ x < nI a ∧ nI a ≤ x ∧ ¬ x ≤ nI b ∧ nI b < x) := by
  unfold inAB at h
  by_cases h1 : x < nI a
  · exact Or.inl h1
  · have h1' : nI a ≤ x := Int32.not_lt.mp h1
    simp only [h1', decide_true, Bool.true_and, decide_eq_false_iff_not] at h
    exact Or.inr ⟨h1, h1', h, Int32.not_le.mp h⟩
theorem inAB_t {x : Int32} {a b : Nat} (h : inAB x a b = true) : ¬ x < nI a ∧ nI a ≤ x ∧ x ≤ nI b ∧ ¬ nI b < x := by
  unfold inAB at h
  simp only [Bool.and_eq_true, decide_eq_true_eq] at h
  exact ⟨Int32.not_lt.mpr h.1, h.1, h.2, Int32.not_lt.mpr h.2⟩
def jN (x : Int32) : Nat := x.toNatClampNeg
theorem jN_nI {j : Nat} (h : j < 2 ^ 31) : jN (nI j) = j := nI_clamp h
/-- behind how many hours b opens first -/
def soN (s : Nat → Nat) (b : Nat) : Option Nat := opn (fun i => sH s b (s 1 + i)) 48 0 (sW s b - sR s b)
theorem opn_lt {p : Nat → Bool} : ∀ m i l r, opn p m i l = some r → i ≤ r ∧ r < i + m := by
  intro m
  induction m with
  | zero => intro i l r h; cases h
  | succ m ih =>
    intro i l r h
    unfold opn at h
    generalize (if p i = true then l - 1 else l) = l' at h
    by_cases e : l' = 0
    · rw [if_pos e] at h; injection h with h; omega
    · rw [if_neg e] at h; have := ih _ _ _ h; omega
theorem soN_lt {s : Nat → Nat} {b r : Nat} (h : soN s b = some r) : r < 48 := by have := opn_lt _ _ _ _ h; omega
def aBell (s : Nat → Nat) (b y : Int32) : Int32 := if isB s b = true then toldI s (jN b) y else -1
def aComes (s : Nat → Nat) (hs : Nat → Sh) (d p : Int32) : Int32 × (Nat → Nat) := if inR p 31 = false then (-1, s) else if lkB hs d ≠ 0 then (lkB hs d, s) else match hs (jN d) with
  | .inr (.inl (k, f)) => if s 0 = 6 then (-2, s) else (nI (s 0), adS s k f (jN p))
  | _ => (-1, s)
def aRings (s : Nat → Nat) (b : Int32) : Int32 × (Nat → Nat) := if isB s b = true then (nI (rgH s (jN b)), rgS s (jN b)) else (-1, s)
def aHours (s : Nat → Nat) (y : Int32) : Int32 × (Nat → Nat) := if inAB y 1 99 = true then (if s 2 + (s 1 + jN y) / 24 ≤ 999 then (nI ((s 1 + jN y) % 24), psS s (jN y)) else (-3, s)) else (-1, s)
def aMoves (s : Nat → Nat) (b p : Int32) : Int32 × (Nat → Nat) := if isB s b = true ∧ inR p 31 = true then (nI (sP s (jN b)), uN s (5 + 5 * jN b) (jN p)) else (-1, s)
def aHome (s : Nat → Nat) (y : Int32) : Int32 := if inR y 24 = true then hmI s (jN y) else -1
def aHoursOf (s : Nat → Nat) (b : Int32) : Int32 := if isB s b = true then hb (sK s (jN b)) (sF s (jN b)) else -1
def aSoonest (s : Nat → Nat) (b : Int32) : Int32 := if isB s b = true then oI (soN s (jN b)) else -1
def aFewest (s : Nat → Nat) (b y : Int32) : Int32 := if isB s b = true ∧ inAB y 1 48 = true then (match soN s (jN b) with
  | some i => if i < jN y then nI (sW s (jN b) - sR s (jN b)) else -4
  | none => -4) else -1
def aNever (s : Nat → Nat) : Int32 := foldN (fun b acc => if soN s b = none then acc ||| (1 : Int32) <<< (nI b &&& 31) else acc) (s 0) 0 0
def frF (s : Nat → Nat) (b : Nat) (acc : Int32 × Nat) : Int32 × Nat := match soN s b with
  | some i => if i < acc.2 then (nI b, i) else acc
  | none => acc
def aFirst (s : Nat → Nat) : Int32 := (foldN (frF s) (s 0) 0 (-4, 48)).1
def aCount (s : Nat → Nat) (y : Int32) : Int32 := if y = 0 then nI (s 0) else if y = 1 then nI (s 1) else if y = 2 then nI (s 2) else if y = 3 then sumI s (sR s) else if y = 4 then sumI s (sO s) else if y = 5 then sumI s (sS s) else -1
def aCost (hs : Nat → Sh) (d : Int32) : Int32 := if lkB hs d ≠ 0 then lkB hs d else match hs (jN d) with
  | .inr (.inl (k, f)) => nI (prc k f)
  | _ => -1
theorem WF.b31 {s : Nat → Nat} (w : WF s) {j : Nat} (hj : j < s 0) : j < 2 ^ 31 := by have := w.1; omega
theorem jNb {s : Nat → Nat} (w : WF s) {j : Nat} (hj : j < s 0) : jN (nI j) = j := jN_nI (w.b31 hj)
section
variable {E : z_E} {G : z_H} {x : Nat} {s u : Nat → Nat} {ib : Bool} {hs : Nat → Sh} {n : Nat} (lv N k : Nat)
theorem xBell (h : XW G x s ib u hs n) (w : WF s) (b y : Int32) : z_evM E i_X_bell lv [.ref x, .int b, .int y] N k G = some (some (.int (aBell s b y)), N, k, G) := by
  unfold aBell
  cases hb : isB s b
  · simp only [zm_X_bell, zr_X_bell_0, zr_X_bell_1, zr_X_bell_4, zr_X_bell_5, zr_X_bell_6, zr_X_bell_9, h.f0, h.now.cls, sM_told_f _ _ _ h.now hb, z_obs, z_pu_s, z_pu_n, z00, z10, ↓reduceIte, true_or, or_true, z_b_t, z_b_f, Bool.false_eq_true]
  · obtain ⟨j, hj, rfl⟩ := isB_of w hb
    simp only [zm_X_bell, zr_X_bell_0, zr_X_bell_1, zr_X_bell_4, zr_X_bell_5, zr_X_bell_6, zr_X_bell_9, h.f0, h.now.cls, sM_told _ _ _ h.now w hj, z_obs, z_pu_s, z_pu_n, z00, z10, ↓reduceIte, true_or, or_true, z_b_t, z_b_f, jNb w hj]
theorem xComes (h : XW G x s ib u hs n) (w : WF s) (d p : Int32) : ∃ G', z_evM E i_X_comes lv [.ref x, .int d, .int p] N k G = some (some (.int (aComes s hs d p).1), N, k, G') ∧ XW G' x (aComes s hs d p).2 ib u hs n ∧ XF x G G' := by
  unfold aComes
  cases hp : inR p 31
  · refine ⟨G, ?_, h, XF.rf⟩
    simp only [zm_X_comes, zr_X_comes_0, zr_X_comes_1, zr_X_comes_4, zr_X_comes_7, zr_X_comes_8, zr_X_comes_9, zr_X_comes_10, zr_X_comes_11, zr_X_comes_14, zr_X_comes_14n, zr_X_comes_15, zr_X_comes_15n, zr_X_comes_16, zr_X_comes_16n, zr_X_comes_19, zr_X_comes_20, zr_X_comes_21, zr_X_comes_24, zr_X_comes_27, zr_X_comes_28, zr_X_comes_31, zr_X_comes_31n, zr_X_comes_32, zr_X_comes_33, zr_X_comes_36, h.cls, sX_isPlace, hp, z_obs, z_pu_s, z_pu_n, z00, z10, ↓reduceIte, true_or, or_true, z_b_t, z_b_f]
  · simp only [Bool.true_eq_false, ↓reduceIte]
    by_cases hl : lkB hs d ≠ 0
    · rw [if_pos hl]
      refine ⟨G, ?_, h, XF.rf⟩
      simp only [zm_X_comes, zr_X_comes_0, zr_X_comes_1, zr_X_comes_4, zr_X_comes_7, zr_X_comes_8, zr_X_comes_9, zr_X_comes_10, zr_X_comes_11, zr_X_comes_14, zr_X_comes_14n, zr_X_comes_15, zr_X_comes_15n, zr_X_comes_16, zr_X_comes_16n, zr_X_comes_19, zr_X_comes_20, zr_X_comes_21, zr_X_comes_24, zr_X_comes_27, zr_X_comes_28, zr_X_comes_31, zr_X_comes_31n, zr_X_comes_32, zr_X_comes_33, zr_X_comes_36, h.cls, sX_isPlace, hp, bellOn_lk _ _ _ h hl, sX_lackOfBell _ _ _ h hl, z_obs, z_pu_s, z_pu_n, z00, z10, ↓reduceIte, true_or, or_true, z_b_t, z_b_f]
    · rw [if_neg hl]
      obtain ⟨d, kk, ff, hd, rfl, e⟩ := lkB_be hl
      obtain ⟨r1, r2, r3, r4⟩ := sX_bellOn_be (E := E) 0 N k h hd e
      rw [jN_nI (by omega), e]
      simp only
      obtain ⟨p, hp', rfl⟩ := inR_of (by decide) hp
      by_cases h6 : s 0 = 6
      · rw [if_pos h6]
        refine ⟨G, ?_, h, XF.rf⟩
        simp only [zm_X_comes, zr_X_comes_0, zr_X_comes_1, zr_X_comes_4, zr_X_comes_7, zr_X_comes_8, zr_X_comes_9, zr_X_comes_10, zr_X_comes_11, zr_X_comes_14, zr_X_comes_14n, zr_X_comes_15, zr_X_comes_15n, zr_X_comes_16, zr_X_comes_16n, zr_X_comes_19, zr_X_comes_20, zr_X_comes_21, zr_X_comes_24, zr_X_comes_27, zr_X_comes_28, zr_X_comes_31, zr_X_comes_31n, zr_X_comes_32, zr_X_comes_33, zr_X_comes_36, h.cls, h.now.cls, sX_isPlace, hp, r1, h.f0, sM_add_f _ _ _ h.now h6, z_obs, z_pu_s, z_pu_n, z00, z10, ↓reduceIte, true_or, or_true, z_b_t, z_b_f]
      · rw [if_neg h6]
        have w1 := w.1
        obtain ⟨G', g1, g2, g3⟩ := sM_add (E := E) 0 N k (p := p) h.now r2 (by omega) (by omega)
        refine ⟨G', ?_, ?_, g3.xf (by omega) (by omega)⟩
        · simp only [zm_X_comes, zr_X_comes_0, zr_X_comes_1, zr_X_comes_4, zr_X_comes_7, zr_X_comes_8, zr_X_comes_9, zr_X_comes_10, zr_X_comes_11, zr_X_comes_14, zr_X_comes_14n, zr_X_comes_15, zr_X_comes_15n, zr_X_comes_16, zr_X_comes_16n, zr_X_comes_19, zr_X_comes_20, zr_X_comes_21, zr_X_comes_24, zr_X_comes_27, zr_X_comes_28, zr_X_comes_31, zr_X_comes_31n, zr_X_comes_32, zr_X_comes_33, zr_X_comes_36, h.cls, h.now.cls, sX_isPlace, hp, r1, h.f0, g1, z_obs, z_pu_s, z_pu_n, z00, z10, ↓reduceIte, true_or, or_true, z_b_t, z_b_f]
        · rw [jN_nI (by omega)]; exact h.nw g2 g3
theorem xRings (h : XW G x s ib u hs n) (w : WF s) (b : Int32) : ∃ G', z_evM E i_X_rings lv [.ref x, .int b] N k G = some (some (.int (aRings s b).1), N, k, G') ∧ XW G' x (aRings s b).2 ib u hs n ∧ XF x G G' := by
  unfold aRings
  cases hb : isB s b
  · refine ⟨G, ?_, h, XF.rf⟩
    simp only [zm_X_rings, zr_X_rings_0, zr_X_rings_1, zr_X_rings_4, zr_X_rings_5, zr_X_rings_8, h.f0, h.now.cls, sM_hear_f _ _ _ h.now hb, z_obs, z_pu_s, z_pu_n, z00, z10, ↓reduceIte, true_or, or_true, z_b_t, z_b_f, Bool.false_eq_true]
  · obtain ⟨j, hj, rfl⟩ := isB_of w hb
    obtain ⟨G', g1, g2, g3⟩ := sM_hear (E := E) 0 N k h.now w hj
    rw [jNb w hj]
    refine ⟨G', ?_, h.nw g2 g3, g3.xf (by omega) (by omega)⟩
    simp only [zm_X_rings, zr_X_rings_0, zr_X_rings_1, zr_X_rings_4, zr_X_rings_5, zr_X_rings_8, h.f0, h.now.cls, g1, z_obs, z_pu_s, z_pu_n, z00, z10, ↓reduceIte, true_or, or_true, z_b_t, z_b_f]
theorem xHours (h : XW G x s ib u hs n) (w : WF s) (h2 : s 2 ≤ 999) (y : Int32) : ∃ G', z_evM E i_X_hours lv [.ref x, .int y] N k G = some (some (.int (aHours s y).1), N, k, G') ∧ XW G' x (aHours s y).2 ib u hs n ∧ XF x G G' := by
  unfold aHours
  cases hy : inAB y 1 99
  · refine ⟨G, ?_, h, XF.rf⟩
    rcases inAB_f hy with c | ⟨c1, c2, c3, c4⟩
    · simp only [zm_X_hours, zr_X_hours_0, zr_X_hours_1, zr_X_hours_2, zr_X_hours_5, zr_X_hours_6, zr_X_hours_8, zr_X_hours_11, zr_X_hours_12, zr_X_hours_13, zr_X_hours_14, zr_X_hours_17, zr_X_hours_18, zr_X_hours_21, zr_X_hours_24, zr_X_hours_25, zr_X_hours_28, zr_X_hours_31, zr_X_hours_34, zr_X_hours_36, int_1, int_99, c, z_obs, z_pu_s, z_pu_n, z00, z10, ↓reduceIte, true_or, or_true, z_b_t, z_b_f, Bool.false_eq_true]
    · simp only [zm_X_hours, zr_X_hours_0, zr_X_hours_1, zr_X_hours_2, zr_X_hours_5, zr_X_hours_6, zr_X_hours_8, zr_X_hours_11, zr_X_hours_12, zr_X_hours_13, zr_X_hours_14, zr_X_hours_17, zr_X_hours_18, zr_X_hours_21, zr_X_hours_24, zr_X_hours_25, zr_X_hours_28, zr_X_hours_31, zr_X_hours_34, zr_X_hours_36, int_1, int_99, c1, c2, c3, c4, z_obs, z_pu_s, z_pu_n, z00, z10, ↓reduceIte, true_or, or_true, z_b_t, z_b_f, Bool.false_eq_true]
  · obtain ⟨c1, c2, c3, c4⟩ := inAB_t hy
    obtain ⟨m, m1, m2, rfl⟩ := inAB_of (by decide) (by decide) hy
    rw [jN_nI (by omega)]
    obtain ⟨G', g1, g2, g3⟩ := sM_pass (E := E) 0 N k h.now w (by omega) m2
    by_cases hle : s 2 + (s 1 + m) / 24 ≤ 999
    · rw [if_pos hle] at g2
      simp only [hle, decide_true, z_b_t] at g1
      simp only [hle, ↓reduceIte]
      have hX := h.nw g2 g3
      refine ⟨G', ?_, hX, g3.xf (by omega) (by omega)⟩
      have e1 : psS s m 1 = (s 1 + m) % 24 := by unfold psS; rw [uN_n _ _ (by omega), uN_s]
      simp only [zm_X_hours, zr_X_hours_0, zr_X_hours_1, zr_X_hours_2, zr_X_hours_5, zr_X_hours_6, zr_X_hours_8, zr_X_hours_11, zr_X_hours_12, zr_X_hours_13, zr_X_hours_14, zr_X_hours_17, zr_X_hours_18, zr_X_hours_21, zr_X_hours_24, zr_X_hours_25, zr_X_hours_28, zr_X_hours_31, zr_X_hours_34, zr_X_hours_36, int_1, int_99, c1, c2, c3, c4, h.f0, h.now.cls, g1, hX.f0, hX.now.f9, e1, z_obs, z_pu_s, z_pu_n, z00, z10, ↓reduceIte, true_or, or_true, z_b_t, z_b_f]
      simp only [← int_1, z_obs, z_pu_s, z_pu_n, z00, z10, ↓reduceIte, true_or, or_true, z_b_t, z_b_f, hX.f0, hX.now.f9, e1]
    · rw [if_neg hle] at g2
      simp only [hle, decide_false, z_b_f] at g1
      simp only [hle, ↓reduceIte]
      refine ⟨G', ?_, h.nw g2 g3, g3.xf (by omega) (by omega)⟩
      simp only [zm_X_hours, zr_X_hours_0, zr_X_hours_1, zr_X_hours_2, zr_X_hours_5, zr_X_hours_6, zr_X_hours_8, zr_X_hours_11, zr_X_hours_12, zr_X_hours_13, zr_X_hours_14, zr_X_hours_17, zr_X_hours_18, zr_X_hours_21, zr_X_hours_24, zr_X_hours_25, zr_X_hours_28, zr_X_hours_31, zr_X_hours_34, zr_X_hours_36, int_1, int_99, c1, c2, c3, c4, h.f0, h.now.cls, g1, z_obs, z_pu_s, z_pu_n, z00, z10, ↓reduceIte, true_or, or_true, z_b_t, z_b_f]
theorem xMoves (h : XW G x s ib u hs n) (w : WF s) (b p : Int32) : ∃ G', z_evM E i_X_moves lv [.ref x, .int b, .int p] N k G = some (some (.int (aMoves s b p).1), N, k, G') ∧ XW G' x (aMoves s b p).2 ib u hs n ∧ XF x G G' := by
  unfold aMoves
  by_cases hb : isB s b = true ∧ inR p 31 = true
  · rw [if_pos hb]
    obtain ⟨j, hj, rfl⟩ := isB_of w hb.1
    obtain ⟨p, hp, rfl⟩ := inR_of (by decide) hb.2
    obtain ⟨G', g1, g2, g3⟩ := sM_move (E := E) 0 N k h.now w hj hp
    rw [jNb w hj, jN_nI (show p < 2 ^ 31 by omega)]
    refine ⟨G', ?_, h.nw g2 g3, g3.xf (by omega) (by omega)⟩
    simp only [zm_X_moves, zr_X_moves_0, zr_X_moves_1, zr_X_moves_4, zr_X_moves_5, zr_X_moves_6, zr_X_moves_9, h.f0, h.now.cls, g1, z_obs, z_pu_s, z_pu_n, z00, z10, ↓reduceIte, true_or, or_true, z_b_t, z_b_f]
  · rw [if_neg hb]
    have hb' : isB s b = false ∨ inR p 31 = false := by
      cases h1 : isB s b
      · exact Or.inl rfl
      · cases h2 : inR p 31
        · exact Or.inr rfl
        · exact absurd ⟨h1, h2⟩ hb
    refine ⟨G, ?_, h, XF.rf⟩
    simp only [zm_X_moves, zr_X_moves_0, zr_X_moves_1, zr_X_moves_4, zr_X_moves_5, zr_X_moves_6, zr_X_moves_9, h.f0, h.now.cls, sM_move_f _ _ _ h.now hb', z_obs, z_pu_s, z_pu_n, z00, z10, ↓reduceIte, true_or, or_true, z_b_t, z_b_f]
theorem xHome (h : XW G x s ib u hs n) (w : WF s) (y : Int32) : z_evM E i_X_home lv [.ref x, .int y] N k G = some (some (.int (aHome s y)), N, k, G) := by
  unfold aHome
  cases hy : inR y 24
  · simp only [zm_X_home, zr_X_home_0, zr_X_home_1, zr_X_home_4, zr_X_home_7, zr_X_home_8, zr_X_home_11, zr_X_home_12, zr_X_home_15, zr_X_home_18, zr_X_home_19, sX_isHour, hy, z_obs, z_pu_s, z_pu_n, z00, z10, ↓reduceIte, true_or, or_true, z_b_t, z_b_f, Bool.false_eq_true]
  · obtain ⟨t, ht, rfl⟩ := inR_of (by decide) hy
    rw [jN_nI (by omega)]
    simp only [zm_X_home, zr_X_home_0, zr_X_home_1, zr_X_home_4, zr_X_home_7, zr_X_home_8, zr_X_home_11, zr_X_home_12, zr_X_home_15, zr_X_home_18, zr_X_home_19, sX_isHour, hy, h.f0, h.now.cls, sM_homeAt _ _ _ h.now w ht, z_obs, z_pu_s, z_pu_n, z00, z10, ↓reduceIte, true_or, or_true, z_b_t, z_b_f]
theorem xHoursOf (h : XW G x s ib u hs n) (w : WF s) (b : Int32) : z_evM E i_X_hoursOf lv [.ref x, .int b] N k G = some (some (.int (aHoursOf s b)), N, k, G) := by
  unfold aHoursOf
  cases hb : isB s b
  · simp only [zm_X_hoursOf, zr_X_hoursOf_0, zr_X_hoursOf_1, zr_X_hoursOf_4, zr_X_hoursOf_5, zr_X_hoursOf_8, h.f0, h.now.cls, sM_hoursOf_f _ _ _ h.now hb, z_obs, z_pu_s, z_pu_n, z00, z10, ↓reduceIte, true_or, or_true, z_b_t, z_b_f, Bool.false_eq_true]
  · obtain ⟨j, hj, rfl⟩ := isB_of w hb
    simp only [zm_X_hoursOf, zr_X_hoursOf_0, zr_X_hoursOf_1, zr_X_hoursOf_4, zr_X_hoursOf_5, zr_X_hoursOf_8, h.f0, h.now.cls, sM_hoursOf _ _ _ h.now w hj, z_obs, z_pu_s, z_pu_n, z00, z10, ↓reduceIte, true_or, or_true, z_b_t, z_b_f, jNb w hj]
theorem xSoonest (h : XW G x s ib u hs n) (w : WF s) (ws : WS s) (b : Int32) : z_evM E i_X_soonest lv [.ref x, .int b] N k G = some (some (.int (aSoonest s b)), N, k, G) := by
  unfold aSoonest
  cases hb : isB s b
  · simp only [zm_X_soonest, zr_X_soonest_0, zr_X_soonest_1, zr_X_soonest_4, zr_X_soonest_5, zr_X_soonest_8, zr_X_soonest_11, zr_X_soonest_12, zr_X_soonest_15, zr_X_soonest_16, zr_X_soonest_19, zr_X_soonest_22, zr_X_soonest_23, h.f0, h.now.cls, sM_has _ _ _ h.now, hb, z_obs, z_pu_s, z_pu_n, z00, z10, ↓reduceIte, true_or, or_true, z_b_t, z_b_f, Bool.false_eq_true]
  · obtain ⟨j, hj, rfl⟩ := isB_of w hb
    simp only [zm_X_soonest, zr_X_soonest_0, zr_X_soonest_1, zr_X_soonest_4, zr_X_soonest_5, zr_X_soonest_8, zr_X_soonest_11, zr_X_soonest_12, zr_X_soonest_15, zr_X_soonest_16, zr_X_soonest_19, zr_X_soonest_22, zr_X_soonest_23, h.f0, h.now.cls, sM_has _ _ _ h.now, hb, sM_soonestOf _ _ _ h.now w ws hj, z_obs, z_pu_s, z_pu_n, z00, z10, ↓reduceIte, true_or, or_true, z_b_t, z_b_f, jNb w hj, soN]
theorem xFewest (h : XW G x s ib u hs n) (w : WF s) (ws : WS s) (b y : Int32) : z_evM E i_X_fewest lv [.ref x, .int b, .int y] N k G = some (some (.int (aFewest s b y)), N, k, G) := by
  unfold aFewest
  cases hb : isB s b
  · simp only [zm_X_fewest, zr_X_fewest_0, zr_X_fewest_1, zr_X_fewest_4, zr_X_fewest_5, zr_X_fewest_8, zr_X_fewest_11, zr_X_fewest_12, zr_X_fewest_13, zr_X_fewest_16, zr_X_fewest_17, zr_X_fewest_19, zr_X_fewest_22, zr_X_fewest_23, zr_X_fewest_24, zr_X_fewest_25, zr_X_fewest_28, zr_X_fewest_29, zr_X_fewest_32, zr_X_fewest_33, zr_X_fewest_34, zr_X_fewest_37, zr_X_fewest_38, zr_X_fewest_39, zr_X_fewest_42, zr_X_fewest_43, zr_X_fewest_46, zr_X_fewest_47, zr_X_fewest_50, zr_X_fewest_53, zr_X_fewest_55, h.f0, h.now.cls, sM_has _ _ _ h.now, hb, z_obs, z_pu_s, z_pu_n, z00, z10, ↓reduceIte, true_or, or_true, z_b_t, z_b_f, Bool.false_eq_true, false_and]
  · obtain ⟨j, hj, rfl⟩ := isB_of w hb
    cases hy : inAB y 1 48
    · rcases inAB_f hy with c | ⟨c1, c2, c3, c4⟩
      · simp only [zm_X_fewest, zr_X_fewest_0, zr_X_fewest_1, zr_X_fewest_4, zr_X_fewest_5, zr_X_fewest_8, zr_X_fewest_11, zr_X_fewest_12, zr_X_fewest_13, zr_X_fewest_16, zr_X_fewest_17, zr_X_fewest_19, zr_X_fewest_22, zr_X_fewest_23, zr_X_fewest_24, zr_X_fewest_25, zr_X_fewest_28, zr_X_fewest_29, zr_X_fewest_32, zr_X_fewest_33, zr_X_fewest_34, zr_X_fewest_37, zr_X_fewest_38, zr_X_fewest_39, zr_X_fewest_42, zr_X_fewest_43, zr_X_fewest_46, zr_X_fewest_47, zr_X_fewest_50, zr_X_fewest_53, zr_X_fewest_55, h.f0, h.now.cls, sM_has _ _ _ h.now, hb, ← int_1, ← int_48, c, z_obs, z_pu_s, z_pu_n, z00, z10, ↓reduceIte, true_or, or_true, z_b_t, z_b_f, Bool.false_eq_true, and_false]
        simp only [int_1, int_48, c, z_obs, z_pu_s, z_pu_n, z00, z10, ↓reduceIte, true_or, or_true, z_b_t, z_b_f]
      · simp only [zm_X_fewest, zr_X_fewest_0, zr_X_fewest_1, zr_X_fewest_4, zr_X_fewest_5, zr_X_fewest_8, zr_X_fewest_11, zr_X_fewest_12, zr_X_fewest_13, zr_X_fewest_16, zr_X_fewest_17, zr_X_fewest_19, zr_X_fewest_22, zr_X_fewest_23, zr_X_fewest_24, zr_X_fewest_25, zr_X_fewest_28, zr_X_fewest_29, zr_X_fewest_32, zr_X_fewest_33, zr_X_fewest_34, zr_X_fewest_37, zr_X_fewest_38, zr_X_fewest_39, zr_X_fewest_42, zr_X_fewest_43, zr_X_fewest_46, zr_X_fewest_47, zr_X_fewest_50, zr_X_fewest_53, zr_X_fewest_55, h.f0, h.now.cls, sM_has _ _ _ h.now, hb, z_obs, z_pu_s, z_pu_n, z00, z10, ↓reduceIte, true_or, or_true, z_b_t, z_b_f, Bool.false_eq_true, and_false]
        simp only [int_1, int_48, c1, c2, c3, c4, z_obs, z_pu_s, z_pu_n, z00, z10, ↓reduceIte, true_or, or_true, z_b_t, z_b_f]
    · obtain ⟨c1, c2, c3, c4⟩ := inAB_t hy
      obtain ⟨m, m1, m2, rfl⟩ := inAB_of (by decide) (by decide) hy
      rw [jNb w hj, jN_nI (show m < 2 ^ 31 by omega)]
      simp only [and_self, ↓reduceIte]
      have hso : opn (fun i => sH s j (s 1 + i)) 48 0 (sW s j - sR s j) = soN s j := rfl
      rcases e : soN s j with _ | i
      · have q : (-4 : Int32) < 0 := by decide
        simp only [zm_X_fewest, zr_X_fewest_0, zr_X_fewest_1, zr_X_fewest_4, zr_X_fewest_5, zr_X_fewest_8, zr_X_fewest_11, zr_X_fewest_12, zr_X_fewest_13, zr_X_fewest_16, zr_X_fewest_17, zr_X_fewest_19, zr_X_fewest_22, zr_X_fewest_23, zr_X_fewest_24, zr_X_fewest_25, zr_X_fewest_28, zr_X_fewest_29, zr_X_fewest_32, zr_X_fewest_33, zr_X_fewest_34, zr_X_fewest_37, zr_X_fewest_38, zr_X_fewest_39, zr_X_fewest_42, zr_X_fewest_43, zr_X_fewest_46, zr_X_fewest_47, zr_X_fewest_50, zr_X_fewest_53, zr_X_fewest_55, h.f0, h.now.cls, sM_has _ _ _ h.now, hb, sM_soonestOf _ _ _ h.now w ws hj, hso, e, oI, q, z_obs, z_pu_s, z_pu_n, z00, z10, ↓reduceIte, true_or, or_true, z_b_t, z_b_f]
        simp only [int_1, int_48, c1, c2, c3, c4, z_obs, z_pu_s, z_pu_n, z00, z10, ↓reduceIte, true_or, or_true, z_b_t, z_b_f]
      · have hi := soN_lt e
        have q : ¬ nI i < 0 := nI_pos (by omega)
        by_cases hlt : i < m
        · have q1 : ¬ nI m ≤ nI i := nI_ge hlt (by omega)
          have q2 : nI i < nI m := nI_lt hlt (by omega)
          simp only [zm_X_fewest, zr_X_fewest_0, zr_X_fewest_1, zr_X_fewest_4, zr_X_fewest_5, zr_X_fewest_8, zr_X_fewest_11, zr_X_fewest_12, zr_X_fewest_13, zr_X_fewest_16, zr_X_fewest_17, zr_X_fewest_19, zr_X_fewest_22, zr_X_fewest_23, zr_X_fewest_24, zr_X_fewest_25, zr_X_fewest_28, zr_X_fewest_29, zr_X_fewest_32, zr_X_fewest_33, zr_X_fewest_34, zr_X_fewest_37, zr_X_fewest_38, zr_X_fewest_39, zr_X_fewest_42, zr_X_fewest_43, zr_X_fewest_46, zr_X_fewest_47, zr_X_fewest_50, zr_X_fewest_53, zr_X_fewest_55, h.f0, h.now.cls, sM_has _ _ _ h.now, hb, sM_soonestOf _ _ _ h.now w ws hj, hso, e, oI, q, q1, q2, sM_ringsLacking _ _ _ h.now w ws hj, z_obs, z_pu_s, z_pu_n, z00, z10, ↓reduceIte, true_or, or_true, z_b_t, z_b_f]
          simp only [int_1, int_48, c1, c2, c3, c4, z_obs, z_pu_s, z_pu_n, z00, z10, ↓reduceIte, true_or, or_true, z_b_t, z_b_f, hlt]
        · have q1 : nI m ≤ nI i := nI_le (by omega) (by omega)
          simp only [zm_X_fewest, zr_X_fewest_0, zr_X_fewest_1, zr_X_fewest_4, zr_X_fewest_5, zr_X_fewest_8, zr_X_fewest_11, zr_X_fewest_12, zr_X_fewest_13, zr_X_fewest_16, zr_X_fewest_17, zr_X_fewest_19, zr_X_fewest_22, zr_X_fewest_23, zr_X_fewest_24, zr_X_fewest_25, zr_X_fewest_28, zr_X_fewest_29, zr_X_fewest_32, zr_X_fewest_33, zr_X_fewest_34, zr_X_fewest_37, zr_X_fewest_38, zr_X_fewest_39, zr_X_fewest_42, zr_X_fewest_43, zr_X_fewest_46, zr_X_fewest_47, zr_X_fewest_50, zr_X_fewest_53, zr_X_fewest_55, h.f0, h.now.cls, sM_has _ _ _ h.now, hb, sM_soonestOf _ _ _ h.now w ws hj, hso, e, oI, q, q1, z_obs, z_pu_s, z_pu_n, z00, z10, ↓reduceIte, true_or, or_true, z_b_t, z_b_f]
          simp only [int_1, int_48, c1, c2, c3, c4, z_obs, z_pu_s, z_pu_n, z00, z10, ↓reduceIte, true_or, or_true, z_b_t, z_b_f, hlt]
theorem oI_none {s : Nat → Nat} {b : Nat} : (oI (soN s b) = -4) = (soN s b = none) := by
  rcases e : soN s b with _ | i
  · simp [oI]
  · have hi := soN_lt e
    simp only [oI, reduceCtorEq, eq_iff_iff, iff_false]
    intro h
    have : ¬ nI i < 0 := nI_pos (by omega)
    rw [h] at this
    exact this (by decide)
theorem xNever (h : XW G x s ib u hs n) (w : WF s) (ws : WS s) : z_evM E i_X_never lv [.ref x] N k G = some (some (.int (aNever s)), N, k, G) := by
  have h6 := w.1
  simp only [zm_X_never, zr_X_never_0, zr_X_never_1, zr_X_never_2, zr_X_never_3]
  refine z_loop (fun i acc => z_ev E i_X_never lv 4 [some (.ref x), some (.int acc), some (.int (nI i))] [] N k G) (fun b acc => if soN s b = none then acc ||| (1 : Int32) <<< (nI b &&& 31) else acc) (s 0) (fun acc => some (some (.int acc), N, k, G)) ?_ ?_ (s 0) 0 0 (by omega)
  · intro acc
    have c : nI (s 0) ≤ nI (s 0) := nI_le (Nat.le_refl _) (by omega)
    simp only [zr_X_never_0, zr_X_never_1, zr_X_never_2, zr_X_never_3, zr_X_never_4, zr_X_never_5, zr_X_never_6, zr_X_never_9, zr_X_never_12, zr_X_never_15, zr_X_never_16, zr_X_never_19, zr_X_never_20, zr_X_never_23, zr_X_never_25, zr_X_never_28, zr_X_never_29, zr_X_never_30, zr_X_never_31, zr_X_never_32, zr_X_never_33, zr_X_never_34, zr_X_never_37, zr_X_never_40, zr_X_never_41, h.f0, h.now.f8, c, z_obs, z_pu_s, z_pu_n, z00, z10, ↓reduceIte, true_or, or_true, z_b_t, z_b_f]
  · intro i acc hi
    have c : ¬ nI (s 0) ≤ nI i := nI_ge hi (by omega)
    have hso : opn (fun j => sH s i (s 1 + j)) 48 0 (sW s i - sR s i) = soN s i := rfl
    rw [zr_X_never_4]
    by_cases hn : soN s i = none
    · simp only [zr_X_never_0, zr_X_never_1, zr_X_never_2, zr_X_never_3, zr_X_never_5, zr_X_never_6, zr_X_never_9, zr_X_never_12, zr_X_never_15, zr_X_never_16, zr_X_never_19, zr_X_never_20, zr_X_never_23, zr_X_never_25, zr_X_never_28, zr_X_never_29, zr_X_never_30, zr_X_never_31, zr_X_never_32, zr_X_never_33, zr_X_never_34, zr_X_never_37, zr_X_never_40, zr_X_never_41, h.f0, h.now.f8, h.now.cls, c, sM_soonestOf _ _ _ h.now w ws hi, hso, hn, show (oI none = -4) = True by simp [oI], z_obs, z_pu_s, z_pu_n, z00, z10, ↓reduceIte, true_or, or_true, z_b_t, z_b_f, nI_1]
    · simp only [zr_X_never_0, zr_X_never_1, zr_X_never_2, zr_X_never_3, zr_X_never_5, zr_X_never_6, zr_X_never_9, zr_X_never_12, zr_X_never_15, zr_X_never_16, zr_X_never_19, zr_X_never_20, zr_X_never_23, zr_X_never_25, zr_X_never_28, zr_X_never_29, zr_X_never_30, zr_X_never_31, zr_X_never_32, zr_X_never_33, zr_X_never_34, zr_X_never_37, zr_X_never_40, zr_X_never_41, h.f0, h.now.f8, h.now.cls, c, sM_soonestOf _ _ _ h.now w ws hi, hso, oI_none, hn, z_obs, z_pu_s, z_pu_n, z00, z10, ↓reduceIte, true_or, or_true, z_b_t, z_b_f, nI_1]
theorem xFirst (h : XW G x s ib u hs n) (w : WF s) (ws : WS s) : z_evM E i_X_first lv [.ref x] N k G = some (some (.int (aFirst s)), N, k, G) := by
  have h6 := w.1
  simp only [zm_X_first, zr_X_first_0, zr_X_first_2, zr_X_first_3, zr_X_first_5, zr_X_first_6, zr_X_first_7]
  refine z_loopP (fun i (acc : Int32 × Nat) (jk : Option Value) => z_ev E i_X_first lv 8 [some (.ref x), some (.int acc.1), some (.int (nI acc.2)), some (.int (nI i)), jk] [] N k G) (frF s) (fun _ acc => acc.2 ≤ 48) (s 0) (fun acc => some (some (.int acc.1), N, k, G)) ?_ ?_ (s 0) 0 (-4, 48) none (by omega) (Nat.le_refl _)
  · intro acc jk _
    have c : nI (s 0) ≤ nI (s 0) := nI_le (Nat.le_refl _) (by omega)
    simp only [zr_X_first_0, zr_X_first_2, zr_X_first_3, zr_X_first_5, zr_X_first_6, zr_X_first_7, zr_X_first_8, zr_X_first_9, zr_X_first_10, zr_X_first_13, zr_X_first_16, zr_X_first_19, zr_X_first_20, zr_X_first_23, zr_X_first_24, zr_X_first_27, zr_X_first_29, zr_X_first_31, zr_X_first_34, zr_X_first_36, zr_X_first_37, zr_X_first_40, zr_X_first_42, zr_X_first_43, zr_X_first_44, zr_X_first_45, zr_X_first_48, zr_X_first_51, zr_X_first_52, h.f0, h.now.f8, c, z_obs, z_pu_s, z_pu_n, z00, z10, ↓reduceIte, true_or, or_true, z_b_t, z_b_f]
  · intro i acc jk hi hP
    have c : ¬ nI (s 0) ≤ nI i := nI_ge hi (by omega)
    have hso : opn (fun j => sH s i (s 1 + j)) 48 0 (sW s i - sR s i) = soN s i := rfl
    unfold frF
    rcases e : soN s i with _ | r
    · refine ⟨hP, some (.int (-4)), ?_⟩
      have q : (-4 : Int32) < 0 := by decide
      rw [zr_X_first_8]
      simp only [zr_X_first_0, zr_X_first_2, zr_X_first_3, zr_X_first_5, zr_X_first_6, zr_X_first_7, zr_X_first_9, zr_X_first_10, zr_X_first_13, zr_X_first_16, zr_X_first_19, zr_X_first_20, zr_X_first_23, zr_X_first_24, zr_X_first_27, zr_X_first_29, zr_X_first_31, zr_X_first_34, zr_X_first_36, zr_X_first_37, zr_X_first_40, zr_X_first_42, zr_X_first_43, zr_X_first_44, zr_X_first_45, zr_X_first_48, zr_X_first_51, zr_X_first_52, h.f0, h.now.f8, h.now.cls, c, sM_soonestOf _ _ _ h.now w ws hi, hso, e, oI, q, z_obs, z_pu_s, z_pu_n, z00, z10, ↓reduceIte, true_or, or_true, z_b_t, z_b_f, nI_1]
    · have hr := soN_lt e
      have q : ¬ nI r < 0 := nI_pos (by omega)
      by_cases hlt : r < acc.2
      · have q1 : ¬ nI acc.2 ≤ nI r := nI_ge hlt (by omega)
        simp only [hlt, ↓reduceIte]
        refine ⟨by omega, some (.int (nI r)), ?_⟩
        rw [zr_X_first_8]
        simp only [zr_X_first_0, zr_X_first_2, zr_X_first_3, zr_X_first_5, zr_X_first_6, zr_X_first_7, zr_X_first_9, zr_X_first_10, zr_X_first_13, zr_X_first_16, zr_X_first_19, zr_X_first_20, zr_X_first_23, zr_X_first_24, zr_X_first_27, zr_X_first_29, zr_X_first_31, zr_X_first_34, zr_X_first_36, zr_X_first_37, zr_X_first_40, zr_X_first_42, zr_X_first_43, zr_X_first_44, zr_X_first_45, zr_X_first_48, zr_X_first_51, zr_X_first_52, h.f0, h.now.f8, h.now.cls, c, sM_soonestOf _ _ _ h.now w ws hi, hso, e, oI, q, q1, z_obs, z_pu_s, z_pu_n, z00, z10, ↓reduceIte, true_or, or_true, z_b_t, z_b_f, nI_1]
      · have q1 : nI acc.2 ≤ nI r := nI_le (by omega) (by omega)
        simp only [hlt, ↓reduceIte]
        refine ⟨hP, some (.int (nI r)), ?_⟩
        rw [zr_X_first_8]
        simp only [zr_X_first_0, zr_X_first_2, zr_X_first_3, zr_X_first_5, zr_X_first_6, zr_X_first_7, zr_X_first_9, zr_X_first_10, zr_X_first_13, zr_X_first_16, zr_X_first_19, zr_X_first_20, zr_X_first_23, zr_X_first_24, zr_X_first_27, zr_X_first_29, zr_X_first_31, zr_X_first_34, zr_X_first_36, zr_X_first_37, zr_X_first_40, zr_X_first_42, zr_X_first_43, zr_X_first_44, zr_X_first_45, zr_X_first_48, zr_X_first_51, zr_X_first_52, h.f0, h.now.f8, h.now.cls, c, sM_soonestOf _ _ _ h.now w ws hi, hso, e, oI, q, q1, z_obs, z_pu_s, z_pu_n, z00, z10, ↓reduceIte, true_or, or_true, z_b_t, z_b_f, nI_1]
theorem xCount (h : XW G x s ib u hs n) (w : WF s) (y : Int32) : z_evM E i_X_count lv [.ref x, .int y] N k G = some (some (.int (aCount s y)), N, k, G) := by
  simp only [zm_X_count, zr_X_count_0, zr_X_count_1, zr_X_count_40, zr_X_count_41, zr_X_count_44, zr_X_count_47, zr_X_count_48, zr_X_count_49, zr_X_count_52, zr_X_count_55, zr_X_count_56, zr_X_count_57, zr_X_count_60, zr_X_count_63, zr_X_count_64, zr_X_count_65, zr_X_count_68, zr_X_count_71, zr_X_count_72, zr_X_count_73, zr_X_count_76, zr_X_count_79, zr_X_count_80, zr_X_count_81, zr_X_count_84, zr_X_count_87, zr_X_count_88, zr_X_count_89, h.f0, h.now.cls, h.now.f8, h.now.f9, h.now.f10, sM_allRung _ _ _ h.now w, sM_allOpened _ _ _ h.now w, sM_allSteps _ _ _ h.now w, z_obs, z_pu_s, z_pu_n, z00, z10, ↓reduceIte, true_or, or_true, z_b_t, z_b_f]
  unfold aCount
  repeat' split
  all_goals rfl
theorem xCost (h : XW G x s ib u hs n) (d : Int32) : z_evM E i_X_cost lv [.ref x, .int d] N k G = some (some (.int (aCost hs d)), N, k, G) := by
  unfold aCost
  by_cases hl : lkB hs d ≠ 0
  · rw [if_pos hl]
    simp only [zm_X_cost, zr_X_cost_0, zr_X_cost_1, zr_X_cost_2, zr_X_cost_5, zr_X_cost_5n, zr_X_cost_6, zr_X_cost_6n, zr_X_cost_7, zr_X_cost_7n, zr_X_cost_10, zr_X_cost_11, zr_X_cost_12, zr_X_cost_15, zr_X_cost_18, zr_X_cost_18n, zr_X_cost_19, zr_X_cost_22, h.cls, bellOn_lk _ _ _ h hl, sX_lackOfBell _ _ _ h hl, z_obs, z_pu_s, z_pu_n, z00, z10, ↓reduceIte, true_or, or_true, z_b_t, z_b_f]
  · rw [if_neg hl]
    obtain ⟨d, kk, ff, hd, rfl, e⟩ := lkB_be hl
    obtain ⟨r1, r2, r3, r4⟩ := sX_bellOn_be (E := E) 0 N k h hd e
    rw [jN_nI (by omega), e]
    simp only [zm_X_cost, zr_X_cost_0, zr_X_cost_1, zr_X_cost_2, zr_X_cost_5, zr_X_cost_5n, zr_X_cost_6, zr_X_cost_6n, zr_X_cost_7, zr_X_cost_7n, zr_X_cost_10, zr_X_cost_11, zr_X_cost_12, zr_X_cost_15, zr_X_cost_18, zr_X_cost_18n, zr_X_cost_19, zr_X_cost_22, h.cls, r1, r2.f5, z_obs, z_pu_s, z_pu_n, z00, z10, ↓reduceIte, true_or, or_true, z_b_t, z_b_f]
theorem xImage (h : XW G x s ib u hs n) (w : WF s) : ∃ G', z_evM E i_X_image lv [.ref x] N k G = some (some (.int (nI (s 2))), N, k, G') ∧ XW G' x s true s hs n ∧ XF x G G' := by
  obtain ⟨G1, g1, g2, g3⟩ := sM_takeFrom (E := E) 0 N k h.im h.now (by omega) w.1
  have h1 := h.mg g2 g3
  have p : z_pf G1 x (.int 1) false [3, 11, 11, 1, 0] = some (z_up G1 x (.inl (11, xFs x 1))) := z_pfI h1.o (Nat.le_refl _) (Nat.le_refl _) (Nat.le_of_ble_eq_true rfl) rfl (Or.inl rfl)
  have hX : XW (z_up G1 x (.inl (11, xFs x 1))) x s true s hs n := by
    have := h1
    obtain ⟨o, now, ⟨v, mind⟩, im, ho, bs, ⟨fB, fR, s1, s2, s3, s4⟩, er, e1, e2, e3, c1, c2, c3⟩ := this
    have e : ∀ q, q ≠ x → z_up G1 x (.inl (11, xFs x 1)) q = G1 q := fun q hq => z_up_n _ _ hq
    exact ⟨z_up_s _ _ _, now.of_eq fun q q1 q2 => e _ (by omega), ⟨v, mind.of_eq fun q q1 q2 => e _ (by omega)⟩, im.of_eq fun q q1 q2 => e _ (by omega), by rw [e _ (by omega)]; exact ho, fun k hk f hf => (bs k hk f hf).mono (e _ (by omega)), ⟨fB, fR, by rw [e _ (by omega)]; exact s1, by rw [e _ (by omega)]; exact s2, fun d hd => (s3 d hd).mono (Nat.le_refl _) fun q q1 q2 => e _ (by omega), s4⟩, by rw [e _ (by omega)]; exact er, by rw [e _ (by omega)]; exact e1, by rw [e _ (by omega)]; exact e2, by rw [e _ (by omega)]; exact e3, by rw [e _ (by omega)]; exact c1, by rw [e _ (by omega)]; exact c2, by rw [e _ (by omega)]; exact c3⟩
  refine ⟨_, ?_, hX, (g3.xf (by omega) (by omega)).tr fun q hq => z_up_n _ _ (by omega)⟩
  simp only [zm_X_image, zr_X_image_0, zr_X_image_1, zr_X_image_4, zr_X_image_5, zr_X_image_8, zr_X_image_11, zr_X_image_12, zr_X_image_13, zr_X_image_16, zr_X_image_17, zr_X_image_20, zr_X_image_23, h.f2, h.f0, h.im.cls, g1, z_obs, z_pu_s, z_pu_n, z00, z10, ↓reduceIte, true_or, or_true, z_b_t, z_b_f, p, hX.f0, hX.now.f10]
theorem xRestore (h : XW G x s ib u hs n) (wu : WF u) : ∃ G', z_evM E i_X_restore lv [.ref x] N k G = some (some (.int (if ib = true then nI (u 2) else -3)), N, k, G') ∧ XW G' x (if ib = true then u else s) ib u hs n ∧ XF x G G' := by
  cases ib
  · refine ⟨G, ?_, h, XF.rf⟩
    simp only [zm_X_restore, zr_X_restore_0, zr_X_restore_1, zr_X_restore_4, zr_X_restore_7, zr_X_restore_9, zr_X_restore_10, zr_X_restore_11, zr_X_restore_14, zr_X_restore_15, zr_X_restore_18, zr_X_restore_21, zr_X_restore_22, zr_X_restore_25, zr_X_restore_28, h.f3, z_obs, z_pu_s, z_pu_n, z00, z10, ↓reduceIte, true_or, or_true, z_b_t, z_b_f, Bool.false_eq_true]
  · obtain ⟨G1, g1, g2, g3⟩ := sM_takeFrom (E := E) 0 N k h.now h.im (by omega) wu.1
    have h1 := h.nw g2 g3
    refine ⟨G1, ?_, h1, g3.xf (by omega) (by omega)⟩
    simp only [zm_X_restore, zr_X_restore_0, zr_X_restore_1, zr_X_restore_4, zr_X_restore_7, zr_X_restore_9, zr_X_restore_10, zr_X_restore_11, zr_X_restore_14, zr_X_restore_15, zr_X_restore_18, zr_X_restore_21, zr_X_restore_22, zr_X_restore_25, zr_X_restore_28, h.f3, h.f2, h.f0, h.now.cls, g1, h1.f0, h1.now.f10, z_obs, z_pu_s, z_pu_n, z00, z10, ↓reduceIte, true_or, or_true, z_b_t, z_b_f]
end
