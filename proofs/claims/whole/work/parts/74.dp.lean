/-! THE CLASS: a marsh's statements done -/
def pl2 (x y : Nat) : Nat := 10 * x + y
/-- a statement done, if it can be -/
def stS (tx : Nat → Nat) (a : Nat) (s : Nat → Nat) : Option (Nat → Nat) :=
  if tx a = 98 then (if tx (a + 1) - 48 < 8 ∧ pl2 (tx (a + 3) - 48) (tx (a + 4) - 48) < 31 ∧ s 0 < 6 then some (adS s (tx (a + 1) - 48) (tx (a + 2) - 48) (pl2 (tx (a + 3) - 48) (tx (a + 4) - 48))) else none)
  else if tx a = 114 then (if tx (a + 1) - 48 < s 0 then some (rgS s (tx (a + 1) - 48)) else none)
  else if tx a = 104 then (if 1 ≤ pl2 (tx (a + 1) - 48) (tx (a + 2) - 48) ∧ s 2 + (s 1 + pl2 (tx (a + 1) - 48) (tx (a + 2) - 48)) / 24 ≤ 999 then some (psS s (pl2 (tx (a + 1) - 48) (tx (a + 2) - 48))) else none)
  else (if tx (a + 1) - 48 < s 0 ∧ pl2 (tx (a + 2) - 48) (tx (a + 3) - 48) < 31 then some (uN s (5 + 5 * (tx (a + 1) - 48)) (pl2 (tx (a + 2) - 48) (tx (a + 3) - 48))) else none)
def dg0 (c : Nat) : Nat := match dgN c with
  | some d => d
  | none => 0
/-- all of them: where one can't be done; or how many, and what then is -/
def doM (sz : Nat) (tx : Nat → Nat) : Nat → Nat → Nat → (Nat → Nat) → Nat ⊕ (Nat × (Nat → Nat))
  | 0, _, n, s => .inr (n, s)
  | f + 1, a, n, s => if a < sz then (match stS tx a s with
    | none => .inl a
    | some t => doM sz tx f (a + 2 + dg0 (tx a)) (n + 1) t) else .inr (n, s)
def aMarsh (s : Nat → Nat) (hs : Nat → Sh) (d : Int32) : Int32 × (Nat → Nat) := if lkR hs d ≠ 0 then (lkR hs d, s) else match hs (jN d) with
  | .inr (.inr (so, sz, el)) => if so = 0 then (match stN sz (txN sz el) (sz + 1) 0 with
    | some j => (-1000 - nI j, s)
    | none => (match doM sz (txN sz el) (sz + 1) 0 0 s with
      | .inl b => (-2000 - nI b, s)
      | .inr (n, t) => (nI n, t))) else (-12, s)
  | _ => (-1, s)
theorem dgN_cases {c d : Nat} (h : dgN c = some d) : (c = 98 ∧ d = 4) ∨ (c = 104 ∧ d = 2) ∨ (c = 112 ∧ d = 3) ∨ (c = 114 ∧ d = 1) := by
  unfold dgN at h
  by_cases h1 : c = 98
  · rw [if_pos h1] at h; injection h with h; omega
  · rw [if_neg h1] at h
    by_cases h2 : c = 104
    · rw [if_pos h2] at h; injection h with h; omega
    · rw [if_neg h2] at h
      by_cases h3 : c = 112
      · rw [if_pos h3] at h; injection h with h; omega
      · rw [if_neg h3] at h
        by_cases h4 : c = 114
        · rw [if_pos h4] at h; injection h with h; omega
        · rw [if_neg h4] at h; cases h
theorem fnd_none {p : Nat → Bool} : ∀ m i, fnd p m i = none → ∀ j, i ≤ j → j < i + m → p j = false := by
  intro m
  induction m with
  | zero => intro i _ j h1 h2; omega
  | succ m ih =>
    intro i h j h1 h2
    unfold fnd at h
    cases hp : p i
    · rw [hp] at h
      simp only [Bool.false_eq_true, ↓reduceIte] at h
      by_cases e : j = i
      · subst e; exact hp
      · exact ih (i + 1) h j (by omega) (by omega)
    · rw [hp] at h; simp at h
/-- no stray from there: a statement stands there, and so on -/
theorem stN_none {sz : Nat} {tx : Nat → Nat} {f a : Nat} (h : stN sz tx (f + 1) a = none) : ∃ d, dgN (tx a) = some d ∧ (∀ i, 1 ≤ i → i ≤ d → isDg (tx (a + i)) = true) ∧ tx (a + 1 + d) = 59 ∧ (a + 2 + d < sz → stN sz tx f (a + 2 + d) = none) := by
  unfold stN at h
  rcases e : dgN (tx a) with _ | d
  · rw [e] at h; cases h
  · rw [e] at h
    dsimp only at h
    rcases e2 : fnd (fun i => !(isDg (tx i))) d (a + 1) with _ | j
    · rw [e2] at h
      dsimp only at h
      by_cases h59 : tx (a + 1 + d) = 59
      · rw [if_pos h59] at h
        refine ⟨d, rfl, fun i i1 i2 => ?_, h59, fun hlt => ?_⟩
        · have := fnd_none _ _ e2 (a + i) (by omega) (by omega)
          simpa using this
        · rw [if_pos hlt] at h; exact h
      · rw [if_neg h59] at h; cases h
    · rw [e2] at h; cases h
theorem isDg_10 {c : Nat} (h : isDg c = true) : c - 48 < 10 := by
  unfold isDg at h
  simp only [Bool.and_eq_true, decide_eq_true_eq] at h
  omega
theorem mvS_WF {s : Nat → Nat} (w : WF s) {j p : Nat} (hp : p < 31) : WF (uN s (5 + 5 * j) p) := by
  refine ⟨by rw [uN_n _ _ (by omega)]; exact w.1, by rw [uN_n _ _ (by omega)]; exact w.2.1, Nat.zero_le _, fun b hb => ?_⟩
  rw [uN_n _ _ (by omega)] at hb
  have q := w.2.2.2 b hb
  refine ⟨?_, ?_, ?_, ?_, ?_⟩
  · rw [show sK (uN s (5 + 5 * j) p) b = sK s b from uN_n _ _ (by omega)]; exact q.1
  · rw [show sF (uN s (5 + 5 * j) p) b = sF s b from uN_n _ _ (by omega)]; exact q.2.1
  · by_cases e : b = j
    · subst e; rw [show sP (uN s (5 + 5 * b) p) b = p from uN_s _ _ _]; exact hp
    · rw [show sP (uN s (5 + 5 * j) p) b = sP s b from uN_n _ _ (by omega)]; exact q.2.2.1
  · rw [show sR (uN s (5 + 5 * j) p) b = sR s b from uN_n _ _ (by omega)]; exact q.2.2.2.1
  · rw [show sO (uN s (5 + 5 * j) p) b = sO s b from uN_n _ _ (by omega)]; exact q.2.2.2.2
/-- a state as the calls leave it -/
def SG (s : Nat → Nat) : Prop := WF s ∧ WS s ∧ s 2 ≤ 999
theorem psS_0' (s : Nat → Nat) (m : Nat) : psS s m 0 = s 0 := by unfold psS; rw [uN_n _ _ (by omega), uN_n _ _ (by omega)]
theorem psS_2 (s : Nat → Nat) (m : Nat) : psS s m 2 = s 2 + (s 1 + m) / 24 := by unfold psS; rw [uN_s]
theorem psS_WS {s : Nat → Nat} (ws : WS s) (m : Nat) : WS (psS s m) := by
  intro c hc
  rw [psS_0'] at hc
  have := ws c hc
  have e : ∀ i, 3 ≤ i → psS s m i = s i := by intro i hi; unfold psS; rw [uN_n _ _ (by omega), uN_n _ _ (by omega)]
  unfold sW sK sF sR at *
  rw [e _ (by omega), e _ (by omega), e _ (by omega)]
  exact this
theorem mvS_WS {s : Nat → Nat} (ws : WS s) (j p : Nat) : WS (uN s (5 + 5 * j) p) := by
  intro c hc
  rw [uN_n _ _ (by omega)] at hc
  have := ws c hc
  unfold sW at this ⊢
  rw [show sK (uN s (5 + 5 * j) p) c = sK s c from uN_n _ _ (by omega), show sF (uN s (5 + 5 * j) p) c = sF s c from uN_n _ _ (by omega), show sR (uN s (5 + 5 * j) p) c = sR s c from uN_n _ _ (by omega)]
  exact this
theorem stS_SG {tx : Nat → Nat} {a d : Nat} {s t : Nat → Nat} (hd : dgN (tx a) = some d) (hdg : ∀ i, 1 ≤ i → i ≤ d → isDg (tx (a + i)) = true) (g : SG s) (h : stS tx a s = some t) : SG t := by
  obtain ⟨w, ws, w2⟩ := g
  unfold stS at h
  rcases dgN_cases hd with ⟨e, rfl⟩ | ⟨e, rfl⟩ | ⟨e, rfl⟩ | ⟨e, rfl⟩
  · rw [if_pos e] at h
    split at h
    · next hc =>
      injection h with h
      subst h
      have h2 := isDg_10 (hdg 2 (by omega) (by omega))
      exact ⟨adS_WF w hc.2.2 hc.1 h2 hc.2.1, adS_WS ws hc.1 h2, by rw [adS_2]; exact w2⟩
    · cases h
  · rw [if_neg (by omega), if_neg (by omega), if_pos e] at h
    split at h
    · next hc =>
      injection h with h
      subst h
      exact ⟨psS_WF w _, psS_WS ws _, by rw [psS_2]; exact hc.2⟩
    · cases h
  · rw [if_neg (by omega), if_neg (by omega), if_neg (by omega)] at h
    split at h
    · next hc =>
      injection h with h
      subst h
      exact ⟨mvS_WF w hc.2, mvS_WS ws _ _, by rw [uN_n _ _ (by omega)]; exact w2⟩
    · cases h
  · rw [if_neg (by omega), if_pos e] at h
    split at h
    · next hc =>
      injection h with h
      subst h
      exact ⟨rgS_WF w _, rgS_WS w ws _, by rw [rgS_2]; exact w2⟩
    · cases h
/-- in mind is t -/
def MK (G0 : z_H) (x : Nat) (s : Nat → Nat) (ib : Bool) (u : Nat → Nat) (hs : Nat → Sh) (n : Nat) (t : Nat → Nat) (G : z_H) : Prop := XW G x s ib u hs n ∧ FR (x + 10) 9 G0 G ∧ MA G (x + 10) t
theorem MK.to {G0 G G' : z_H} {x : Nat} {s u t t' : Nat → Nat} {ib : Bool} {hs : Nat → Sh} {n : Nat} (h : MK G0 x s ib u hs n t G) (h1 : MA G' (x + 10) t') (h2 : FR (x + 10) 9 G G') : MK G0 x s ib u hs n t' G' := ⟨h.1.mi h1 h2, h.2.1.tr h2, h1⟩
section
variable {E : z_E} {G0 G : z_H} {x : Nat} {s u t : Nat → Nat} {ib : Bool} {hs : Nat → Sh} {n r so sz : Nat} {el : Nat → Int32} (lv N k : Nat)
theorem sX_isDone (h : MK G0 x s ib u hs n t G) (w : WF t) (w2 : t 2 ≤ 999) (hR : RA G r so sz el) (hz : sz ≤ 100) (ho : okB sz el) {a d : Nat} (ha : a ≤ 200) (hd : dgN (txN sz el a) = some d) (hdg : ∀ i, 1 ≤ i → i ≤ d → isDg (txN sz el (a + i)) = true) : ∃ G', z_evM E i_X_isDone lv [.ref x, .ref r, .int (nI a)] N k G = some (some (.int (z_b (stS (txN sz el) a t).isSome)), N, k, G') ∧ MK G0 x s ib u hs n ((stS (txN sz el) a t).getD t) G' := by
  have hX := h.1
  have hM := h.2.2
  have w6 := w.1
  have hat := sR_atB (E := E) 0 N k hR hz ho (show a < 2 ^ 31 by omega)
  have hc1 := sX_digit (E := E) 0 N k hR hz ho (show a + 1 < 2 ^ 31 by omega) (hdg 1 (Nat.le_refl _) (dgN_le hd).1)
  have b1 := isDg_10 (hdg 1 (Nat.le_refl _) (dgN_le hd).1)
  obtain ⟨y1, y2, y3, y4, -⟩ := by_n _ (txN_by ho a).1
  unfold stS
  rcases dgN_cases hd with ⟨e, rfl⟩ | ⟨e, rfl⟩ | ⟨e, rfl⟩ | ⟨e, rfl⟩
  · generalize txN sz el (a + 1) - 48 = g1 at hc1 b1
    have hc2 := sX_digit (E := E) 0 N k hR hz ho (show a + 2 < 2 ^ 31 by omega) (hdg 2 (by omega) (by omega))
    have hc3 := sX_twoDigits (E := E) 0 N k hR hz ho (show a + 3 + 1 < 2 ^ 31 by omega) (hdg 3 (by omega) (by omega)) (hdg 4 (by omega) (by omega))
    have b2 := isDg_10 (hdg 2 (by omega) (by omega))
    have b3 := isDg_10 (hdg 3 (by omega) (by omega))
    have b4 := isDg_10 (hdg 4 (by omega) (by omega))
    rw [if_pos e]
    rw [show a + 3 + 1 = a + 4 by omega] at hc3
    have hp : 10 * (txN sz el (a + 3) - 48) + (txN sz el (a + 4) - 48) = pl2 (txN sz el (a + 3) - 48) (txN sz el (a + 4) - 48) := rfl
    rw [hp] at hc3
    have hpl : pl2 (txN sz el (a + 3) - 48) (txN sz el (a + 4) - 48) < 100 := by unfold pl2; omega
    generalize pl2 (txN sz el (a + 3) - 48) (txN sz el (a + 4) - 48) = p at hc3 hpl
    generalize txN sz el (a + 2) - 48 = g2 at hc2 b2
    rw [y1.mpr e] at hat
    by_cases k1 : g1 < 8
    · have hh := sX_houseOf (E := E) 0 N k hX k1 b2
      by_cases k2 : p < 31
      · by_cases k3 : t 0 < 6
        · obtain ⟨G', q1, q2, q3⟩ := sM_add (E := E) 0 N k (p := p) hM (hX.bs _ k1 _ b2) (by omega) k3
          have cn : ¬ nI (t 0) < 0 := nI_pos (by omega)
          rw [if_pos ⟨k1, k2, k3⟩]
          refine ⟨G', ?_, h.to q2 q3⟩
          simp only [zm_X_isDone, zr_X_isDone_0, zr_X_isDone_0n, zr_X_isDone_1, zr_X_isDone_2, zr_X_isDone_3, zr_X_isDone_4, zr_X_isDone_7, zr_X_isDone_8, zr_X_isDone_8n, zr_X_isDone_9, zr_X_isDone_10, zr_X_isDone_13, zr_X_isDone_48, zr_X_isDone_49, zr_X_isDone_50, zr_X_isDone_50n, zr_X_isDone_51, zr_X_isDone_52, zr_X_isDone_53, zr_X_isDone_54, zr_X_isDone_57, zr_X_isDone_60, zr_X_isDone_60n, zr_X_isDone_62, zr_X_isDone_62n, zr_X_isDone_63, zr_X_isDone_64, zr_X_isDone_65, zr_X_isDone_66, zr_X_isDone_69, zr_X_isDone_71, zr_X_isDone_71n, zr_X_isDone_73, zr_X_isDone_73n, zr_X_isDone_76, zr_X_isDone_78, zr_X_isDone_81, zr_X_isDone_84, zr_X_isDone_85, zr_X_isDone_88, zr_X_isDone_88n, zr_X_isDone_90, zr_X_isDone_92, zr_X_isDone_95, zr_X_isDone_98, zr_X_isDone_99, zr_X_isDone_102, zr_X_isDone_103, nI_1, hc1, hR.cls, hat, show (2 : Int32) = nI 2 from rfl, show (3 : Int32) = nI 3 from rfl, nI_add, hc2, hX.cls, hh, hc3, sX_isPlace, inR_nI (show 31 < 2 ^ 31 by decide) k2, hX.f1, hM.cls, q1, cn, z_obs, z_pu_s, z_pu_n, z00, z10, ↓reduceIte, true_or, or_true, z_b_t, z_b_f, Option.isSome_some]
        · rw [if_neg (fun z => k3 z.2.2)]
          refine ⟨G, ?_, h⟩
          have hf := sM_add_f (E := E) (q := x + 38 + (10 * g1 + g2)) (x := nI p) 0 N k hM (show t 0 = 6 by omega)
          simp only [zm_X_isDone, zr_X_isDone_0, zr_X_isDone_0n, zr_X_isDone_1, zr_X_isDone_2, zr_X_isDone_3, zr_X_isDone_4, zr_X_isDone_7, zr_X_isDone_8, zr_X_isDone_8n, zr_X_isDone_9, zr_X_isDone_10, zr_X_isDone_13, zr_X_isDone_48, zr_X_isDone_49, zr_X_isDone_50, zr_X_isDone_50n, zr_X_isDone_51, zr_X_isDone_52, zr_X_isDone_53, zr_X_isDone_54, zr_X_isDone_57, zr_X_isDone_60, zr_X_isDone_60n, zr_X_isDone_62, zr_X_isDone_62n, zr_X_isDone_63, zr_X_isDone_64, zr_X_isDone_65, zr_X_isDone_66, zr_X_isDone_69, zr_X_isDone_71, zr_X_isDone_71n, zr_X_isDone_73, zr_X_isDone_73n, zr_X_isDone_76, zr_X_isDone_78, zr_X_isDone_81, zr_X_isDone_84, zr_X_isDone_85, zr_X_isDone_88, zr_X_isDone_88n, zr_X_isDone_90, zr_X_isDone_92, zr_X_isDone_95, zr_X_isDone_98, zr_X_isDone_99, zr_X_isDone_102, zr_X_isDone_103, nI_1, hc1, hR.cls, hat, show (2 : Int32) = nI 2 from rfl, show (3 : Int32) = nI 3 from rfl, nI_add, hc2, hX.cls, hh, hc3, sX_isPlace, inR_nI (show 31 < 2 ^ 31 by decide) k2, hX.f1, hM.cls, hf, show ((-(nI 2) : Int32) < 0) = True from eq_true (by decide), z_obs, z_pu_s, z_pu_n, z00, z10, ↓reduceIte, true_or, or_true, z_b_t, z_b_f, Option.isSome_none]
      · rw [if_neg (fun z => k2 z.2.1)]
        have hn : inR (nI p) 31 = false := by
          cases hh : inR (nI p) 31
          · rfl
          · obtain ⟨j2, e1, e2⟩ := inR_of (by decide) hh
            have := (nI_eq (by omega) (by omega)).mp e2
            omega
        refine ⟨G, ?_, h⟩
        simp only [zm_X_isDone, zr_X_isDone_0, zr_X_isDone_0n, zr_X_isDone_1, zr_X_isDone_2, zr_X_isDone_3, zr_X_isDone_4, zr_X_isDone_7, zr_X_isDone_8, zr_X_isDone_8n, zr_X_isDone_9, zr_X_isDone_10, zr_X_isDone_13, zr_X_isDone_48, zr_X_isDone_49, zr_X_isDone_50, zr_X_isDone_50n, zr_X_isDone_51, zr_X_isDone_52, zr_X_isDone_53, zr_X_isDone_54, zr_X_isDone_57, zr_X_isDone_60, zr_X_isDone_60n, zr_X_isDone_62, zr_X_isDone_62n, zr_X_isDone_63, zr_X_isDone_64, zr_X_isDone_65, zr_X_isDone_66, zr_X_isDone_69, zr_X_isDone_71, zr_X_isDone_71n, zr_X_isDone_73, zr_X_isDone_73n, zr_X_isDone_76, zr_X_isDone_78, zr_X_isDone_81, zr_X_isDone_84, zr_X_isDone_85, zr_X_isDone_88, zr_X_isDone_88n, zr_X_isDone_90, zr_X_isDone_92, zr_X_isDone_95, zr_X_isDone_98, zr_X_isDone_99, zr_X_isDone_102, zr_X_isDone_103, nI_1, hc1, hR.cls, hat, show (2 : Int32) = nI 2 from rfl, show (3 : Int32) = nI 3 from rfl, nI_add, hc2, hX.cls, hh, hc3, sX_isPlace, hn, z_obs, z_pu_s, z_pu_n, z00, z10, ↓reduceIte, true_or, or_true, z_b_t, z_b_f, Option.isSome_none]
    · rw [if_neg (fun z => k1 z.1)]
      have hn : inR (nI g1) 8 = false := by
        cases hh : inR (nI g1) 8
        · rfl
        · obtain ⟨j2, e1, e2⟩ := inR_of (by decide) hh
          have := (nI_eq (by omega) (by omega)).mp e2
          omega
      have hh := sX_houseOf_f (E := E) (z := nI g2) 0 N k hX (Or.inl hn)
      refine ⟨G, ?_, h⟩
      simp only [zm_X_isDone, zr_X_isDone_0, zr_X_isDone_0n, zr_X_isDone_1, zr_X_isDone_2, zr_X_isDone_3, zr_X_isDone_4, zr_X_isDone_7, zr_X_isDone_8, zr_X_isDone_8n, zr_X_isDone_9, zr_X_isDone_10, zr_X_isDone_13, zr_X_isDone_48, zr_X_isDone_49, zr_X_isDone_50, zr_X_isDone_50n, zr_X_isDone_51, zr_X_isDone_52, zr_X_isDone_53, zr_X_isDone_54, zr_X_isDone_57, zr_X_isDone_60, zr_X_isDone_60n, zr_X_isDone_62, zr_X_isDone_62n, zr_X_isDone_63, zr_X_isDone_64, zr_X_isDone_65, zr_X_isDone_66, zr_X_isDone_69, zr_X_isDone_71, zr_X_isDone_71n, zr_X_isDone_73, zr_X_isDone_73n, zr_X_isDone_76, zr_X_isDone_78, zr_X_isDone_81, zr_X_isDone_84, zr_X_isDone_85, zr_X_isDone_88, zr_X_isDone_88n, zr_X_isDone_90, zr_X_isDone_92, zr_X_isDone_95, zr_X_isDone_98, zr_X_isDone_99, zr_X_isDone_102, zr_X_isDone_103, nI_1, hc1, hR.cls, hat, show (2 : Int32) = nI 2 from rfl, show (3 : Int32) = nI 3 from rfl, nI_add, hc2, hX.cls, hh, hc3, z_obs, z_pu_s, z_pu_n, z00, z10, ↓reduceIte, true_or, or_true, z_b_t, z_b_f, Option.isSome_none]
  · have hc3 := sX_twoDigits (E := E) 0 N k hR hz ho (show a + 1 + 1 < 2 ^ 31 by omega) (hdg 1 (by omega) (by omega)) (hdg 2 (by omega) (by omega))
    have b2 := isDg_10 (hdg 1 (by omega) (by omega))
    have b3 := isDg_10 (hdg 2 (by omega) (by omega))
    rw [if_neg (by omega), if_neg (by omega), if_pos e]
    rw [show a + 1 + 1 = a + 2 by omega] at hc3
    have hp : 10 * (txN sz el (a + 1) - 48) + (txN sz el (a + 2) - 48) = pl2 (txN sz el (a + 1) - 48) (txN sz el (a + 2) - 48) := rfl
    rw [hp] at hc3
    have hpl : pl2 (txN sz el (a + 1) - 48) (txN sz el (a + 2) - 48) < 100 := by unfold pl2; omega
    generalize pl2 (txN sz el (a + 1) - 48) (txN sz el (a + 2) - 48) = p at hc3 hpl
    rw [y2.mpr e] at hat
    by_cases k1 : 1 ≤ p
    · have c1 : ¬ nI p < 1 := nI_nlt (b := 1) k1 (by omega)
      obtain ⟨G', q1, q2, q3⟩ := sM_pass (E := E) 0 N k hM w (by omega) (show p ≤ 99 by omega)
      by_cases k2 : t 2 + (t 1 + p) / 24 ≤ 999
      · rw [if_pos k2] at q2
        rw [decide_eq_true k2] at q1
        rw [if_pos ⟨k1, k2⟩]
        refine ⟨G', ?_, h.to q2 q3⟩
        simp only [zm_X_isDone, zr_X_isDone_0, zr_X_isDone_0n, zr_X_isDone_1, zr_X_isDone_2, zr_X_isDone_3, zr_X_isDone_4, zr_X_isDone_7, zr_X_isDone_8, zr_X_isDone_8n, zr_X_isDone_9, zr_X_isDone_10, zr_X_isDone_13, zr_X_isDone_121, zr_X_isDone_121n, zr_X_isDone_122, zr_X_isDone_123, zr_X_isDone_124, zr_X_isDone_125, zr_X_isDone_128, zr_X_isDone_130, zr_X_isDone_132, zr_X_isDone_133, zr_X_isDone_136, zr_X_isDone_137, zr_X_isDone_140, zr_X_isDone_142, zr_X_isDone_145, zr_X_isDone_148, zr_X_isDone_149, zr_X_isDone_152, zr_X_isDone_153, nI_1, hc1, hR.cls, hat, show ¬ (104 : Int32) = 98 by decide, hc3, c1, hX.f1, hM.cls, q1, z_obs, z_pu_s, z_pu_n, z00, z10, ↓reduceIte, true_or, or_true, z_b_t, z_b_f, Option.isSome_some]
      · rw [if_neg k2] at q2
        rw [decide_eq_false k2] at q1
        rw [if_neg (fun z => k2 z.2)]
        refine ⟨G', ?_, h.to q2 q3⟩
        simp only [zm_X_isDone, zr_X_isDone_0, zr_X_isDone_0n, zr_X_isDone_1, zr_X_isDone_2, zr_X_isDone_3, zr_X_isDone_4, zr_X_isDone_7, zr_X_isDone_8, zr_X_isDone_8n, zr_X_isDone_9, zr_X_isDone_10, zr_X_isDone_13, zr_X_isDone_121, zr_X_isDone_121n, zr_X_isDone_122, zr_X_isDone_123, zr_X_isDone_124, zr_X_isDone_125, zr_X_isDone_128, zr_X_isDone_130, zr_X_isDone_132, zr_X_isDone_133, zr_X_isDone_136, zr_X_isDone_137, zr_X_isDone_140, zr_X_isDone_142, zr_X_isDone_145, zr_X_isDone_148, zr_X_isDone_149, zr_X_isDone_152, zr_X_isDone_153, nI_1, hc1, hR.cls, hat, show ¬ (104 : Int32) = 98 by decide, hc3, c1, hX.f1, hM.cls, q1, z_obs, z_pu_s, z_pu_n, z00, z10, ↓reduceIte, true_or, or_true, z_b_t, z_b_f, Option.isSome_none]
    · have c1 : nI p < 1 := nI_lt (b := 1) (by omega) (by omega)
      rw [if_neg (fun z => k1 z.1)]
      refine ⟨G, ?_, h⟩
      simp only [zm_X_isDone, zr_X_isDone_0, zr_X_isDone_0n, zr_X_isDone_1, zr_X_isDone_2, zr_X_isDone_3, zr_X_isDone_4, zr_X_isDone_7, zr_X_isDone_8, zr_X_isDone_8n, zr_X_isDone_9, zr_X_isDone_10, zr_X_isDone_13, zr_X_isDone_121, zr_X_isDone_121n, zr_X_isDone_122, zr_X_isDone_123, zr_X_isDone_124, zr_X_isDone_125, zr_X_isDone_128, zr_X_isDone_130, zr_X_isDone_132, zr_X_isDone_133, zr_X_isDone_136, zr_X_isDone_137, zr_X_isDone_140, zr_X_isDone_142, zr_X_isDone_145, zr_X_isDone_148, zr_X_isDone_149, zr_X_isDone_152, zr_X_isDone_153, nI_1, hc1, hR.cls, hat, show ¬ (104 : Int32) = 98 by decide, hc3, c1, z_obs, z_pu_s, z_pu_n, z00, z10, ↓reduceIte, true_or, or_true, z_b_t, z_b_f, Option.isSome_none]
  · generalize txN sz el (a + 1) - 48 = g1 at hc1 b1
    have hc3 := sX_twoDigits (E := E) 0 N k hR hz ho (show a + 2 + 1 < 2 ^ 31 by omega) (hdg 2 (by omega) (by omega)) (hdg 3 (by omega) (by omega))
    have b2 := isDg_10 (hdg 2 (by omega) (by omega))
    have b3 := isDg_10 (hdg 3 (by omega) (by omega))
    rw [if_neg (by omega), if_neg (by omega), if_neg (by omega)]
    rw [show a + 2 + 1 = a + 3 by omega] at hc3
    have hp : 10 * (txN sz el (a + 2) - 48) + (txN sz el (a + 3) - 48) = pl2 (txN sz el (a + 2) - 48) (txN sz el (a + 3) - 48) := rfl
    rw [hp] at hc3
    have hpl : pl2 (txN sz el (a + 2) - 48) (txN sz el (a + 3) - 48) < 100 := by unfold pl2; omega
    generalize pl2 (txN sz el (a + 2) - 48) (txN sz el (a + 3) - 48) = p at hc3 hpl
    rw [y3.mpr e] at hat
    by_cases k1 : g1 < t 0 ∧ p < 31
    · obtain ⟨G', q1, q2, q3⟩ := sM_move (E := E) 0 N k hM w k1.1 k1.2
      have cn : ¬ nI (sP t g1) < 0 := nI_pos (by have := (w.2.2.2 g1 k1.1).2.2.1; omega)
      rw [if_pos k1]
      refine ⟨G', ?_, h.to q2 q3⟩
      simp only [zm_X_isDone, zr_X_isDone_0, zr_X_isDone_0n, zr_X_isDone_1, zr_X_isDone_2, zr_X_isDone_3, zr_X_isDone_4, zr_X_isDone_7, zr_X_isDone_8, zr_X_isDone_8n, zr_X_isDone_9, zr_X_isDone_10, zr_X_isDone_13, zr_X_isDone_154, zr_X_isDone_155, zr_X_isDone_158, zr_X_isDone_159, zr_X_isDone_159n, zr_X_isDone_160, zr_X_isDone_161, zr_X_isDone_162, zr_X_isDone_163, zr_X_isDone_166, zr_X_isDone_169, zr_X_isDone_172, zr_X_isDone_173, zr_X_isDone_176, zr_X_isDone_177, nI_1, hc1, hR.cls, hat, show ¬ (112 : Int32) = 98 by decide, show ¬ (112 : Int32) = 104 by decide, show ¬ (112 : Int32) = 114 by decide, show (2 : Int32) = nI 2 from rfl, nI_add, hc3, hX.f1, hM.cls, q1, cn, z_obs, z_pu_s, z_pu_n, z00, z10, ↓reduceIte, true_or, or_true, z_b_t, z_b_f, Option.isSome_some]
    · have hn : isB t (nI g1) = false ∨ inR (nI p) 31 = false := by
        cases h1 : isB t (nI g1)
        · exact Or.inl rfl
        · cases h2 : inR (nI p) 31
          · exact Or.inr rfl
          · obtain ⟨j2, e1, e2⟩ := isB_of w h1
            obtain ⟨j3, e3, e4⟩ := inR_of (by decide) h2
            have := (nI_eq (by omega) (by omega)).mp e2
            have := (nI_eq (by omega) (by omega)).mp e4
            exact absurd ⟨by omega, by omega⟩ k1
      have hf := sM_move_f (E := E) 0 N k hM hn
      rw [if_neg k1]
      refine ⟨G, ?_, h⟩
      simp only [zm_X_isDone, zr_X_isDone_0, zr_X_isDone_0n, zr_X_isDone_1, zr_X_isDone_2, zr_X_isDone_3, zr_X_isDone_4, zr_X_isDone_7, zr_X_isDone_8, zr_X_isDone_8n, zr_X_isDone_9, zr_X_isDone_10, zr_X_isDone_13, zr_X_isDone_154, zr_X_isDone_155, zr_X_isDone_158, zr_X_isDone_159, zr_X_isDone_159n, zr_X_isDone_160, zr_X_isDone_161, zr_X_isDone_162, zr_X_isDone_163, zr_X_isDone_166, zr_X_isDone_169, zr_X_isDone_172, zr_X_isDone_173, zr_X_isDone_176, zr_X_isDone_177, nI_1, hc1, hR.cls, hat, show ¬ (112 : Int32) = 98 by decide, show ¬ (112 : Int32) = 104 by decide, show ¬ (112 : Int32) = 114 by decide, show (2 : Int32) = nI 2 from rfl, nI_add, hc3, hX.f1, hM.cls, hf, show ((-1 : Int32) < 0) = True from eq_true (by decide), z_obs, z_pu_s, z_pu_n, z00, z10, ↓reduceIte, true_or, or_true, z_b_t, z_b_f, Option.isSome_none]
  · generalize txN sz el (a + 1) - 48 = g1 at hc1 b1
    rw [if_neg (by omega), if_pos e]
    rw [y4.mpr e] at hat
    by_cases k1 : g1 < t 0
    · obtain ⟨G', q1, q2, q3⟩ := sM_hear (E := E) 0 N k hM w k1
      have cn : ¬ nI (rgH t g1) < 0 := nI_pos (by have := rgH_le w k1; omega)
      rw [if_pos k1]
      refine ⟨G', ?_, h.to q2 q3⟩
      simp only [zm_X_isDone, zr_X_isDone_0, zr_X_isDone_0n, zr_X_isDone_1, zr_X_isDone_2, zr_X_isDone_3, zr_X_isDone_4, zr_X_isDone_7, zr_X_isDone_8, zr_X_isDone_8n, zr_X_isDone_9, zr_X_isDone_10, zr_X_isDone_13, zr_X_isDone_104, zr_X_isDone_105, zr_X_isDone_108, zr_X_isDone_109, zr_X_isDone_112, zr_X_isDone_115, zr_X_isDone_116, zr_X_isDone_119, zr_X_isDone_120, nI_1, hc1, hR.cls, hat, show ¬ (114 : Int32) = 98 by decide, show ¬ (114 : Int32) = 104 by decide, hX.f1, hM.cls, q1, cn, z_obs, z_pu_s, z_pu_n, z00, z10, ↓reduceIte, true_or, or_true, z_b_t, z_b_f, Option.isSome_some]
    · have hn : isB t (nI g1) = false := by
        cases h1 : isB t (nI g1)
        · rfl
        · obtain ⟨j2, e1, e2⟩ := isB_of w h1
          have := (nI_eq (by omega) (by omega)).mp e2
          omega
      have hf := sM_hear_f (E := E) 0 N k hM hn
      rw [if_neg k1]
      refine ⟨G, ?_, h⟩
      simp only [zm_X_isDone, zr_X_isDone_0, zr_X_isDone_0n, zr_X_isDone_1, zr_X_isDone_2, zr_X_isDone_3, zr_X_isDone_4, zr_X_isDone_7, zr_X_isDone_8, zr_X_isDone_8n, zr_X_isDone_9, zr_X_isDone_10, zr_X_isDone_13, zr_X_isDone_104, zr_X_isDone_105, zr_X_isDone_108, zr_X_isDone_109, zr_X_isDone_112, zr_X_isDone_115, zr_X_isDone_116, zr_X_isDone_119, zr_X_isDone_120, nI_1, hc1, hR.cls, hat, show ¬ (114 : Int32) = 98 by decide, show ¬ (114 : Int32) = 104 by decide, hX.f1, hM.cls, hf, show ((-1 : Int32) < 0) = True from eq_true (by decide), z_obs, z_pu_s, z_pu_n, z00, z10, ↓reduceIte, true_or, or_true, z_b_t, z_b_f, Option.isSome_none]
end
/-- what the statements leave is a state again -/
theorem doM_SG {sz : Nat} {tx : Nat → Nat} : ∀ f a n s m t, SG s → (a < sz → stN sz tx f a = none) → doM sz tx f a n s = .inr (m, t) → SG t := by
  intro f
  induction f with
  | zero => intro a n s m t g _ h; injection h with h; injection h with h1 h2; subst h2; exact g
  | succ f ih =>
    intro a n s m t g hs h
    unfold doM at h
    by_cases ha : a < sz
    · rw [if_pos ha] at h
      obtain ⟨d, d1, d2, d3, d4⟩ := stN_none (hs ha)
      rcases e : stS tx a s with _ | s'
      · rw [e] at h; cases h
      · rw [e] at h
        have e0 : dg0 (tx a) = d := by unfold dg0; rw [d1]
        rw [e0] at h
        exact ih (a + 2 + d) (n + 1) s' m t (stS_SG d1 d2 g e) (fun hlt => d4 hlt) h
    · rw [if_neg ha] at h
      injection h with h; injection h with h1 h2; subst h2; exact g
section
variable {E : z_E} {G0 G : z_H} {x : Nat} {s u t : Nat → Nat} {ib : Bool} {hs : Nat → Sh} {n r so sz : Nat} {el : Nat → Int32} (lv N k : Nat)
theorem sX_doStatements (h : XW G x s ib u hs n) (g : SG s) (hR : RA G r so sz el) (hr : x + 134 ≤ r) (hz : sz ≤ 100) (ho : okB sz el) (hst : 0 < sz → stN sz (txN sz el) (sz + 1) 0 = none) : ∃ G', z_evM E i_X_doStatements lv [.ref x, .ref r] N k G = some (some (.int (match doM sz (txN sz el) (sz + 1) 0 0 s with
  | .inl b => -2000 - nI b
  | .inr (m, _) => nI m)), N, k, G') ∧ XW G' x (match doM sz (txN sz el) (sz + 1) 0 0 s with
  | .inl _ => s
  | .inr (_, t) => t) ib u hs n ∧ FR (x + 1) 18 G G' := by
  obtain ⟨v, hv⟩ := h.mind
  obtain ⟨G1, p1, p2, p3⟩ := sM_takeFrom (E := E) 0 N k hv h.now (by omega) g.1.1
  have hK : MK G x s ib u hs n s G1 := ⟨h.mi p2 p3, p3, p2⟩
  have hrr : ∀ {t G'}, MK G x s ib u hs n t G' → RA G' r so sz el := fun {t G'} hm => hR.mono (hm.2.1 _ (by omega)) (hm.2.1 _ (by omega))
  have key : ∀ f a m t G1, sz ≤ a + f → 1 ≤ f → a ≤ 200 → m ≤ a → MK G x s ib u hs n t G1 → SG t → (a < sz → stN sz (txN sz el) f a = none) → ∃ G', z_ev E i_X_doStatements lv 15 [some (.ref x), some (.ref r), some (.int (nI m)), some (.int (nI a))] [] N k G1 = some (some (.int (match doM sz (txN sz el) f a m t with
    | .inl b => -2000 - nI b
    | .inr (m, _) => nI m)), N, k, G') ∧ XW G' x (match doM sz (txN sz el) f a m t with
    | .inl _ => s
    | .inr (_, t) => t) ib u hs n ∧ FR (x + 1) 18 G G' := by
    intro f
    induction f with
    | zero => intro a m t G1 _ h1; omega
    | succ f ih =>
      intro a m t G1 hf _ ha hm hK hg hs'
      have q2 := hrr hK
      unfold doM
      by_cases hlt : a < sz
      · have c : ¬ nI sz ≤ nI a := nI_ge hlt (by omega)
        obtain ⟨d, d1, d2, d3, d4⟩ := stN_none (hs' hlt)
        have d5 := dgN_le d1
        obtain ⟨G2, t1, t2⟩ := sX_isDone (E := E) 0 N k hK hg.1 hg.2.2 q2 hz ho ha d1 d2
        have q3 := hrr t2
        rw [if_pos hlt]
        rcases e : stS (txN sz el) a t with _ | t'
        · rw [e] at t1 t2
          refine ⟨G2, ?_, t2.1, fun q hq => t2.2.1 q (by omega)⟩
          rw [zr_X_doStatements_15]
          simp only [zr_X_doStatements_16, zr_X_doStatements_16n, zr_X_doStatements_17, zr_X_doStatements_20, zr_X_doStatements_23, zr_X_doStatements_24, zr_X_doStatements_24n, zr_X_doStatements_25, zr_X_doStatements_26, zr_X_doStatements_29, zr_X_doStatements_32, zr_X_doStatements_35, zr_X_doStatements_36, zr_X_doStatements_37, q2.cls, sR_length _ _ _ q2, c, hK.1.cls, t1, z_obs, z_pu_s, z_pu_n, z00, z10, ↓reduceIte, true_or, or_true, z_b_t, z_b_f, Option.isSome_none]
        · rw [e] at t1 t2
          have e0 : dg0 (txN sz el a) = d := by unfold dg0; rw [d1]
          rw [e0]
          have hdb := sX_digitsBehind (E := E) (G := G2) 0 N k (txN_by ho a).1
          rw [d1] at hdb
          have c0 : (0 : Int32) < nI d := by rw [int_0]; exact nI_lt (by omega) (by omega)
          have a59 : a + 1 + d < sz := by
            rcases Nat.lt_or_ge (a + 1 + d) sz with q | q
            · exact q
            · exfalso
              unfold txN at d3
              rw [if_neg (by omega)] at d3
              cases d3
          obtain ⟨G', u1, u2⟩ := ih (a + 2 + d) (m + 1) t' G2 (by omega) (by omega) (by omega) (by omega) t2 (stS_SG d1 d2 hg e) d4
          refine ⟨G', ?_, u2⟩
          dsimp only
          rw [← u1, zr_X_doStatements_15, show a + 2 + d = a + (d + 2) by omega]
          simp only [zr_X_doStatements_16, zr_X_doStatements_16n, zr_X_doStatements_17, zr_X_doStatements_20, zr_X_doStatements_23, zr_X_doStatements_24, zr_X_doStatements_24n, zr_X_doStatements_25, zr_X_doStatements_26, zr_X_doStatements_29, zr_X_doStatements_32, zr_X_doStatements_35, zr_X_doStatements_36, zr_X_doStatements_37, zr_X_doStatements_38, zr_X_doStatements_41, zr_X_doStatements_42, zr_X_doStatements_43, zr_X_doStatements_43n, zr_X_doStatements_44, zr_X_doStatements_45, zr_X_doStatements_48, zr_X_doStatements_51, zr_X_doStatements_54, zr_X_doStatements_55, zr_X_doStatements_56, zr_X_doStatements_57, zr_X_doStatements_58, q2.cls, q3.cls, sR_length _ _ _ q2, c, hK.1.cls, t1, z_obs, z_pu_s, z_pu_n, z00, z10, ↓reduceIte, true_or, or_true, z_b_t, z_b_f, Option.isSome_some, nI_1, sR_atB _ _ _ q3 hz ho (show a < 2 ^ 31 by omega), hdb, c0, show (2 : Int32) = nI 2 from rfl, nI_add]
      · have c : nI sz ≤ nI a := nI_le (by omega) (by omega)
        rw [if_neg hlt]
        obtain ⟨G2, t1, t2, t3⟩ := sM_takeFrom (E := E) 0 N k hK.1.now hK.2.2 (by omega) hg.1.1
        refine ⟨G2, ?_, hK.1.nw t2 t3, fun q hq => by rw [t3 q (by omega)]; exact hK.2.1 q (by omega)⟩
        simp only [zr_X_doStatements_15, zr_X_doStatements_16, zr_X_doStatements_16n, zr_X_doStatements_17, zr_X_doStatements_20, zr_X_doStatements_61, zr_X_doStatements_62, zr_X_doStatements_65, zr_X_doStatements_66, zr_X_doStatements_69, zr_X_doStatements_72, zr_X_doStatements_73, q2.cls, sR_length _ _ _ q2, c, hK.1.f0, hK.1.f1, hK.1.now.cls, t1, z_obs, z_pu_s, z_pu_n, z00, z10, ↓reduceIte, true_or, or_true, z_b_t, z_b_f]
  obtain ⟨G', k1, k2⟩ := key (sz + 1) 0 0 s G1 (by omega) (by omega) (by omega) (Nat.le_refl _) hK g hst
  refine ⟨G', ?_, k2⟩
  rw [← k1]
  simp only [zm_X_doStatements, zr_X_doStatements_0, zr_X_doStatements_1, zr_X_doStatements_4, zr_X_doStatements_5, zr_X_doStatements_8, zr_X_doStatements_11, zr_X_doStatements_12, zr_X_doStatements_13, zr_X_doStatements_14, h.f0, h.f1, h.mcls, p1, z_obs, z_pu_s, z_pu_n, z00, z10, ↓reduceIte, true_or, or_true, z_b_t, z_b_f]
  rfl
theorem stN_lt {sz : Nat} (hz : sz ≤ 100) (el : Nat → Int32) : ∀ f a j, a ≤ 200 → stN sz (txN sz el) f a = some j → j ≤ 300 := by
  intro f
  induction f with
  | zero => intro a j _ h; cases h
  | succ f ih =>
    intro a j ha h
    unfold stN at h
    rcases e : dgN (txN sz el a) with _ | d
    · rw [e] at h; injection h with h; omega
    · have d5 := dgN_le e
      rw [e] at h
      dsimp only at h
      rcases e2 : fnd (fun i => !(isDg (txN sz el i))) d (a + 1) with _ | j2
      · rw [e2] at h
        dsimp only at h
        by_cases h59 : txN sz el (a + 1 + d) = 59
        · rw [if_pos h59] at h
          by_cases hlt : a + 2 + d < sz
          · rw [if_pos hlt] at h; exact ih _ j (by omega) h
          · rw [if_neg hlt] at h; cases h
        · rw [if_neg h59] at h; injection h with h; omega
      · rw [e2] at h
        injection h with h
        subst h
        have hs : (fnd (fun i => !(isDg (txN sz el i))) d (a + 1)).isSome = true := by rw [e2]; rfl
        have key : ∀ (p : Nat → Bool) m i q, fnd p m i = some q → q < i + m := by
          intro p m
          induction m with
          | zero => intro i q h; cases h
          | succ m ih2 =>
            intro i q h
            unfold fnd at h
            cases hp : p i
            · rw [hp] at h
              simp only [Bool.false_eq_true, ↓reduceIte] at h
              have := ih2 (i + 1) q h
              omega
            · rw [hp] at h
              simp only [↓reduceIte] at h
              injection h with h
              omega
        have := key _ _ _ _ e2
        omega
/-- the rows of bytes hold bytes -/
def okH (hs : Nat → Sh) : Prop := ∀ d, d < 8 → ∀ sz el, hs d = Sh.ro 0 sz el → okB sz el
theorem xMarsh (h : XW G x s ib u hs n) (g : SG s) (hk : okH hs) (d : Int32) : ∃ G', z_evM E i_X_marsh lv [.ref x, .int d] N k G = some (some (.int (aMarsh s hs d).1), N, k, G') ∧ XW G' x (aMarsh s hs d).2 ib u hs n ∧ XF x G G' := by
  unfold aMarsh
  by_cases hl : lkR hs d ≠ 0
  · rw [if_pos hl]
    refine ⟨G, ?_, h, XF.rf⟩
    simp only [zm_X_marsh, zr_X_marsh_0, zr_X_marsh_1, zr_X_marsh_2, zr_X_marsh_5, zr_X_marsh_5n, zr_X_marsh_6, zr_X_marsh_6n, zr_X_marsh_7, zr_X_marsh_7n, zr_X_marsh_10, zr_X_marsh_11, zr_X_marsh_12, zr_X_marsh_15, zr_X_marsh_16, zr_X_marsh_16n, zr_X_marsh_17, zr_X_marsh_20, zr_X_marsh_23, zr_X_marsh_25, zr_X_marsh_26, zr_X_marsh_26n, zr_X_marsh_27, zr_X_marsh_30, zr_X_marsh_31, zr_X_marsh_32, zr_X_marsh_35, zr_X_marsh_38, zr_X_marsh_39, zr_X_marsh_40, zr_X_marsh_43, zr_X_marsh_44, zr_X_marsh_44n, zr_X_marsh_45, zr_X_marsh_48, h.cls, rowOn_lk _ _ _ h hl, sX_lackOfRow _ _ _ h hl, z_obs, z_pu_s, z_pu_n, z00, z10, ↓reduceIte, true_or, or_true, z_b_t, z_b_f]
  · rw [if_neg hl]
    obtain ⟨d, so, sz, el, hd, rfl, e⟩ := lkR_ro hl
    obtain ⟨r, r1, r2, r3, r4, r5, r6⟩ := sX_rowOn_ro (E := E) h hd e
    rw [jN_nI (show d < 2 ^ 31 by omega), e]
    dsimp only
    by_cases h0 : so = 0
    · subst h0
      have ho := hk d hd sz el e
      rw [if_pos rfl]
      have hs1 := sX_stray (E := E) 0 N k r2 r6 ho
      rcases es : stN sz (txN sz el) (sz + 1) 0 with _ | j
      · rw [es] at hs1
        obtain ⟨G', q1, q2, q3⟩ := sX_doStatements (E := E) 0 N k h g r2 r3 r6 ho (fun _ => es)
        have hs1' : z_evM E i_X_strayPlace 0 [.ref r] N k G = some (some (.int (-1)), N, k, G) := hs1
        rcases ed : doM sz (txN sz el) (sz + 1) 0 0 s with b | ⟨m, t⟩
        · rw [ed] at q1 q2
          refine ⟨G', ?_, q2, fun q hq => q3 q (by omega)⟩
          simp only [zm_X_marsh, zr_X_marsh_0, zr_X_marsh_1, zr_X_marsh_2, zr_X_marsh_5, zr_X_marsh_5n, zr_X_marsh_6, zr_X_marsh_6n, zr_X_marsh_7, zr_X_marsh_7n, zr_X_marsh_10, zr_X_marsh_11, zr_X_marsh_12, zr_X_marsh_15, zr_X_marsh_16, zr_X_marsh_16n, zr_X_marsh_17, zr_X_marsh_20, zr_X_marsh_23, zr_X_marsh_25, zr_X_marsh_26, zr_X_marsh_26n, zr_X_marsh_27, zr_X_marsh_30, zr_X_marsh_31, zr_X_marsh_32, zr_X_marsh_35, zr_X_marsh_38, zr_X_marsh_39, zr_X_marsh_40, zr_X_marsh_43, zr_X_marsh_44, zr_X_marsh_44n, zr_X_marsh_45, zr_X_marsh_48, h.cls, r1, r2.f0, show (nI 0 = 0) = True from eq_true rfl, hs1', show ((-1 : Int32) < 0) = True from eq_true (by decide), q1, z_obs, z_pu_s, z_pu_n, z00, z10, ↓reduceIte, true_or, or_true, z_b_t, z_b_f]
        · rw [ed] at q1 q2
          refine ⟨G', ?_, q2, fun q hq => q3 q (by omega)⟩
          simp only [zm_X_marsh, zr_X_marsh_0, zr_X_marsh_1, zr_X_marsh_2, zr_X_marsh_5, zr_X_marsh_5n, zr_X_marsh_6, zr_X_marsh_6n, zr_X_marsh_7, zr_X_marsh_7n, zr_X_marsh_10, zr_X_marsh_11, zr_X_marsh_12, zr_X_marsh_15, zr_X_marsh_16, zr_X_marsh_16n, zr_X_marsh_17, zr_X_marsh_20, zr_X_marsh_23, zr_X_marsh_25, zr_X_marsh_26, zr_X_marsh_26n, zr_X_marsh_27, zr_X_marsh_30, zr_X_marsh_31, zr_X_marsh_32, zr_X_marsh_35, zr_X_marsh_38, zr_X_marsh_39, zr_X_marsh_40, zr_X_marsh_43, zr_X_marsh_44, zr_X_marsh_44n, zr_X_marsh_45, zr_X_marsh_48, h.cls, r1, r2.f0, show (nI 0 = 0) = True from eq_true rfl, hs1', show ((-1 : Int32) < 0) = True from eq_true (by decide), q1, z_obs, z_pu_s, z_pu_n, z00, z10, ↓reduceIte, true_or, or_true, z_b_t, z_b_f]
      · rw [es] at hs1
        have hj := stN_lt r6 el _ 0 j (by omega) es
        have hs1' : z_evM E i_X_strayPlace 0 [.ref r] N k G = some (some (.int (nI j)), N, k, G) := hs1
        have cn : ¬ nI j < 0 := nI_pos (by omega)
        refine ⟨G, ?_, h, XF.rf⟩
        simp only [zm_X_marsh, zr_X_marsh_0, zr_X_marsh_1, zr_X_marsh_2, zr_X_marsh_5, zr_X_marsh_5n, zr_X_marsh_6, zr_X_marsh_6n, zr_X_marsh_7, zr_X_marsh_7n, zr_X_marsh_10, zr_X_marsh_11, zr_X_marsh_12, zr_X_marsh_15, zr_X_marsh_16, zr_X_marsh_16n, zr_X_marsh_17, zr_X_marsh_20, zr_X_marsh_23, zr_X_marsh_25, zr_X_marsh_26, zr_X_marsh_26n, zr_X_marsh_27, zr_X_marsh_30, zr_X_marsh_31, zr_X_marsh_32, zr_X_marsh_35, zr_X_marsh_38, zr_X_marsh_39, zr_X_marsh_40, zr_X_marsh_43, zr_X_marsh_44, zr_X_marsh_44n, zr_X_marsh_45, zr_X_marsh_48, h.cls, r1, r2.f0, show (nI 0 = 0) = True from eq_true rfl, hs1', cn, z_obs, z_pu_s, z_pu_n, z00, z10, ↓reduceIte, true_or, or_true, z_b_t, z_b_f]
    · rw [if_neg h0]
      have cn : ¬ nI so = 0 := nI_ne0 (by omega) (by omega)
      refine ⟨G, ?_, h, XF.rf⟩
      simp only [zm_X_marsh, zr_X_marsh_0, zr_X_marsh_1, zr_X_marsh_2, zr_X_marsh_5, zr_X_marsh_5n, zr_X_marsh_6, zr_X_marsh_6n, zr_X_marsh_7, zr_X_marsh_7n, zr_X_marsh_10, zr_X_marsh_11, zr_X_marsh_12, zr_X_marsh_15, zr_X_marsh_16, zr_X_marsh_16n, zr_X_marsh_17, zr_X_marsh_20, zr_X_marsh_23, zr_X_marsh_25, zr_X_marsh_26, zr_X_marsh_26n, zr_X_marsh_27, zr_X_marsh_30, zr_X_marsh_31, zr_X_marsh_32, zr_X_marsh_35, zr_X_marsh_38, zr_X_marsh_39, zr_X_marsh_40, zr_X_marsh_43, zr_X_marsh_44, zr_X_marsh_44n, zr_X_marsh_45, zr_X_marsh_48, h.cls, r1, r2.f0, cn, z_obs, z_pu_s, z_pu_n, z00, z10, ↓reduceIte, true_or, or_true, z_b_t, z_b_f]
end
