/-! THE MODEL: the text of a marsh read -/
def hI (c : Nat) : Int32 := if c < 256 then nI c else -1
theorem hI_n : ∀ c, c < 257 → (hI c = 98 ↔ c = 98) ∧ (hI c = 104 ↔ c = 104) ∧ (hI c = 112 ↔ c = 112) ∧ (hI c = 114 ↔ c = 114) ∧ (hI c = 59 ↔ c = 59) ∧ inL (hI c) 48 57 = isDg c ∧ (isDg c = true → hI c = nI c ∧ 48 ≤ c) := by decide +kernel
theorem fnd_s (p : Nat → Bool) (m i : Nat) : fnd p (m + 1) i = if p i = true then some i else fnd p m (i + 1) := rfl
theorem fnd_app (p : Nat → Bool) : ∀ m1 m2 i, fnd p (m1 + m2) i = (match fnd p m1 i with
  | some j => some j
  | none => fnd p m2 (i + m1)) := by
  intro m1
  induction m1 with
  | zero => intro m2 i; rw [Nat.zero_add]; rfl
  | succ m1 ih =>
    intro m2 i
    rw [show m1 + 1 + m2 = (m1 + m2) + 1 by omega, fnd_s, fnd_s]
    cases hp : p i
    · simp only [Bool.false_eq_true, ↓reduceIte]
      rw [ih m2 (i + 1), show i + 1 + m1 = i + (m1 + 1) by omega]
    · rfl
/-- a statement read: where it strays, or where the next one stands -/
def rsN (tx : Nat → Nat) (pl : Nat) : Nat ⊕ Nat := match dgN (tx pl) with
  | none => .inl pl
  | some d => (match fnd (fun i => !(isDg (tx i))) d (pl + 1) with
    | some j => .inl j
    | none => if tx (pl + 1 + d) = 59 then .inr (pl + 2 + d) else .inl (pl + 1 + d))
theorem stN_rs (sz : Nat) (tx : Nat → Nat) (f a : Nat) : stN sz tx (f + 1) a = (match rsN tx a with
  | .inl j => some j
  | .inr e => if e < sz then stN sz tx f e else none) := by
  unfold rsN
  rw [stN]
  rcases dgN (tx a) with _ | d
  · rfl
  · dsimp only
    rcases fnd (fun i => !(isDg (tx i))) d (a + 1) with _ | j
    · dsimp only
      by_cases h : tx (a + 1 + d) = 59
      · rw [if_pos h, if_pos h]
      · rw [if_neg h, if_neg h]
    · rfl
def decN (tx : Nat → Nat) (m i : Nat) : Nat := foldN (fun j acc => 10 * acc + (tx j - 48)) m i 0
/-- the model's world while it reads -/
def PR (G0 : z_H) (a : Nat) (s : Nat → Nat) (ib : Bool) (u : Nat → Nat) (hs : Nat → Sh) (d sz pl : Nat) (nb : Nat → Nat) (z : Nat → Int32) (G : z_H) : Prop :=
  DW G a s ib u hs ∧ FR a 15 G0 G ∧ (∃ q, G a = some (.inl (12, dFs a (z_b ib) q)) ∧ q 5 = nI pl ∧ q 6 = nI (100 * d) ∧ q 7 = nI sz) ∧ (∃ f, G (a + 5) = some (.inr (.int, 3, .inl f)) ∧ ∀ j, j < 3 → f j = nI (nb j)) ∧ G (a + 4) = some (.inr (.int, 33, .inl z))
section
variable {E : z_E} {G0 G : z_H} {a : Nat} {s u : Nat → Nat} {ib : Bool} {hs : Nat → Sh} {d sz pl : Nat} {el : Nat → Int32} {nb : Nat → Nat} {z : Nat → Int32} (lv N k : Nat)
theorem PR.g5 (h : PR G0 a s ib u hs d sz pl nb z G) (t f : Nat) : z_gf G a [5, 12, 12, t, f] = some (.int (nI pl)) := by
  obtain ⟨q, h1, h2, h3, h4⟩ := h.2.2.1
  rw [← h2]
  exact z_gfI h1 (by decide) (by decide) rfl
theorem PR.g6 (h : PR G0 a s ib u hs d sz pl nb z G) (t f : Nat) : z_gf G a [6, 12, 12, t, f] = some (.int (nI (100 * d))) := by
  obtain ⟨q, h1, h2, h3, h4⟩ := h.2.2.1
  rw [← h3]
  exact z_gfI h1 (by decide) (by decide) rfl
theorem PR.g7 (h : PR G0 a s ib u hs d sz pl nb z G) (t f : Nat) : z_gf G a [7, 12, 12, t, f] = some (.int (nI sz)) := by
  obtain ⟨q, h1, h2, h3, h4⟩ := h.2.2.1
  rw [← h4]
  exact z_gfI h1 (by decide) (by decide) rfl
/-- the place is put -/
theorem PR.mv (h : PR G0 a s ib u hs d sz pl nb z G) (p : Nat) : ∃ G', z_pf G a (.int (nI p)) false [5, 12, 12, 0, 0] = some G' ∧ PR G0 a s ib u hs d sz p nb z G' := by
  obtain ⟨h1, h2, ⟨q, q1, q2, q3, q4⟩, ⟨f, f1, f2⟩, h5⟩ := h
  exact ⟨_, DW.pf q1 5 (by omega) (nI p), h1.no, h2.tr (fun x hx => z_up_n _ _ (by omega)), ⟨_, z_up_s _ _ _, rfl, q3, q4⟩, ⟨f, by rw [z_up_n _ _ (by omega)]; exact f1, f2⟩, by rw [z_up_n _ _ (by omega)]; exact h5⟩
theorem DW.up5 (h : DW G a s ib u hs) {f : Nat → Int32} : DW (z_up G (a + 5) (.inr (.int, 3, .inl f))) a s ib u hs := by
  obtain ⟨h0, h1, h2, ⟨v, h3, h3'⟩, h4, h5, h6, h7, h8, h9⟩ := h
  have e : ∀ x, x ≠ a + 5 → z_up G (a + 5) (.inr (.int, 3, .inl f)) x = G x := fun x hx => z_up_n _ _ hx
  exact ⟨by rw [e _ (by omega)]; exact h0, h1.mono (e _ (by omega)), h2.mono (e _ (by omega)), ⟨v, h3.mono (e _ (by omega)), h3'⟩, h4.mono (e _ (by omega)), ⟨f, z_up_s _ _ _⟩, h6.mono (e _ (by omega)), h7.mono (e _ (by omega)), h8.mono (e _ (by omega)), h9.mono fun q q1 q2 => e q (by omega)⟩
/-- a number is put -/
theorem PR.wn (h : PR G0 a s ib u hs d sz pl nb z G) {j : Nat} (hj : j < 3) (v : Nat) : ∃ G', z_pi G (a + 5) (nI j) (nI v) = some G' ∧ PR G0 a s ib u hs d sz pl (uN nb j v) z G' := by
  obtain ⟨h1, h2, ⟨q, q1, q2, q3, q4⟩, ⟨f, f1, f2⟩, h5⟩ := h
  refine ⟨_, z_piI f1 hj (by decide), h1.up5, h2.tr (fun x hx => z_up_n _ _ (by omega)), ⟨q, by rw [z_up_n _ _ (by omega)]; exact q1, q2, q3, q4⟩, ⟨_, z_up_s _ _ _, fun i hi => ?_⟩, by rw [z_up_n _ _ (by omega)]; exact h5⟩
  by_cases e : i = j
  · subst e; rw [pk_us, uN_s]
  · rw [pk_un e, uN_n _ _ e]; exact f2 i hi
theorem PR.rn (h : PR G0 a s ib u hs d sz pl nb z G) {j : Nat} (hj : j < 3) : z_ai E G (a + 5) (nI j) = some (nI (nb j)) := by
  obtain ⟨h1, h2, h3, ⟨f, f1, f2⟩, h5⟩ := h
  rw [z_aiI f1 hj (by decide), f2 j hj]
/-- the state is put -/
theorem PR.ns (h : PR G0 a s ib u hs d sz pl nb z G) {G' : z_H} {t : Nat → Nat} (ht : DW G' a t ib u hs) (e : FR (a + 1) 1 G G') : PR G0 a t ib u hs d sz pl nb z G' := by
  obtain ⟨h1, h2, ⟨q, q1, q2, q3, q4⟩, ⟨f, f1, f2⟩, h5⟩ := h
  exact ⟨ht, h2.tr (fun x hx => e x (by omega)), ⟨q, by rw [e _ (by omega)]; exact q1, q2, q3, q4⟩, ⟨f, by rw [e _ (by omega)]; exact f1, f2⟩, by rw [e _ (by omega)]; exact h5⟩
theorem sD_here (h : PR G0 a s ib u hs d sz pl nb z G) (hd : d < 8) (e : hs d = Sh.ro 0 sz el) (ho : okB sz el) (hp : pl ≤ 300) : z_evM E i_D_here lv [.ref a] N k G = some (some (.int (hI (txN sz el pl))), N, k, G) := by
  obtain ⟨r1, r2, r3, r4, r5, r6⟩ := h.1.ro (E := E) hd e
  obtain ⟨t1, t2, t3⟩ := txN_by ho pl
  by_cases hlt : pl < sz
  · have c : ¬ nI sz ≤ nI pl := nI_ge hlt (by omega)
    have hc := t2 hlt
    rw [if_pos hlt] at t3
    have eh : hI (txN sz el pl) = nI (txN sz el pl) := by unfold hI; rw [if_pos hc]
    have ea := by_and _ hc
    rw [eh, ← ea, ← t3]
    simp only [zm_D_here, zr_D_here_0, zr_D_here_1, zr_D_here_4, zr_D_here_5, zr_D_here_8, zr_D_here_11, zr_D_here_12, zr_D_here_15, zr_D_here_16, zr_D_here_19, zr_D_here_20, zr_D_here_23, zr_D_here_24, zr_D_here_25, zr_D_here_28, zr_D_here_29, zr_D_here_32, zr_D_here_33, h.g5, h.g7, h.g6, h.1.f19, c, nI_add, r6 pl hlt, z_obs, z_pu_s, z_pu_n, z00, z10, ↓reduceIte, true_or, or_true, z_b_t, z_b_f]
  · have c : nI sz ≤ nI pl := nI_le (by omega) (by omega)
    have e2 : txN sz el pl = 256 := by unfold txN; rw [if_neg hlt]
    rw [e2]
    simp only [zm_D_here, zr_D_here_0, zr_D_here_1, zr_D_here_4, zr_D_here_5, zr_D_here_8, zr_D_here_11, zr_D_here_12, zr_D_here_15, zr_D_here_16, zr_D_here_19, zr_D_here_20, zr_D_here_23, zr_D_here_24, zr_D_here_25, zr_D_here_28, zr_D_here_29, zr_D_here_32, zr_D_here_33, h.g5, h.g7, c, z_obs, z_pu_s, z_pu_n, z00, z10, ↓reduceIte, true_or, or_true, z_b_t, z_b_f]
    rfl
theorem sD_readsNumber (h : PR G0 a s ib u hs d sz pl nb z G) (hd : d < 8) (e : hs d = Sh.ro 0 sz el) (ho : okB sz el) (hp : pl ≤ 200) {j m : Nat} (hj : j < 3) (hm : m ≤ 4) : ∃ G', z_evM E i_D_readsNumber lv [.ref a, .int (nI j), .int (nI m)] N k G = some (some (.int (z_b (fnd (fun i => !(isDg (txN sz el i))) m pl).isNone)), N, k, G') ∧ (match fnd (fun i => !(isDg (txN sz el i))) m pl with
  | some q => ∃ nb', PR G0 a s ib u hs d sz q nb' z G'
  | none => PR G0 a s ib u hs d sz (pl + m) (uN nb j (decN (txN sz el) m pl)) z G') := by
  have key : ∀ f i acc G1, i + f = m → PR G0 a s ib u hs d sz (pl + i) (uN nb j acc) z G1 → ∃ G', z_ev E i_D_readsNumber lv 9 [some (.ref a), some (.int (nI j)), some (.int (nI m)), some (.int (nI i))] [] N k G1 = some (some (.int (z_b (fnd (fun i => !(isDg (txN sz el i))) f (pl + i)).isNone)), N, k, G') ∧ (match fnd (fun i => !(isDg (txN sz el i))) f (pl + i) with
    | some q => ∃ nb', PR G0 a s ib u hs d sz q nb' z G'
    | none => PR G0 a s ib u hs d sz (pl + m) (uN nb j (foldN (fun j acc => 10 * acc + (txN sz el j - 48)) f (pl + i) acc)) z G') := by
    intro f
    induction f with
    | zero =>
      intro i acc G1 hi hP
      have : i = m := by omega
      subst this
      have c : nI i ≤ nI i := nI_le (Nat.le_refl _) (by omega)
      refine ⟨G1, ?_, hP⟩
      simp only [zr_D_readsNumber_9, zr_D_readsNumber_10, zr_D_readsNumber_11, zr_D_readsNumber_69, zr_D_readsNumber_70, c, z_obs, z_pu_s, z_pu_n, z00, z10, ↓reduceIte, true_or, or_true, z_b_t, z_b_f, fnd, Option.isNone_none]
    | succ f ih =>
      intro i acc G1 hi hP
      have c : ¬ nI m ≤ nI i := nI_ge (by omega) (by omega)
      obtain ⟨-, -, -, -, -, y6, y7⟩ := hI_n _ (txN_by ho (pl + i)).1
      have hh := fun (lv N k : Nat) => sD_here (E := E) lv N k hP hd e ho (show pl + i ≤ 300 by omega)
      unfold fnd
      cases hg : isDg (txN sz el (pl + i))
      · rw [hg] at y6
        refine ⟨G1, ?_, ⟨_, hP⟩⟩
        rw [zr_D_readsNumber_9]
        simp only [zr_D_readsNumber_10, zr_D_readsNumber_11, zr_D_readsNumber_14, zr_D_readsNumber_15, zr_D_readsNumber_18, zr_D_readsNumber_20, zr_D_readsNumber_22, zr_D_readsNumber_25, zr_D_readsNumber_28, zr_D_readsNumber_29, c, hP.1.cls, hh, sD_isIn, y6, z_obs, z_pu_s, z_pu_n, z00, z10, ↓reduceIte, true_or, or_true, z_b_t, z_b_f, Bool.not_false, Option.isNone_some]
      · obtain ⟨w1, w2⟩ := y7 hg
        rw [hg] at y6
        have hr := hP.rn (E := E) hj
        rw [uN_s] at hr
        obtain ⟨G2, t1, t2⟩ := hP.wn hj (10 * acc + (txN sz el (pl + i) - 48))
        rw [uN_u] at t2
        obtain ⟨G3, p1, p2⟩ := t2.mv (pl + (i + 1))
        obtain ⟨G', k1, k2⟩ := ih (i + 1) (10 * acc + (txN sz el (pl + i) - 48)) G3 (by omega) p2
        have ev : nI (10 * acc + txN sz el (pl + i)) - nI 48 = nI (10 * acc + (txN sz el (pl + i) - 48)) := by rw [pk_sub (by omega), show 10 * acc + txN sz el (pl + i) - 48 = 10 * acc + (txN sz el (pl + i) - 48) by omega]
        refine ⟨G', ?_, ?_⟩
        · simp only [Bool.not_true, Bool.false_eq_true, ↓reduceIte]
          rw [show pl + i + 1 = pl + (i + 1) by omega, ← k1, zr_D_readsNumber_9]
          have p1' : z_pf G2 a (.int (nI (pl + i + 1))) false [5, 12, 12, 0, 0] = some G3 := p1
          simp only [zr_D_readsNumber_10, zr_D_readsNumber_11, zr_D_readsNumber_14, zr_D_readsNumber_15, zr_D_readsNumber_18, zr_D_readsNumber_20, zr_D_readsNumber_22, zr_D_readsNumber_25, c, hP.1.cls, hh, sD_isIn, y6, z_obs, z_pu_s, z_pu_n, z00, z10, ↓reduceIte, true_or, or_true, z_b_t, z_b_f]
          simp only [zr_D_readsNumber_30, zr_D_readsNumber_31, zr_D_readsNumber_34, zr_D_readsNumber_35, zr_D_readsNumber_37, zr_D_readsNumber_38, zr_D_readsNumber_41, zr_D_readsNumber_42, zr_D_readsNumber_43, zr_D_readsNumber_44, zr_D_readsNumber_45, zr_D_readsNumber_48, zr_D_readsNumber_49, zr_D_readsNumber_51, zr_D_readsNumber_52, zr_D_readsNumber_53, zr_D_readsNumber_54, zr_D_readsNumber_55, zr_D_readsNumber_58, zr_D_readsNumber_59, zr_D_readsNumber_60, zr_D_readsNumber_63, zr_D_readsNumber_66, hP.1.f8, hP.1.cls, hh, w1, hr, int_10, show (48 : Int32) = nI 48 from rfl, pk_mul, nI_add, ev, t1, t2.g5, nI_1, p1', z_obs, z_pu_s, z_pu_n, z00, z10, ↓reduceIte, true_or, or_true, z_b_t, z_b_f]
        · simp only [Bool.not_true, Bool.false_eq_true, ↓reduceIte]
          rw [show pl + i + 1 = pl + (i + 1) by omega]
          exact k2
  obtain ⟨G1, t1, t2⟩ := h.wn hj 0
  obtain ⟨G', k1, k2⟩ := key m 0 0 G1 (by omega) t2
  refine ⟨G', Eq.trans ?_ k1, k2⟩
  have t1' : z_pi G (a + 5) (nI j) 0 = some G1 := t1
  simp only [zm_D_readsNumber, zr_D_readsNumber_0, zr_D_readsNumber_1, zr_D_readsNumber_4, zr_D_readsNumber_5, zr_D_readsNumber_6, zr_D_readsNumber_7, zr_D_readsNumber_8, h.1.f8, t1', z_obs, z_pu_s, z_pu_n, z00, z10, ↓reduceIte, true_or, or_true, z_b_t, z_b_f]
  rfl
/-- the numbers of a statement -/
def nbOf (tx : Nat → Nat) (pl : Nat) (nb : Nat → Nat) : Prop :=
  (tx pl = 98 → nb 0 = tx (pl + 1) - 48 ∧ nb 1 = tx (pl + 2) - 48 ∧ nb 2 = pl2 (tx (pl + 3) - 48) (tx (pl + 4) - 48)) ∧ (tx pl = 114 → nb 0 = tx (pl + 1) - 48) ∧ (tx pl = 104 → nb 0 = pl2 (tx (pl + 1) - 48) (tx (pl + 2) - 48)) ∧ (tx pl = 112 → nb 0 = tx (pl + 1) - 48 ∧ nb 1 = pl2 (tx (pl + 2) - 48) (tx (pl + 3) - 48))
theorem decN_1 (tx : Nat → Nat) (i : Nat) : decN tx 1 i = tx i - 48 := by unfold decN foldN foldN; omega
theorem decN_2 (tx : Nat → Nat) (i : Nat) : decN tx 2 i = pl2 (tx i - 48) (tx (i + 1) - 48) := by unfold decN foldN foldN foldN pl2; omega
/-- the end of a statement -/
theorem sD_semi (h : PR G0 a s ib u hs d sz pl nb z G) (hd : d < 8) (e : hs d = Sh.ro 0 sz el) (ho : okB sz el) (hp : pl ≤ 250) (c0 : Int32) : ∃ G', z_ev E i_D_readsStatement lv 155 [some (.ref a), some (.int c0), some (.int 1)] [] N k G = some (some (.int (z_b (decide (txN sz el pl = 59)))), N, k, G') ∧ PR G0 a s ib u hs d sz (if txN sz el pl = 59 then pl + 1 else pl) nb z G' := by
  obtain ⟨-, -, -, -, y5, -⟩ := hI_n _ (txN_by ho pl).1
  have hh := fun (lv N k : Nat) => sD_here (E := E) lv N k h hd e ho (show pl ≤ 300 by omega)
  by_cases h59 : txN sz el pl = 59
  · obtain ⟨G', p1, p2⟩ := h.mv (pl + 1)
    rw [if_pos h59, decide_eq_true h59]
    refine ⟨G', ?_, p2⟩
    simp only [zr_D_readsStatement_155, zr_D_readsStatement_156, zr_D_readsStatement_159, zr_D_readsStatement_160, zr_D_readsStatement_163, zr_D_readsStatement_165, zr_D_readsStatement_168, zr_D_readsStatement_169, zr_D_readsStatement_170, zr_D_readsStatement_171, zr_D_readsStatement_172, zr_D_readsStatement_175, zr_D_readsStatement_176, zr_D_readsStatement_177, zr_D_readsStatement_180, zr_D_readsStatement_181, h.1.cls, hh, y5.mpr h59, h.g5, nI_1, p1, z_obs, z_pu_s, z_pu_n, z00, z10, ↓reduceIte, true_or, or_true, z_b_t, z_b_f]
  · have cn : ¬ hI (txN sz el pl) = 59 := fun z => h59 (y5.mp z)
    rw [if_neg h59, decide_eq_false h59]
    refine ⟨G, ?_, h⟩
    simp only [zr_D_readsStatement_155, zr_D_readsStatement_156, zr_D_readsStatement_159, zr_D_readsStatement_160, zr_D_readsStatement_163, zr_D_readsStatement_165, zr_D_readsStatement_168, zr_D_readsStatement_169, zr_D_readsStatement_170, zr_D_readsStatement_171, zr_D_readsStatement_172, zr_D_readsStatement_175, zr_D_readsStatement_176, zr_D_readsStatement_177, zr_D_readsStatement_180, zr_D_readsStatement_181, h.1.cls, hh, cn, z_obs, z_pu_s, z_pu_n, z00, z10, ↓reduceIte, true_or, or_true, z_b_t, z_b_f]
theorem sD_semi0 (c0 : Int32) : z_ev E i_D_readsStatement lv 155 [some (.ref a), some (.int c0), some (.int 0)] [] N k G = some (some (.int 0), N, k, G) := by
  simp only [zr_D_readsStatement_155, zr_D_readsStatement_156, zr_D_readsStatement_159, zr_D_readsStatement_160, zr_D_readsStatement_163, zr_D_readsStatement_165, zr_D_readsStatement_168, zr_D_readsStatement_169, z_obs, z_pu_s, z_pu_n, z00, z10, ↓reduceIte, true_or, or_true, z_b_t, z_b_f]
theorem sD_readsStatement (h : PR G0 a s ib u hs d sz pl nb z G) (hd : d < 8) (e : hs d = Sh.ro 0 sz el) (ho : okB sz el) (hp : pl ≤ 100) : ∃ G', z_evM E i_D_readsStatement lv [.ref a] N k G = some (some (.int (z_b (match rsN (txN sz el) pl with
  | .inl _ => false
  | .inr _ => true))), N, k, G') ∧ (match rsN (txN sz el) pl with
  | .inl q => ∃ nb', PR G0 a s ib u hs d sz q nb' z G'
  | .inr q => ∃ nb', PR G0 a s ib u hs d sz q nb' z G' ∧ nbOf (txN sz el) pl nb') := by
  have hh := fun (lv N k : Nat) => sD_here (E := E) lv N k h hd e ho (show pl ≤ 300 by omega)
  obtain ⟨y1, y2, y3, y4, -⟩ := hI_n _ (txN_by ho pl).1
  obtain ⟨G1, p1, p2⟩ := h.mv (pl + 1)
  have hsem := fun {G2 : z_H} {q : Nat} {nb' : Nat → Nat} (hP : PR G0 a s ib u hs d sz q nb' z G2) (hq : q ≤ 250) => sD_semi (E := E) lv N k hP hd e ho hq (hI (txN sz el pl))
  rcases ed : dgN (txN sz el pl) with _ | dd
  · have er : rsN (txN sz el) pl = .inl pl := by unfold rsN; rw [ed]
    rw [er]
    obtain ⟨G2, q1, q2⟩ := p2.mv pl
    have n1 : ¬ hI (txN sz el pl) = 98 := fun z => by rw [y1.mp z] at ed; exact absurd ed (by decide)
    have n2 : ¬ hI (txN sz el pl) = 104 := fun z => by rw [y2.mp z] at ed; exact absurd ed (by decide)
    have n3 : ¬ hI (txN sz el pl) = 112 := fun z => by rw [y3.mp z] at ed; exact absurd ed (by decide)
    have n4 : ¬ hI (txN sz el pl) = 114 := fun z => by rw [y4.mp z] at ed; exact absurd ed (by decide)
    refine ⟨G2, ?_, ⟨nb, q2⟩⟩
    simp only [zm_D_readsStatement, zr_D_readsStatement_0, zr_D_readsStatement_1, zr_D_readsStatement_4, zr_D_readsStatement_5, zr_D_readsStatement_6, zr_D_readsStatement_7, zr_D_readsStatement_10, zr_D_readsStatement_11, zr_D_readsStatement_12, zr_D_readsStatement_15, zr_D_readsStatement_16, zr_D_readsStatement_143, zr_D_readsStatement_144, zr_D_readsStatement_145, zr_D_readsStatement_148, zr_D_readsStatement_149, zr_D_readsStatement_150, zr_D_readsStatement_153, zr_D_readsStatement_154, h.1.cls, hh, h.g5, nI_1, p1, n1, n2, n3, n4, p2.g5, nI_pred, q1, z_obs, z_pu_s, z_pu_n, z00, z10, ↓reduceIte, true_or, or_true, z_b_t, z_b_f]
  · have pre : ∀ t, (t = (if txN sz el pl = 98 then 60 else if txN sz el pl = 104 then 106 else if txN sz el pl = 112 then 116 else 96)) → z_evM E i_D_readsStatement lv [.ref a] N k G = z_ev E i_D_readsStatement lv t [some (.ref a), some (.int (hI (txN sz el pl))), none] [] N k G1 := by
      intro t ht
      subst ht
      rcases dgN_cases ed with ⟨e1, rfl⟩ | ⟨e1, rfl⟩ | ⟨e1, rfl⟩ | ⟨e1, rfl⟩
      · rw [if_pos e1]
        simp only [zm_D_readsStatement, zr_D_readsStatement_0, zr_D_readsStatement_1, zr_D_readsStatement_4, zr_D_readsStatement_5, zr_D_readsStatement_6, zr_D_readsStatement_7, zr_D_readsStatement_10, zr_D_readsStatement_11, zr_D_readsStatement_12, zr_D_readsStatement_15, zr_D_readsStatement_16, h.1.cls, hh, h.g5, nI_1, p1, y1.mpr e1, z_obs, z_pu_s, z_pu_n, z00, z10, ↓reduceIte, true_or, or_true, z_b_t, z_b_f]
      · rw [if_neg (by omega), if_pos e1]
        simp only [zm_D_readsStatement, zr_D_readsStatement_0, zr_D_readsStatement_1, zr_D_readsStatement_4, zr_D_readsStatement_5, zr_D_readsStatement_6, zr_D_readsStatement_7, zr_D_readsStatement_10, zr_D_readsStatement_11, zr_D_readsStatement_12, zr_D_readsStatement_15, zr_D_readsStatement_16, h.1.cls, hh, h.g5, nI_1, p1, y2.mpr e1, show ¬ (104 : Int32) = 98 by decide, z_obs, z_pu_s, z_pu_n, z00, z10, ↓reduceIte, true_or, or_true, z_b_t, z_b_f]
      · rw [if_neg (by omega), if_neg (by omega), if_pos e1]
        simp only [zm_D_readsStatement, zr_D_readsStatement_0, zr_D_readsStatement_1, zr_D_readsStatement_4, zr_D_readsStatement_5, zr_D_readsStatement_6, zr_D_readsStatement_7, zr_D_readsStatement_10, zr_D_readsStatement_11, zr_D_readsStatement_12, zr_D_readsStatement_15, zr_D_readsStatement_16, h.1.cls, hh, h.g5, nI_1, p1, y3.mpr e1, show ¬ (112 : Int32) = 98 by decide, show ¬ (112 : Int32) = 104 by decide, z_obs, z_pu_s, z_pu_n, z00, z10, ↓reduceIte, true_or, or_true, z_b_t, z_b_f]
      · rw [if_neg (by omega), if_neg (by omega), if_neg (by omega)]
        simp only [zm_D_readsStatement, zr_D_readsStatement_0, zr_D_readsStatement_1, zr_D_readsStatement_4, zr_D_readsStatement_5, zr_D_readsStatement_6, zr_D_readsStatement_7, zr_D_readsStatement_10, zr_D_readsStatement_11, zr_D_readsStatement_12, zr_D_readsStatement_15, zr_D_readsStatement_16, h.1.cls, hh, h.g5, nI_1, p1, y4.mpr e1, show ¬ (114 : Int32) = 98 by decide, show ¬ (114 : Int32) = 104 by decide, show ¬ (114 : Int32) = 112 by decide, z_obs, z_pu_s, z_pu_n, z00, z10, ↓reduceIte, true_or, or_true, z_b_t, z_b_f]
    rw [pre _ rfl]
    -- what the end says, once all digits are read
    have fin : ∀ {G2 : z_H} {nb' : Nat → Nat}, PR G0 a s ib u hs d sz (pl + 1 + dd) nb' z G2 → nbOf (txN sz el) pl nb' → fnd (fun i => !(isDg (txN sz el i))) dd (pl + 1) = none → ∃ G', z_ev E i_D_readsStatement lv 155 [some (.ref a), some (.int (hI (txN sz el pl))), some (.int 1)] [] N k G2 = some (some (.int (z_b (match rsN (txN sz el) pl with
      | .inl _ => false
      | .inr _ => true))), N, k, G') ∧ (match rsN (txN sz el) pl with
      | .inl q => ∃ nb', PR G0 a s ib u hs d sz q nb' z G'
      | .inr q => ∃ nb', PR G0 a s ib u hs d sz q nb' z G' ∧ nbOf (txN sz el) pl nb') := by
      intro G2 nb' hP hnb hf
      have hd4 := dgN_le ed
      obtain ⟨G', k1, k2⟩ := hsem hP (by omega)
      refine ⟨G', ?_, ?_⟩
      · rw [k1]
        unfold rsN
        rw [ed]
        dsimp only
        rw [hf]
        dsimp only
        by_cases h59 : txN sz el (pl + 1 + dd) = 59
        · rw [if_pos h59, decide_eq_true h59]
        · rw [if_neg h59, decide_eq_false h59]
      · unfold rsN
        rw [ed]
        dsimp only
        rw [hf]
        dsimp only
        by_cases h59 : txN sz el (pl + 1 + dd) = 59
        · rw [if_pos h59] at k2 ⊢
          rw [show pl + 1 + dd + 1 = pl + 2 + dd by omega] at k2
          exact ⟨nb', k2, hnb⟩
        · rw [if_neg h59] at k2 ⊢
          exact ⟨nb', k2⟩
    have bad : ∀ {G2 : z_H} {nb' : Nat → Nat} {q : Nat}, PR G0 a s ib u hs d sz q nb' z G2 → fnd (fun i => !(isDg (txN sz el i))) dd (pl + 1) = some q → ∃ G', z_ev E i_D_readsStatement lv 155 [some (.ref a), some (.int (hI (txN sz el pl))), some (.int 0)] [] N k G2 = some (some (.int (z_b (match rsN (txN sz el) pl with
      | .inl _ => false
      | .inr _ => true))), N, k, G') ∧ (match rsN (txN sz el) pl with
      | .inl q => ∃ nb', PR G0 a s ib u hs d sz q nb' z G'
      | .inr q => ∃ nb', PR G0 a s ib u hs d sz q nb' z G' ∧ nbOf (txN sz el) pl nb') := by
      intro G2 nb' q hP hf
      have er : rsN (txN sz el) pl = .inl q := by unfold rsN; rw [ed]; dsimp only; rw [hf]
      rw [er]
      exact ⟨G2, sD_semi0 lv N k _, ⟨nb', hP⟩⟩
    rcases dgN_cases ed with ⟨e1, rfl⟩ | ⟨e1, rfl⟩ | ⟨e1, rfl⟩ | ⟨e1, rfl⟩
    · rw [if_pos e1]
      have a1 := fnd_app (fun i => !(isDg (txN sz el i))) 1 3 (pl + 1)
      have a2 := fnd_app (fun i => !(isDg (txN sz el i))) 1 2 (pl + 1 + 1)
      obtain ⟨G2, k1, k2⟩ := sD_readsNumber (E := E) 0 N k p2 hd e ho (by omega) (j := 0) (m := 1) (by omega) (by omega)
      rcases f1 : fnd (fun i => !(isDg (txN sz el i))) 1 (pl + 1) with _ | q
      · rw [f1] at k1 k2 a1
        dsimp only at k2 a1
        obtain ⟨G3, l1, l2⟩ := sD_readsNumber (E := E) 0 N k k2 hd e ho (by omega) (j := 1) (m := 1) (by omega) (by omega)
        rcases f2 : fnd (fun i => !(isDg (txN sz el i))) 1 (pl + 1 + 1) with _ | q
        · rw [f2] at l1 l2 a2
          dsimp only at l2 a2
          obtain ⟨G4, m1, m2⟩ := sD_readsNumber (E := E) 0 N k l2 hd e ho (by omega) (j := 2) (m := 2) (by omega) (by omega)
          rcases f3 : fnd (fun i => !(isDg (txN sz el i))) 2 (pl + 1 + 1 + 1) with _ | q
          · rw [f3] at m1 m2
            dsimp only at m2
            have hfall : fnd (fun i => !(isDg (txN sz el i))) 4 (pl + 1) = none := a1.trans (a2.trans f3)
            obtain ⟨G', n1, n2⟩ := fin m2 ⟨fun _ => ⟨by rw [uN_n _ _ (by omega), uN_n _ _ (by omega), uN_s, decN_1], by rw [uN_n _ _ (by omega), uN_s, decN_1], by rw [uN_s, decN_2]⟩, fun z => by omega, fun z => by omega, fun z => by omega⟩ hfall
            refine ⟨G', ?_, n2⟩
            rw [← n1]
            have k1' : z_evM E i_D_readsNumber 0 [.ref a, .int 0, .int 1] N k G1 = some (some (.int 1), N, k, G2) := k1
            have l1' : z_evM E i_D_readsNumber 0 [.ref a, .int 1, .int 1] N k G2 = some (some (.int 1), N, k, G3) := l1
            have m1' : z_evM E i_D_readsNumber 0 [.ref a, .int 2, .int 2] N k G3 = some (some (.int 1), N, k, G4) := m1
            simp only [zr_D_readsStatement_60, zr_D_readsStatement_61, zr_D_readsStatement_62, zr_D_readsStatement_63, zr_D_readsStatement_66, zr_D_readsStatement_69, zr_D_readsStatement_70, zr_D_readsStatement_71, zr_D_readsStatement_72, zr_D_readsStatement_75, zr_D_readsStatement_78, zr_D_readsStatement_79, zr_D_readsStatement_80, zr_D_readsStatement_81, zr_D_readsStatement_84, zr_D_readsStatement_87, zr_D_readsStatement_88, zr_D_readsStatement_91, zr_D_readsStatement_92, zr_D_readsStatement_93, p2.1.cls, k1', k2.1.cls, l1', l2.1.cls, m1', z_obs, z_pu_s, z_pu_n, z00, z10, ↓reduceIte, true_or, or_true, z_b_t, z_b_f]
          · rw [f3] at m1 m2
            dsimp only at m2
            obtain ⟨nb', m2⟩ := m2
            obtain ⟨G', n1, n2⟩ := bad m2 (a1.trans (a2.trans f3))
            refine ⟨G', ?_, n2⟩
            rw [← n1]
            have k1' : z_evM E i_D_readsNumber 0 [.ref a, .int 0, .int 1] N k G1 = some (some (.int 1), N, k, G2) := k1
            have l1' : z_evM E i_D_readsNumber 0 [.ref a, .int 1, .int 1] N k G2 = some (some (.int 1), N, k, G3) := l1
            have m1' : z_evM E i_D_readsNumber 0 [.ref a, .int 2, .int 2] N k G3 = some (some (.int 0), N, k, G4) := m1
            simp only [zr_D_readsStatement_60, zr_D_readsStatement_61, zr_D_readsStatement_62, zr_D_readsStatement_63, zr_D_readsStatement_66, zr_D_readsStatement_69, zr_D_readsStatement_70, zr_D_readsStatement_71, zr_D_readsStatement_72, zr_D_readsStatement_75, zr_D_readsStatement_78, zr_D_readsStatement_79, zr_D_readsStatement_80, zr_D_readsStatement_81, zr_D_readsStatement_84, zr_D_readsStatement_87, zr_D_readsStatement_88, zr_D_readsStatement_91, zr_D_readsStatement_92, zr_D_readsStatement_93, p2.1.cls, k1', k2.1.cls, l1', l2.1.cls, m1', z_obs, z_pu_s, z_pu_n, z00, z10, ↓reduceIte, true_or, or_true, z_b_t, z_b_f]
        · rw [f2] at l1 l2 a2
          dsimp only at l2 a2
          obtain ⟨nb', l2⟩ := l2
          obtain ⟨G', n1, n2⟩ := bad l2 (a1.trans a2)
          refine ⟨G', ?_, n2⟩
          rw [← n1]
          have k1' : z_evM E i_D_readsNumber 0 [.ref a, .int 0, .int 1] N k G1 = some (some (.int 1), N, k, G2) := k1
          have l1' : z_evM E i_D_readsNumber 0 [.ref a, .int 1, .int 1] N k G2 = some (some (.int 0), N, k, G3) := l1
          simp only [zr_D_readsStatement_60, zr_D_readsStatement_61, zr_D_readsStatement_62, zr_D_readsStatement_63, zr_D_readsStatement_66, zr_D_readsStatement_69, zr_D_readsStatement_70, zr_D_readsStatement_71, zr_D_readsStatement_72, zr_D_readsStatement_75, zr_D_readsStatement_78, zr_D_readsStatement_79, zr_D_readsStatement_80, zr_D_readsStatement_81, zr_D_readsStatement_84, zr_D_readsStatement_87, zr_D_readsStatement_88, zr_D_readsStatement_91, zr_D_readsStatement_92, zr_D_readsStatement_93, p2.1.cls, k1', k2.1.cls, l1', z_obs, z_pu_s, z_pu_n, z00, z10, ↓reduceIte, true_or, or_true, z_b_t, z_b_f]
      · rw [f1] at k1 k2 a1
        dsimp only at k2 a1
        obtain ⟨nb', k2⟩ := k2
        obtain ⟨G', n1, n2⟩ := bad k2 a1
        refine ⟨G', ?_, n2⟩
        rw [← n1]
        have k1' : z_evM E i_D_readsNumber 0 [.ref a, .int 0, .int 1] N k G1 = some (some (.int 0), N, k, G2) := k1
        simp only [zr_D_readsStatement_60, zr_D_readsStatement_61, zr_D_readsStatement_62, zr_D_readsStatement_63, zr_D_readsStatement_66, zr_D_readsStatement_69, zr_D_readsStatement_70, zr_D_readsStatement_71, zr_D_readsStatement_72, zr_D_readsStatement_75, zr_D_readsStatement_78, zr_D_readsStatement_79, zr_D_readsStatement_80, zr_D_readsStatement_81, zr_D_readsStatement_84, zr_D_readsStatement_87, zr_D_readsStatement_88, zr_D_readsStatement_91, zr_D_readsStatement_92, zr_D_readsStatement_93, p2.1.cls, k1', z_obs, z_pu_s, z_pu_n, z00, z10, ↓reduceIte, true_or, or_true, z_b_t, z_b_f]
    · rw [if_neg (by omega), if_pos e1]
      obtain ⟨G2, k1, k2⟩ := sD_readsNumber (E := E) 0 N k p2 hd e ho (by omega) (j := 0) (m := 2) (by omega) (by omega)
      rcases f1 : fnd (fun i => !(isDg (txN sz el i))) 2 (pl + 1) with _ | q
      · rw [f1] at k1 k2
        dsimp only at k2
        obtain ⟨G', n1, n2⟩ := fin k2 ⟨fun z => by omega, fun z => by omega, fun _ => by rw [uN_s, decN_2], fun z => by omega⟩ f1
        refine ⟨G', ?_, n2⟩
        rw [← n1]
        have k1' : z_evM E i_D_readsNumber 0 [.ref a, .int 0, .int 2] N k G1 = some (some (.int 1), N, k, G2) := k1
        simp only [zr_D_readsStatement_106, zr_D_readsStatement_107, zr_D_readsStatement_108, zr_D_readsStatement_109, zr_D_readsStatement_112, zr_D_readsStatement_113, p2.1.cls, k1', z_obs, z_pu_s, z_pu_n, z00, z10, ↓reduceIte, true_or, or_true, z_b_t, z_b_f]
      · rw [f1] at k1 k2
        dsimp only at k2
        obtain ⟨nb', k2⟩ := k2
        obtain ⟨G', n1, n2⟩ := bad k2 f1
        refine ⟨G', ?_, n2⟩
        rw [← n1]
        have k1' : z_evM E i_D_readsNumber 0 [.ref a, .int 0, .int 2] N k G1 = some (some (.int 0), N, k, G2) := k1
        simp only [zr_D_readsStatement_106, zr_D_readsStatement_107, zr_D_readsStatement_108, zr_D_readsStatement_109, zr_D_readsStatement_112, zr_D_readsStatement_113, p2.1.cls, k1', z_obs, z_pu_s, z_pu_n, z00, z10, ↓reduceIte, true_or, or_true, z_b_t, z_b_f]
    · rw [if_neg (by omega), if_neg (by omega), if_pos e1]
      have a1 := fnd_app (fun i => !(isDg (txN sz el i))) 1 2 (pl + 1)
      obtain ⟨G2, k1, k2⟩ := sD_readsNumber (E := E) 0 N k p2 hd e ho (by omega) (j := 0) (m := 1) (by omega) (by omega)
      rcases f1 : fnd (fun i => !(isDg (txN sz el i))) 1 (pl + 1) with _ | q
      · rw [f1] at k1 k2 a1
        dsimp only at k2 a1
        obtain ⟨G3, l1, l2⟩ := sD_readsNumber (E := E) 0 N k k2 hd e ho (by omega) (j := 1) (m := 2) (by omega) (by omega)
        rcases f2 : fnd (fun i => !(isDg (txN sz el i))) 2 (pl + 1 + 1) with _ | q
        · rw [f2] at l1 l2
          dsimp only at l2
          obtain ⟨G', n1, n2⟩ := fin l2 ⟨fun z => by omega, fun z => by omega, fun z => by omega, fun _ => ⟨by rw [uN_n _ _ (by omega), uN_s, decN_1], by rw [uN_s, decN_2]⟩⟩ (a1.trans f2)
          refine ⟨G', ?_, n2⟩
          rw [← n1]
          have k1' : z_evM E i_D_readsNumber 0 [.ref a, .int 0, .int 1] N k G1 = some (some (.int 1), N, k, G2) := k1
          have l1' : z_evM E i_D_readsNumber 0 [.ref a, .int 1, .int 2] N k G2 = some (some (.int 1), N, k, G3) := l1
          simp only [zr_D_readsStatement_116, zr_D_readsStatement_117, zr_D_readsStatement_118, zr_D_readsStatement_119, zr_D_readsStatement_122, zr_D_readsStatement_125, zr_D_readsStatement_126, zr_D_readsStatement_127, zr_D_readsStatement_128, zr_D_readsStatement_131, zr_D_readsStatement_134, zr_D_readsStatement_135, zr_D_readsStatement_138, zr_D_readsStatement_139, zr_D_readsStatement_140, p2.1.cls, k1', k2.1.cls, l1', z_obs, z_pu_s, z_pu_n, z00, z10, ↓reduceIte, true_or, or_true, z_b_t, z_b_f]
        · rw [f2] at l1 l2
          dsimp only at l2
          obtain ⟨nb', l2⟩ := l2
          obtain ⟨G', n1, n2⟩ := bad l2 (a1.trans f2)
          refine ⟨G', ?_, n2⟩
          rw [← n1]
          have k1' : z_evM E i_D_readsNumber 0 [.ref a, .int 0, .int 1] N k G1 = some (some (.int 1), N, k, G2) := k1
          have l1' : z_evM E i_D_readsNumber 0 [.ref a, .int 1, .int 2] N k G2 = some (some (.int 0), N, k, G3) := l1
          simp only [zr_D_readsStatement_116, zr_D_readsStatement_117, zr_D_readsStatement_118, zr_D_readsStatement_119, zr_D_readsStatement_122, zr_D_readsStatement_125, zr_D_readsStatement_126, zr_D_readsStatement_127, zr_D_readsStatement_128, zr_D_readsStatement_131, zr_D_readsStatement_134, zr_D_readsStatement_135, zr_D_readsStatement_138, zr_D_readsStatement_139, zr_D_readsStatement_140, p2.1.cls, k1', k2.1.cls, l1', z_obs, z_pu_s, z_pu_n, z00, z10, ↓reduceIte, true_or, or_true, z_b_t, z_b_f]
      · rw [f1] at k1 k2 a1
        dsimp only at k2 a1
        obtain ⟨nb', k2⟩ := k2
        obtain ⟨G', n1, n2⟩ := bad k2 a1
        refine ⟨G', ?_, n2⟩
        rw [← n1]
        have k1' : z_evM E i_D_readsNumber 0 [.ref a, .int 0, .int 1] N k G1 = some (some (.int 0), N, k, G2) := k1
        simp only [zr_D_readsStatement_116, zr_D_readsStatement_117, zr_D_readsStatement_118, zr_D_readsStatement_119, zr_D_readsStatement_122, zr_D_readsStatement_125, zr_D_readsStatement_126, zr_D_readsStatement_127, zr_D_readsStatement_128, zr_D_readsStatement_131, zr_D_readsStatement_134, zr_D_readsStatement_135, zr_D_readsStatement_138, zr_D_readsStatement_139, zr_D_readsStatement_140, p2.1.cls, k1', z_obs, z_pu_s, z_pu_n, z00, z10, ↓reduceIte, true_or, or_true, z_b_t, z_b_f]
    · rw [if_neg (by omega), if_neg (by omega), if_neg (by omega)]
      obtain ⟨G2, k1, k2⟩ := sD_readsNumber (E := E) 0 N k p2 hd e ho (by omega) (j := 0) (m := 1) (by omega) (by omega)
      rcases f1 : fnd (fun i => !(isDg (txN sz el i))) 1 (pl + 1) with _ | q
      · rw [f1] at k1 k2
        dsimp only at k2
        obtain ⟨G', n1, n2⟩ := fin k2 ⟨fun z => by omega, fun _ => by rw [uN_s, decN_1], fun z => by omega, fun z => by omega⟩ f1
        refine ⟨G', ?_, n2⟩
        rw [← n1]
        have k1' : z_evM E i_D_readsNumber 0 [.ref a, .int 0, .int 1] N k G1 = some (some (.int 1), N, k, G2) := k1
        simp only [zr_D_readsStatement_96, zr_D_readsStatement_97, zr_D_readsStatement_98, zr_D_readsStatement_99, zr_D_readsStatement_102, zr_D_readsStatement_103, p2.1.cls, k1', z_obs, z_pu_s, z_pu_n, z00, z10, ↓reduceIte, true_or, or_true, z_b_t, z_b_f]
      · rw [f1] at k1 k2
        dsimp only at k2
        obtain ⟨nb', k2⟩ := k2
        obtain ⟨G', n1, n2⟩ := bad k2 f1
        refine ⟨G', ?_, n2⟩
        rw [← n1]
        have k1' : z_evM E i_D_readsNumber 0 [.ref a, .int 0, .int 1] N k G1 = some (some (.int 0), N, k, G2) := k1
        simp only [zr_D_readsStatement_96, zr_D_readsStatement_97, zr_D_readsStatement_98, zr_D_readsStatement_99, zr_D_readsStatement_102, zr_D_readsStatement_103, p2.1.cls, k1', z_obs, z_pu_s, z_pu_n, z00, z10, ↓reduceIte, true_or, or_true, z_b_t, z_b_f]
end
