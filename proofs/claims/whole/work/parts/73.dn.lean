/-! THE MODEL: errands -/
theorem rto_cut {p : Nat → Bool} {W : Nat} : ∀ M m i r, m ≤ M → rto p W m i r = (match rto p W M i r with
  | some x => if x ≤ i + m then some x else none
  | none => none) := by
  intro M
  induction M with
  | zero => intro m i r h; have : m = 0 := by omega
            subst this; rfl
  | succ M ih =>
    intro m i r h
    rcases m with _ | m
    · rcases e : rto p W (M + 1) i r with _ | x
      · rfl
      · have := rto_lt _ _ _ _ e
        show none = if x ≤ i + 0 then some x else none
        rw [if_neg (by omega)]
    · unfold rto
      generalize (if p i = true then r + 1 else 0) = r'
      by_cases e : W ≤ r'
      · rw [if_pos e, if_pos e]
        show some (i + 1) = if i + 1 ≤ i + (m + 1) then some (i + 1) else none
        rw [if_pos (by omega)]
      · rw [if_neg e, if_neg e, ih m (i + 1) r' (by omega), show i + 1 + m = i + (m + 1) by omega]
/-- so many home in a row open -/
theorem rto_run {p : Nat → Bool} {W : Nat} : ∀ d m i r q, q = i + d → q < i + m → (∀ t, i ≤ t → t ≤ q → p t = true) → W ≤ r + (d + 1) → ∃ x, rto p W m i r = some x ∧ x ≤ q + 1 := by
  intro d
  induction d with
  | zero =>
    intro m i r q hq hm hp hW
    obtain ⟨m, rfl⟩ : ∃ m', m = m' + 1 := ⟨m - 1, by omega⟩
    unfold rto
    rw [if_pos (hp i (Nat.le_refl _) (by omega)), if_pos (by omega)]
    exact ⟨i + 1, rfl, by omega⟩
  | succ d ih =>
    intro m i r q hq hm hp hW
    obtain ⟨m, rfl⟩ : ∃ m', m = m' + 1 := ⟨m - 1, by omega⟩
    unfold rto
    rw [if_pos (hp i (Nat.le_refl _) (by omega))]
    by_cases h : W ≤ r + 1
    · rw [if_pos h]; exact ⟨i + 1, rfl, by omega⟩
    · rw [if_neg h]
      exact ih m (i + 1) (r + 1) q (by omega) (by omega) (fun t t1 t2 => hp t (by omega) t2) (by omega)
theorem rto_run2 {p : Nat → Bool} {W : Nat} : ∀ e m i r j q, j = i + e → j ≤ q → q < i + m → (∀ t, j ≤ t → t ≤ q → p t = true) → W ≤ q + 1 - j → ∃ x, rto p W m i r = some x ∧ x ≤ q + 1 := by
  intro e
  induction e with
  | zero =>
    intro m i r j q hj hjq hm hp hW
    have : j = i := by omega
    subst this
    exact rto_run (q - j) m j r q (by omega) hm hp (by omega)
  | succ e ih =>
    intro m i r j q hj hjq hm hp hW
    obtain ⟨m, rfl⟩ : ∃ m', m = m' + 1 := ⟨m - 1, by omega⟩
    unfold rto
    generalize (if p i = true then r + 1 else 0) = r'
    by_cases h : W ≤ r'
    · rw [if_pos h]; exact ⟨i + 1, rfl, by omega⟩
    · rw [if_neg h]
      exact ih m (i + 1) r' j q (by omega) hjq (by omega) hp hW
theorem rto_need {p : Nat → Bool} {W : Nat} : ∀ m i r q, rto p W m i r = some (q + 1) → W ≤ r + (q + 1 - i) := by
  intro m
  induction m with
  | zero => intro i r q h; cases h
  | succ m ih =>
    intro i r q h
    unfold rto at h
    have hr : (if p i = true then r + 1 else 0) ≤ r + 1 := by split <;> omega
    generalize (if p i = true then r + 1 else 0) = r' at h hr
    by_cases e : W ≤ r'
    · rw [if_pos e] at h; injection h with h; omega
    · rw [if_neg e] at h
      have h1 := ih (i + 1) r' q h
      have h2 := rto_lt _ _ _ _ h
      omega
theorem rto_home {p : Nat → Bool} {W : Nat} : ∀ m i r q, rto p W m i r = some (q + 1) → ∀ t, i ≤ t → t ≤ q → q < t + W → p t = true := by
  intro m
  induction m with
  | zero => intro i r q h; cases h
  | succ m ih =>
    intro i r q h t t1 t2 t3
    unfold rto at h
    by_cases ei : t = i
    · subst ei
      cases hp : p t
      · rw [hp] at h
        simp only [Bool.false_eq_true, ↓reduceIte] at h
        by_cases e : W ≤ 0
        · omega
        · rw [if_neg e] at h
          have h1 := rto_need _ _ _ _ h
          have h2 := rto_lt _ _ _ _ h
          omega
      · rfl
    · generalize (if p i = true then r + 1 else 0) = r' at h
      by_cases e : W ≤ r'
      · rw [if_pos e] at h; injection h with h; omega
      · rw [if_neg e] at h
        exact ih (i + 1) r' q h t (by omega) t2 t3
/-- behind two days it goes as before -/
theorem rto_day {p : Nat → Bool} {W : Nat} (hper : ∀ t, p (t + 24) = p t) (hW0 : 1 ≤ W) (hW : W ≤ 10) {M : Nat} (hM : 48 ≤ M) (r : Nat) : rto p W M 0 r = rto p W 48 0 r := by
  rw [rto_cut M 48 0 r hM]
  rcases e : rto p W M 0 r with _ | x
  · rfl
  · dsimp only
    by_cases h : x ≤ 0 + 48
    · rw [if_pos h]
    · exfalso
      obtain ⟨q, rfl⟩ : ∃ q, x = q + 1 := ⟨x - 1, by omega⟩
      have hlt := rto_lt _ _ _ _ e
      have hh := rto_home _ _ _ _ e
      obtain ⟨y, y1, y2⟩ := rto_run2 (p := p) (W := W) (q - 24 + 1 - W) M 0 r (q - 24 + 1 - W) (q - 24) (by omega) (by omega) (by omega) (fun t t1 t2 => by
        rw [← hper t]
        exact hh (t + 24) (by omega) (by omega) (by omega)) (by omega)
      rw [e] at y1
      injection y1 with y1
      omega
theorem rto_shift {p : Nat → Bool} {W : Nat} (d : Nat) : ∀ m i r, rto p W m (d + i) r = (rto (fun t => p (d + t)) W m i r).map (fun x => d + x) := by
  intro m
  induction m with
  | zero => intro i r; rfl
  | succ m ih =>
    intro i r
    unfold rto
    by_cases e : W ≤ (if p (d + i) = true then r + 1 else 0)
    · rw [if_pos e, if_pos e]; rfl
    · rw [if_neg e, if_neg e]
      exact ih (i + 1) _
/-- behind how many hours it has opened, of one who comes behind d; 10^9: never -/
def obN (s : Nat → Nat) (b d : Nat) : Nat := match opH s b d with
  | some r => if d + r ≤ 200 then d + r else 1000000000
  | none => 1000000000
theorem ob_rto {s : Nat → Nat} (w : WF s) {b d : Nat} (hb : b < s 0) (hd : d ≤ 200) : (match rto (fun i => sH s b (s 1 + i)) (sW s b) (200 - d) d (sR s b) with
  | some x => x
  | none => 1000000000) = obN s b d := by
  have kb := w.2.2.2 b hb
  obtain ⟨v1, v2, -⟩ := wt_le _ kb.1 _ kb.2.1
  have hs := rto_shift (p := fun i => sH s b (s 1 + i)) (W := sW s b) d (200 - d) 0 (sR s b)
  rw [Nat.add_zero] at hs
  rw [hs]
  have hp : (fun t => sH s b (s 1 + (d + t))) = fun t => sH s b (s 1 + d + t) := by funext t; rw [Nat.add_assoc]
  have hper : ∀ t, (fun t => sH s b (s 1 + d + t)) (t + 24) = (fun t => sH s b (s 1 + d + t)) t := by
    intro t
    show hm _ _ ((s 1 + d + (t + 24)) % 24) = hm _ _ ((s 1 + d + t) % 24)
    rw [show (s 1 + d + (t + 24)) % 24 = (s 1 + d + t) % 24 by omega]
  have hc : rto (fun t => sH s b (s 1 + (d + t))) (sW s b) (200 - d) 0 (sR s b) = (match opH s b d with
    | some x => if x ≤ 200 - d then some x else none
    | none => none) := by
    rw [hp]
    by_cases h48 : 48 ≤ 200 - d
    · rw [rto_day (p := fun t => sH s b (s 1 + d + t)) (W := sW s b) hper v1 v2 h48]
      show opH s b d = _
      rcases e : opH s b d with _ | x
      · rfl
      · have := opH_lt e
        dsimp only
        rw [if_pos (by omega)]
    · rw [rto_cut 48 (200 - d) 0 _ (by omega), Nat.zero_add]
      rfl
  rw [hc]
  unfold obN
  rcases opH s b d with _ | x
  · rfl
  · dsimp only
    by_cases h : x ≤ 200 - d
    · rw [if_pos h, if_pos (by omega)]; rfl
    · rw [if_neg h, if_neg (by omega)]; rfl
def erB (s : Nat → Nat) (lv i left at_ time : Nat) (ln : Nat → Nat) (b : Nat) (q : Nat × (Nat → Nat)) : Nat × (Nat → Nat) := if b6 left b = true then (match opH s b (time + wayN s b at_) with
  | some r => erO s (lv + 1) (i + 1) (left - 2 ^ b) (sP s b) (time + wayN s b at_ + r) (uN ln i b) q
  | none => q) else q
def bdN (v : Nat) : Nat := if v = 201 then 1000000000 else v
section
variable {E : z_E} {G0 G : z_H} {a : Nat} {s u : Nat → Nat} {ib : Bool} {hs : Nat → Sh} (lv N k : Nat)
theorem sD_openedBy (h : DW G a s ib u hs) (w : WF s) {b d : Nat} (hb : b < s 0) (hd : d ≤ 250) : z_evM E i_D_openedBy lv [.ref a, .int (nI b), .int (nI d)] N k G = some (some (.int (nI (obN s b d))), N, k, G) := by
  have hb6 : b < 6 := Nat.lt_of_lt_of_le hb w.1
  have w1 := w.2.1
  have kb := w.2.2.2 b hb
  have v2 : sW s b ≤ 10 := (wt_le _ kb.1 _ kb.2.1).2.1
  have key : ∀ m i r, i + m = 200 → r ≤ 10 → z_ev E i_D_openedBy lv 14 [some (.ref a), some (.int (nI b)), some (.int (nI d)), some (.int (nI r)), some (.int (nI i))] [] N k G = some (some (.int (nI (match rto (fun i => sH s b (s 1 + i)) (sW s b) m i r with
    | some x => x
    | none => 1000000000))), N, k, G) := by
    intro m
    induction m with
    | zero =>
      intro i r hi hr
      have : i = 200 := by omega
      subst this
      have c : nI 200 ≤ nI 200 := nI_le (Nat.le_refl _) (by omega)
      simp only [zr_D_openedBy_14, zr_D_openedBy_16, zr_D_openedBy_19, zr_D_openedBy_73, zr_D_openedBy_75, show (200 : Int32) = nI 200 from rfl, c, z_obs, z_pu_s, z_pu_n, z00, z10, ↓reduceIte, true_or, or_true, z_b_t, z_b_f]
      rfl
    | succ m ih =>
      intro i r hi hr
      have c : ¬ nI 200 ≤ nI i := nI_ge (by omega) (by omega)
      have hh := sD_isHome (E := E) 0 N k h.st w hb (show s 1 + i < 2 ^ 31 by omega)
      unfold rto
      rw [zr_D_openedBy_14]
      cases hp : sH s b (s 1 + i) <;> rw [hp] at hh
      · have c0 : ¬ sW s b ≤ 0 := by have : 1 ≤ sW s b := (wt_le _ kb.1 _ kb.2.1).1; omega
        have c1 : (0 : Int32) < nI (sW s b) := by rw [int_0]; exact nI_lt (by omega) (by omega)
        simp only [zr_D_openedBy_16, zr_D_openedBy_19, zr_D_openedBy_22, zr_D_openedBy_23, zr_D_openedBy_26, zr_D_openedBy_27, zr_D_openedBy_28, zr_D_openedBy_31, zr_D_openedBy_32, zr_D_openedBy_33, zr_D_openedBy_35, zr_D_openedBy_36, zr_D_openedBy_39, zr_D_openedBy_42, zr_D_openedBy_43, zr_D_openedBy_44, zr_D_openedBy_45, zr_D_openedBy_48, zr_D_openedBy_49, zr_D_openedBy_50, zr_D_openedBy_51, zr_D_openedBy_52, zr_D_openedBy_55, zr_D_openedBy_56, zr_D_openedBy_59, zr_D_openedBy_62, zr_D_openedBy_64, zr_D_openedBy_65, zr_D_openedBy_66, zr_D_openedBy_67, zr_D_openedBy_70, show (200 : Int32) = nI 200 from rfl, c, h.f0, h.st.r1, nI_add, hh, sD_wantsOf _ _ _ h.st w hb, c1, z_obs, z_pu_s, z_pu_n, z00, z10, ↓reduceIte, true_or, or_true, z_b_t, z_b_f, nI_1, Bool.false_eq_true, c0]
        exact ih (i + 1) 0 (by omega) (by omega)
      · by_cases hW : sW s b ≤ r + 1
        · have c1 : ¬ nI (r + 1) < nI (sW s b) := nI_nlt hW (by omega)
          simp only [zr_D_openedBy_16, zr_D_openedBy_19, zr_D_openedBy_22, zr_D_openedBy_23, zr_D_openedBy_26, zr_D_openedBy_27, zr_D_openedBy_28, zr_D_openedBy_31, zr_D_openedBy_32, zr_D_openedBy_33, zr_D_openedBy_35, zr_D_openedBy_36, zr_D_openedBy_39, zr_D_openedBy_42, zr_D_openedBy_43, zr_D_openedBy_44, zr_D_openedBy_45, zr_D_openedBy_48, zr_D_openedBy_49, zr_D_openedBy_50, zr_D_openedBy_51, zr_D_openedBy_52, zr_D_openedBy_55, zr_D_openedBy_56, zr_D_openedBy_59, zr_D_openedBy_62, zr_D_openedBy_64, zr_D_openedBy_65, zr_D_openedBy_66, zr_D_openedBy_67, zr_D_openedBy_70, show (200 : Int32) = nI 200 from rfl, c, h.f0, h.st.r1, nI_add, hh, sD_wantsOf _ _ _ h.st w hb, c1, z_obs, z_pu_s, z_pu_n, z00, z10, ↓reduceIte, true_or, or_true, z_b_t, z_b_f, nI_1, hW]
        · have c1 : nI (r + 1) < nI (sW s b) := nI_lt (by omega) (by omega)
          simp only [zr_D_openedBy_16, zr_D_openedBy_19, zr_D_openedBy_22, zr_D_openedBy_23, zr_D_openedBy_26, zr_D_openedBy_27, zr_D_openedBy_28, zr_D_openedBy_31, zr_D_openedBy_32, zr_D_openedBy_33, zr_D_openedBy_35, zr_D_openedBy_36, zr_D_openedBy_39, zr_D_openedBy_42, zr_D_openedBy_43, zr_D_openedBy_44, zr_D_openedBy_45, zr_D_openedBy_48, zr_D_openedBy_49, zr_D_openedBy_50, zr_D_openedBy_51, zr_D_openedBy_52, zr_D_openedBy_55, zr_D_openedBy_56, zr_D_openedBy_59, zr_D_openedBy_62, zr_D_openedBy_64, zr_D_openedBy_65, zr_D_openedBy_66, zr_D_openedBy_67, zr_D_openedBy_70, show (200 : Int32) = nI 200 from rfl, c, h.f0, h.st.r1, nI_add, hh, sD_wantsOf _ _ _ h.st w hb, c1, z_obs, z_pu_s, z_pu_n, z00, z10, ↓reduceIte, true_or, or_true, z_b_t, z_b_f, nI_1, hW]
          exact ih (i + 1) (r + 1) (by omega) (by omega)
  simp only [zm_D_openedBy, zr_D_openedBy_0, zr_D_openedBy_1, zr_D_openedBy_4, zr_D_openedBy_5, zr_D_openedBy_6, zr_D_openedBy_9, zr_D_openedBy_10, zr_D_openedBy_11, zr_D_openedBy_12, h.f0, sD_of3, h.st.k3 hb6, z_obs, z_pu_s, z_pu_n, z00, z10, ↓reduceIte, true_or, or_true, z_b_t, z_b_f]
  by_cases h200 : d ≤ 200
  · rw [key (200 - d) d (sR s b) (by omega) (by omega), ob_rto w hb h200]
  · have c : nI 200 ≤ nI d := nI_le (by omega) (by omega)
    have e : obN s b d = 1000000000 := by
      unfold obN
      rcases opH s b d with _ | r
      · rfl
      · dsimp only; rw [if_neg (by omega)]
    rw [e]
    simp only [zr_D_openedBy_14, zr_D_openedBy_16, zr_D_openedBy_19, zr_D_openedBy_73, zr_D_openedBy_75, show (200 : Int32) = nI 200 from rfl, c, z_obs, z_pu_s, z_pu_n, z00, z10, ↓reduceIte, true_or, or_true, z_b_t, z_b_f]
    rfl
/-- what stands there between two steps -/
def DE (G0 : z_H) (a : Nat) (s : Nat → Nat) (ib : Bool) (u : Nat → Nat) (hs : Nat → Sh) (K i : Nat) (ln : Nat → Nat) (q : Nat × (Nat → Nat)) (G : z_H) : Prop :=
  DW G a s ib u hs ∧ (∀ x, x ≠ a → x ≠ a + 6 → x ≠ a + 7 → G x = G0 x) ∧ z_gf G a [11, 12, 12, 0, 0] = some (.int (nI (bdN q.1))) ∧ q.1 ≤ 201 ∧ (∃ f, G (a + 6) = some (.inr (.int, 6, .inl f)) ∧ ∀ j, j < i → f j = nI (ln j)) ∧ ∃ f, G (a + 7) = some (.inr (.int, 6, .inl f)) ∧ (q.1 < 201 → ∀ j, j < K → f j = nI (q.2 j))
theorem DE.sub {K i v : Nat} {ln : Nat → Nat} {q : Nat × (Nat → Nat)} (h : DE G0 a s ib u hs K (i + 1) (uN ln i v) q G) : DE G0 a s ib u hs K i ln q G := by
  obtain ⟨h1, h2, h3, h4, ⟨f, h5, h6⟩, h7⟩ := h
  exact ⟨h1, h2, h3, h4, ⟨f, h5, fun j hj => by rw [h6 j (by omega), uN_n _ _ (by omega)]⟩, h7⟩
theorem DW.up6 (h : DW G a s ib u hs) {f : Nat → Int32} : DW (z_up G (a + 6) (.inr (.int, 6, .inl f))) a s ib u hs := by
  obtain ⟨h0, h1, h2, ⟨v, h3, h3'⟩, h4, h5, h6, h7, h8, h9⟩ := h
  have e : ∀ x, x ≠ a + 6 → z_up G (a + 6) (.inr (.int, 6, .inl f)) x = G x := fun x hx => z_up_n _ _ hx
  exact ⟨by rw [e _ (by omega)]; exact h0, h1.mono (e _ (by omega)), h2.mono (e _ (by omega)), ⟨v, h3.mono (e _ (by omega)), h3'⟩, h4.mono (e _ (by omega)), h5.mono (e _ (by omega)), ⟨f, z_up_s _ _ _⟩, h7.mono (e _ (by omega)), h8.mono (e _ (by omega)), h9.mono fun q q1 q2 => e q (by omega)⟩
theorem DW.up7 (h : DW G a s ib u hs) {f : Nat → Int32} : DW (z_up G (a + 7) (.inr (.int, 6, .inl f))) a s ib u hs := by
  obtain ⟨h0, h1, h2, ⟨v, h3, h3'⟩, h4, h5, h6, h7, h8, h9⟩ := h
  have e : ∀ x, x ≠ a + 7 → z_up G (a + 7) (.inr (.int, 6, .inl f)) x = G x := fun x hx => z_up_n _ _ hx
  exact ⟨by rw [e _ (by omega)]; exact h0, h1.mono (e _ (by omega)), h2.mono (e _ (by omega)), ⟨v, h3.mono (e _ (by omega)), h3'⟩, h4.mono (e _ (by omega)), h5.mono (e _ (by omega)), h6.mono (e _ (by omega)), ⟨f, z_up_s _ _ _⟩, h8.mono (e _ (by omega)), h9.mono fun q q1 q2 => e q (by omega)⟩
/-- the order is kept -/
theorem sD_keepLine {K time : Nat} {i0 l0 p0 : Int32} {ln : Nat → Nat} {q : Nat × (Nat → Nat)} (h : DE G0 a s ib u hs K K ln q G) (hK : K ≤ 6) (ht : time < 201) : ∃ G', z_ev E i_D_goesOn lv 14 [some (.ref a), some (.int i0), some (.int l0), some (.int p0), some (.int (nI time)), none] [] N k G = some (none, N, k, G') ∧ DE G0 a s ib u hs K K ln (time, ln) G' := by
  obtain ⟨h1, h2, h3, h4, ⟨f, h5, h6⟩, ⟨g, h7, h8⟩⟩ := h
  obtain ⟨qq, hq⟩ := h1.o
  have p := DW.pf (b := false) hq 11 (by omega) (nI time)
  have hD1 : DW (z_up G a (.inl (12, dFs a (z_b ib) (uI qq 11 (nI time))))) a s ib u hs := h1.no
  have hg11 : z_gf (z_up G a (.inl (12, dFs a (z_b ib) (uI qq 11 (nI time))))) a [11, 12, 12, 0, 0] = some (.int (nI time)) := z_gfI (z_up_s _ _ _) (by decide) (by decide) rfl
  generalize hG1 : z_up G a (.inl (12, dFs a (z_b ib) (uI qq 11 (nI time)))) = G1 at p hD1 hg11
  have o1 : ∀ x, x ≠ a → G1 x = G x := fun x hx => by rw [← hG1]; exact z_up_n _ _ hx
  obtain ⟨G', _, e, P⟩ := z_loopG (fun i (_ : Unit) (_ : Unit) G => z_ev E i_D_goesOn lv 23 [some (.ref a), some (.int i0), some (.int l0), some (.int p0), some (.int (nI time)), some (.int (nI i))] [] N k G) (fun _ b => b) (fun i _ G' => DW G' a s ib u hs ∧ (∀ x, x ≠ a + 7 → G' x = G1 x) ∧ ∃ g, G' (a + 7) = some (.inr (.int, 6, .inl g)) ∧ ∀ j, j < i → g j = f j) 6 (fun _ _ G => some (none, N, k, G)) (fun _ _ G2 hP => by
    have c : nI 6 ≤ nI 6 := nI_le (Nat.le_refl _) (by omega)
    simp only [zr_D_goesOn_23, zr_D_goesOn_25, zr_D_goesOn_27, zr_D_goesOn_50, int_6, c, z_obs, z_pu_s, z_pu_n, z00, z10, ↓reduceIte, true_or, or_true, z_b_t, z_b_f]) (fun i _ _ G2 hi hP => by
    have c : ¬ nI 6 ≤ nI i := nI_ge hi (by omega)
    obtain ⟨a1, a2, g, a3, a4⟩ := hP
    have r := z_aiI (E := E) (show G2 (a + 6) = some (.inr (.int, 6, .inl f)) by rw [a2 _ (by omega), o1 _ (by omega)]; exact h5) hi (by decide)
    have wr := z_piI (x := f i) a3 hi (show 6 < 2 ^ 31 by decide)
    refine ⟨z_up G2 (a + 7) (.inr (.int, 6, .inl (upd g i (f i)))), (), ?_, a1.up7, fun x hx => by rw [z_up_n _ _ hx]; exact a2 x hx, _, z_up_s _ _ _, fun j hj => ?_⟩
    · rw [zr_D_goesOn_23]
      simp only [zr_D_goesOn_25, zr_D_goesOn_27, zr_D_goesOn_30, zr_D_goesOn_31, zr_D_goesOn_34, zr_D_goesOn_36, zr_D_goesOn_37, zr_D_goesOn_40, zr_D_goesOn_42, zr_D_goesOn_43, zr_D_goesOn_44, zr_D_goesOn_47, int_6, c, a1.f9, a1.f10, r, wr, z_obs, z_pu_s, z_pu_n, z00, z10, ↓reduceIte, true_or, or_true, z_b_t, z_b_f, nI_1]
    · by_cases ej : j = i
      · subst ej; exact pk_us
      · rw [pk_un ej]; exact a4 j (by omega)) 6 0 () () G1 (by omega) ⟨hD1, fun _ _ => rfl, g, by rw [o1 _ (by omega)]; exact h7, fun j hj => absurd hj (Nat.not_lt_zero j)⟩
  obtain ⟨a1, a2, g', a3, a4⟩ := P
  refine ⟨G', ?_, a1, fun x x1 x2 x3 => by rw [a2 x x3, o1 x x1]; exact h2 x x1 x2 x3, ?_, (by show time ≤ 201; omega), ⟨f, by rw [a2 _ (by omega), o1 _ (by omega)]; exact h5, h6⟩, g', a3, fun _ j hj => by rw [a4 j (by omega)]; exact h6 j hj⟩
  · simp only [zr_D_goesOn_14, zr_D_goesOn_15, zr_D_goesOn_17, zr_D_goesOn_20, zr_D_goesOn_21, p, z_obs, z_pu_s, z_pu_n, z00, z10, ↓reduceIte, true_or, or_true, z_b_t, z_b_f]
    exact e
  · have : bdN time = time := by unfold bdN; rw [if_neg (by omega)]
    show z_gf G' a [11, 12, 12, 0, 0] = some (.int (nI (bdN time)))
    rw [this]
    unfold z_gf at hg11 ⊢
    rw [a2 a (by omega)]
    exact hg11
theorem sD_goesOn (w : WF s) {K : Nat} (hK : K ≤ 6) : ∀ lv i left at_ time ln q G, pop left ≤ lv → i + pop left = K → left < 64 → (∀ b, b < 6 → b6 left b = true → b < s 0) → at_ < 31 → (time ≤ 200 ∨ time = 1000000000) → DE G0 a s ib u hs K i ln q G → ∃ G', z_evM E i_D_goesOn lv [.ref a, .int (nI i), .int (nI left), .int (nI at_), .int (nI time)] N k G = some (none, N, k, G') ∧ DE G0 a s ib u hs K i ln (erO s (lv + 1) i left at_ time ln q) G' := by
  have w1 := w.1
  intro lv
  induction lv with
  | zero =>
    intro i left at_ time ln q G hp hi hl hb ha ht hE
    have h0 : left = 0 := (lf6d left hl).mpr (by omega)
    have hq := hE.2.2.2.1
    have h3 := hE.2.2.1
    unfold erO
    by_cases hge : q.1 ≤ time
    · have c : ¬ nI time < nI (bdN q.1) := by
        unfold bdN
        split
        · rcases ht with ht | ht
          · omega
          · subst ht; exact nI_nlt (Nat.le_refl _) (by omega)
        · exact nI_nlt hge (by omega)
      rw [if_pos hge]
      refine ⟨G, ?_, hE⟩
      simp only [zm_D_goesOn, zr_D_goesOn_0, zr_D_goesOn_2, zr_D_goesOn_3, zr_D_goesOn_6, zr_D_goesOn_9, h3, c, z_obs, z_pu_s, z_pu_n, z00, z10, ↓reduceIte, true_or, or_true, z_b_t, z_b_f]
    · have htl : time ≤ 200 := by omega
      have c : nI time < nI (bdN q.1) := by
        unfold bdN
        split
        · exact nI_lt (by omega) (by omega)
        · exact nI_lt (by omega) (by omega)
      rw [if_neg hge, if_pos h0]
      have hiK : i = K := by rw [h0] at hi; exact hi
      subst hiK
      obtain ⟨G', g1, g2⟩ := sD_keepLine (E := E) 0 N k (i0 := nI i) (l0 := nI left) (p0 := nI at_) hE hK (show time < 201 by omega)
      refine ⟨G', ?_, g2⟩
      rw [← g1, h0]
      simp only [zm_D_goesOn, zr_D_goesOn_0, zr_D_goesOn_2, zr_D_goesOn_3, zr_D_goesOn_6, zr_D_goesOn_9, zr_D_goesOn_10, zr_D_goesOn_11, h3, c, show (nI 0 = 0) = True from eq_true rfl, z_obs, z_pu_s, z_pu_n, z00, z10, ↓reduceIte, true_or, or_true, z_b_t, z_b_f]
  | succ lv ih =>
    intro i left at_ time ln q G hp hi hl hb ha ht hE
    have hq := hE.2.2.2.1
    have h3 := hE.2.2.1
    rw [erO]
    by_cases hge : q.1 ≤ time
    · have c : ¬ nI time < nI (bdN q.1) := by
        unfold bdN
        split
        · rcases ht with ht | ht
          · omega
          · subst ht; exact nI_nlt (Nat.le_refl _) (by omega)
        · exact nI_nlt hge (by omega)
      rw [if_pos hge]
      refine ⟨G, ?_, hE⟩
      simp only [zm_D_goesOn, zr_D_goesOn_0, zr_D_goesOn_2, zr_D_goesOn_3, zr_D_goesOn_6, zr_D_goesOn_9, h3, c, z_obs, z_pu_s, z_pu_n, z00, z10, ↓reduceIte, true_or, or_true, z_b_t, z_b_f]
    · have htl : time ≤ 200 := by omega
      have c : nI time < nI (bdN q.1) := by
        unfold bdN
        split
        · exact nI_lt (by omega) (by omega)
        · exact nI_lt (by omega) (by omega)
      rw [if_neg hge]
      by_cases h0 : left = 0
      · rw [if_pos h0]
        have hiK : i = K := by rw [h0] at hi; exact hi
        subst hiK
        obtain ⟨G', g1, g2⟩ := sD_keepLine (E := E) (lv + 1) N k (i0 := nI i) (l0 := nI left) (p0 := nI at_) hE hK (show time < 201 by omega)
        refine ⟨G', ?_, g2⟩
        rw [← g1, h0]
        simp only [zm_D_goesOn, zr_D_goesOn_0, zr_D_goesOn_2, zr_D_goesOn_3, zr_D_goesOn_6, zr_D_goesOn_9, zr_D_goesOn_10, zr_D_goesOn_11, h3, c, show (nI 0 = 0) = True from eq_true rfl, z_obs, z_pu_s, z_pu_n, z00, z10, ↓reduceIte, true_or, or_true, z_b_t, z_b_f]
      · rw [if_neg h0]
        have hpl : 1 ≤ pop left := by
          rcases Nat.eq_zero_or_pos (pop left) with z | z
          · exact absurd ((lf6d left hl).mpr z) h0
          · exact z
        have hi6 : i < 6 := by omega
        have cl : ¬ nI left = 0 := nI_ne0 (by omega) (by omega)
        have step : ∀ b q G1, b < 6 → DE G0 a s ib u hs K i ln q G1 → b < s 0 → ∃ G', z_ev E i_D_goesOn (lv + 1) 54 [some (.ref a), some (.int (nI i)), some (.int (nI left)), some (.int (nI at_)), some (.int (nI time)), some (.int (nI b))] [] N k G1 = z_ev E i_D_goesOn (lv + 1) 54 [some (.ref a), some (.int (nI i)), some (.int (nI left)), some (.int (nI at_)), some (.int (nI time)), some (.int (nI (b + 1)))] [] N k G' ∧ DE G0 a s ib u hs K i ln (erB s lv i left at_ time ln b q) G' := by
          intro b q G1 hb6 hP hbs
          have c : ¬ nI (s 0) ≤ nI b := nI_ge hbs (by omega)
          have hh := fun (lv N k : Nat) (G : z_H) => sD_has (E := E) lv N k G (show left < 2 ^ 31 by omega) (show b < 31 by omega)
          cases hlb : b6 left b
          · rw [hlb] at hh
            refine ⟨G1, ?_, by unfold erB; rw [hlb]; exact hP⟩
            rw [zr_D_goesOn_54]
            simp only [zr_D_goesOn_56, zr_D_goesOn_57, zr_D_goesOn_60, zr_D_goesOn_61, zr_D_goesOn_62, zr_D_goesOn_65, zr_D_goesOn_66, zr_D_goesOn_68, zr_D_goesOn_71, zr_D_goesOn_74, zr_D_goesOn_141, zr_D_goesOn_144, hP.1.f0, hP.1.st.r0, c, hh, z_obs, z_pu_s, z_pu_n, z00, z10, ↓reduceIte, true_or, or_true, z_b_t, z_b_f, nI_1]
          · rw [hlb] at hh
            have hPl := (w.2.2.2 b hbs).2.2.1
            obtain ⟨f1, f2, f3, f4⟩ := lf6 left hl b hb6 hlb
            have hfa : faN s b at_ < 31 := by unfold faN; split <;> omega
            have hway : wayN s b at_ ≤ 3 := by unfold wayN; omega
            obtain ⟨h1, h2, h3', h4, ⟨f, h5, h6⟩, h7⟩ := id hP
            have wr := z_piI (x := nI b) h5 hi6 (show 6 < 2 ^ 31 by decide)
            have hE2 : DE G0 a s ib u hs K (i + 1) (uN ln i b) q (z_up G1 (a + 6) (.inr (.int, 6, .inl (upd f i (nI b))))) := by
              refine ⟨h1.up6, fun x x1 x2 x3 => by rw [z_up_n _ _ x2]; exact h2 x x1 x2 x3, ?_, h4, ⟨_, z_up_s _ _ _, fun j hj => ?_⟩, ?_⟩
              · unfold z_gf at h3' ⊢
                rw [z_up_n _ _ (by omega)]; exact h3'
              · by_cases ej : j = i
                · subst ej; rw [pk_us, uN_s]
                · rw [pk_un ej, uN_n _ _ ej]; exact h6 j (by omega)
              · obtain ⟨g, g1, g2⟩ := h7
                exact ⟨g, by rw [z_up_n _ _ (by omega)]; exact g1, g2⟩
            generalize hG2 : z_up G1 (a + 6) (.inr (.int, 6, .inl (upd f i (nI b)))) = G2 at wr hE2
            have hff := fun (G : z_H) => sD_far (E := E) (G := G) 0 N k at_ (sP s b) (by omega) (by omega)
            have hff' : ∀ G : z_H, z_evM E i_D_far 0 [.int (nI at_), .int (nI (sP s b))] N k G = some (some (.int (nI (faN s b at_))), N, k, G) := hff
            have c10 : ¬ nI 10 = 0 := nI_ne0 (by omega) (by omega)
            have ew : (nI (faN s b at_ + 9)) / nI 10 = nI (wayN s b at_) := pk_div (by omega) (by omega) (by omega)
            have hob := sD_openedBy (E := E) 0 N k hE2.1 w hbs (show time + wayN s b at_ ≤ 250 by omega)
            have hobt : obN s b (time + wayN s b at_) ≤ 200 ∨ obN s b (time + wayN s b at_) = 1000000000 := by
              unfold obN
              split
              · split <;> omega
              · exact Or.inr rfl
            obtain ⟨G3, u1, u2⟩ := ih (i + 1) (left - 2 ^ b) (sP s b) (obN s b (time + wayN s b at_)) (uN ln i b) q G2 (by omega) (by omega) f1 (fun c hc hcb => hb c hc (lf6b left hl b hb6 hlb c hc hcb)) hPl hobt hE2
            have hsame : erO s (lv + 1) (i + 1) (left - 2 ^ b) (sP s b) (obN s b (time + wayN s b at_)) (uN ln i b) q = (match opH s b (time + wayN s b at_) with
              | some r => erO s (lv + 1) (i + 1) (left - 2 ^ b) (sP s b) (time + wayN s b at_ + r) (uN ln i b) q
              | none => q) := by
              unfold obN
              rcases eo : opH s b (time + wayN s b at_) with _ | r
              · dsimp only
                unfold erO
                rw [if_pos (by omega)]
              · dsimp only
                by_cases h2 : time + wayN s b at_ + r ≤ 200
                · rw [if_pos h2]
                · rw [if_neg h2]
                  unfold erO
                  rw [if_pos (by omega), if_pos (by omega)]
            rw [hsame] at u2
            refine ⟨G3, ?_, by unfold erB; rw [hlb]; exact u2.sub⟩
            rw [zr_D_goesOn_54]
            simp only [zr_D_goesOn_56, zr_D_goesOn_57, zr_D_goesOn_60, zr_D_goesOn_61, zr_D_goesOn_62, zr_D_goesOn_65, zr_D_goesOn_66, zr_D_goesOn_68, zr_D_goesOn_71, zr_D_goesOn_74, zr_D_goesOn_77, zr_D_goesOn_78, zr_D_goesOn_81, zr_D_goesOn_82, zr_D_goesOn_84, zr_D_goesOn_85, zr_D_goesOn_86, zr_D_goesOn_87, zr_D_goesOn_88, zr_D_goesOn_89, zr_D_goesOn_90, zr_D_goesOn_91, zr_D_goesOn_93, zr_D_goesOn_94, zr_D_goesOn_95, zr_D_goesOn_96, zr_D_goesOn_97, zr_D_goesOn_98, zr_D_goesOn_101, zr_D_goesOn_103, zr_D_goesOn_104, zr_D_goesOn_107, zr_D_goesOn_108, zr_D_goesOn_109, zr_D_goesOn_111, zr_D_goesOn_113, zr_D_goesOn_114, zr_D_goesOn_115, zr_D_goesOn_118, zr_D_goesOn_120, zr_D_goesOn_121, zr_D_goesOn_124, zr_D_goesOn_125, zr_D_goesOn_128, zr_D_goesOn_130, zr_D_goesOn_131, zr_D_goesOn_133, zr_D_goesOn_134, zr_D_goesOn_135, zr_D_goesOn_138, zr_D_goesOn_141, zr_D_goesOn_144, h1.f0, h1.f9, h1.st.r0, c, hh, wr, hE2.1.f0, hE2.1.cls, sD_of2, hE2.1.st.k2 hb6, hff', show (9 : Int32) = nI 9 from rfl, nI_add, int_10, c10, not_false_eq_true, ew, hob, f4, u1, z_obs, z_pu_s, z_pu_n, z00, z10, ↓reduceIte, true_or, or_true, z_b_t, z_b_f, nI_1]
        obtain ⟨G', _, e', p⟩ := z_loopG (fun b (q : Nat × (Nat → Nat)) (_ : Unit) G => z_ev E i_D_goesOn (lv + 1) 54 [some (.ref a), some (.int (nI i)), some (.int (nI left)), some (.int (nI at_)), some (.int (nI time)), some (.int (nI b))] [] N k G) (erB s lv i left at_ time ln) (fun b q G' => DE G0 a s ib u hs K i ln q G') (s 0) (fun q _ G => some (none, N, k, G)) (fun q _ G1 hP => by
          have c : nI (s 0) ≤ nI (s 0) := nI_le (Nat.le_refl _) (by omega)
          simp only [zr_D_goesOn_54, zr_D_goesOn_56, zr_D_goesOn_57, zr_D_goesOn_60, zr_D_goesOn_61, zr_D_goesOn_62, zr_D_goesOn_147, hP.1.f0, hP.1.st.r0, c, z_obs, z_pu_s, z_pu_n, z00, z10, ↓reduceIte, true_or, or_true, z_b_t, z_b_f]) (fun b q _ G1 hbs hP => by
          obtain ⟨G', g1, g2⟩ := step b q G1 (by omega) hP hbs
          exact ⟨G', (), g1, g2⟩) (s 0) 0 q () G (by omega) hE
        have hrest : ∀ m b q, (∀ c, b ≤ c → c < 6 → s 0 ≤ c) → b + m ≤ 6 → foldN (erB s lv i left at_ time ln) m b q = q := by
          intro m
          induction m with
          | zero => intro b q _ _; rfl
          | succ m ih2 =>
            intro b q hc hbm
            have hf : b6 left b = false := by
              cases hq2 : b6 left b
              · rfl
              · have := hb b (by omega) hq2
                have := hc b (Nat.le_refl _) (by omega)
                omega
            unfold foldN
            have hz : erB s lv i left at_ time ln b q = q := by unfold erB; rw [hf]; rfl
            rw [hz]
            exact ih2 (b + 1) q (fun c h1 h2 => hc c (by omega) h2) (by omega)
        have hsplit : ∀ (F : Nat → (Nat × (Nat → Nat)) → Nat × (Nat → Nat)) m1 m2 b q, foldN F (m1 + m2) b q = foldN F m2 (b + m1) (foldN F m1 b q) := by
          intro F m1
          induction m1 with
          | zero => intro m2 b q; rw [Nat.zero_add]; rfl
          | succ m1 ih2 =>
            intro m2 b q
            rw [show m1 + 1 + m2 = (m1 + m2) + 1 by omega]
            show foldN F (m1 + m2) (b + 1) (F b q) = foldN F m2 (b + (m1 + 1)) (foldN F m1 (b + 1) (F b q))
            rw [ih2, show b + 1 + m1 = b + (m1 + 1) by omega]
        refine ⟨G', ?_, ?_⟩
        · rw [← e']
          simp only [zm_D_goesOn, zr_D_goesOn_0, zr_D_goesOn_2, zr_D_goesOn_3, zr_D_goesOn_6, zr_D_goesOn_9, zr_D_goesOn_10, zr_D_goesOn_11, zr_D_goesOn_51, zr_D_goesOn_52, h3, c, cl, z_obs, z_pu_s, z_pu_n, z00, z10, ↓reduceIte, true_or, or_true, z_b_t, z_b_f]
          rfl
        · show DE G0 a s ib u hs K i ln (foldN (erB s lv i left at_ time ln) 6 0 q) G'
          rw [show (6 : Nat) = s 0 + (6 - s 0) by omega, hsplit, hrest (6 - s 0) (0 + s 0) _ (fun c h1 h2 => by omega) (by omega)]
          exact p
theorem inL_St (w : WF s) (y : Int32) : inL y 1 ((1 : Int32) <<< (nI (s 0) &&& 31) - 1) = isSt s y := by
  have h6 := w.1
  obtain ⟨e1, e2, -⟩ := al6 (s 0) (by omega)
  rw [e1]
  have h64 := pow_le64 h6
  have hp : 1 ≤ 2 ^ s 0 := Nat.one_le_two_pow
  have x1 : decide ((1 : Int32) ≤ y) = decide (0 < y) := by
    rw [decide_eq_decide, Int32.le_iff_toInt_le, Int32.lt_iff_toInt_lt, show (1 : Int32).toInt = 1 by decide, show (0 : Int32).toInt = 0 by decide]
    omega
  have x2 : decide (y ≤ nI (2 ^ s 0 - 1)) = decide (y < nI (2 ^ s 0)) := by
    rw [decide_eq_decide, Int32.le_iff_toInt_le, Int32.lt_iff_toInt_lt, nI_toInt (by omega), nI_toInt (by omega)]
    omega
  unfold inL isSt
  rw [x1, x2]
theorem st_bits {v n : Nat} (hv : v < 2 ^ n) {b : Nat} (hb : b6 v b = true) : b < n := by
  rcases Nat.lt_or_ge b n with h | h
  · exact h
  · exfalso
    have : v < 2 ^ b := Nat.lt_of_lt_of_le hv (Nat.pow_le_pow_right (by decide) h)
    unfold b6 at hb
    rw [Nat.div_eq_of_lt this] at hb
    cases hb
theorem dErrands (h : DW G a s ib u hs) (w : WF s) (p y i : Int32) : ∃ G', z_evM E i_D_errands lv [.ref a, .int p, .int y, .int i] N k G = some (some (.int (aErrands s p y i)), N, k, G') ∧ DW G' a s ib u hs ∧ FR a 15 G G' := by
  have w1 := w.1
  unfold aErrands
  cases hp : inR p 31
  · refine ⟨G, ?_, h, FR.rf⟩
    simp only [zm_D_errands, zr_D_errands_0, zr_D_errands_1, zr_D_errands_4, zr_D_errands_7, zr_D_errands_8, zr_D_errands_9, zr_D_errands_10, zr_D_errands_11, zr_D_errands_14, zr_D_errands_15, zr_D_errands_16, zr_D_errands_17, zr_D_errands_18, zr_D_errands_19, zr_D_errands_22, zr_D_errands_25, zr_D_errands_26, zr_D_errands_27, zr_D_errands_30, zr_D_errands_31, sD_isPlace, hp, z_obs, z_pu_s, z_pu_n, z00, z10, ↓reduceIte, true_or, or_true, z_b_t, z_b_f, Bool.false_eq_true, false_and]
  · cases hy : isSt s y
    · refine ⟨G, ?_, h, FR.rf⟩
      simp only [zm_D_errands, zr_D_errands_0, zr_D_errands_1, zr_D_errands_4, zr_D_errands_7, zr_D_errands_8, zr_D_errands_9, zr_D_errands_10, zr_D_errands_11, zr_D_errands_14, zr_D_errands_15, zr_D_errands_16, zr_D_errands_17, zr_D_errands_18, zr_D_errands_19, zr_D_errands_22, zr_D_errands_25, zr_D_errands_26, zr_D_errands_27, zr_D_errands_30, zr_D_errands_31, sD_isPlace, hp, h.f0, h.st.r0, sD_isIn, inL_St w, hy, z_obs, z_pu_s, z_pu_n, z00, z10, ↓reduceIte, true_or, or_true, z_b_t, z_b_f, Bool.false_eq_true, false_and, and_false]
    · by_cases hi : -1 ≤ i
      · obtain ⟨p, hp', rfl⟩ := inR_of (by decide) hp
        obtain ⟨v, v0, v1, rfl⟩ := isSt_of w hy
        have v64 : v < 64 := Nat.lt_of_lt_of_le v1 (pow_le64 w1)
        have ci : ¬ i < -1 := Int32.not_lt.mpr hi
        rw [jN_nI (show v < 2 ^ 31 by omega), jN_nI (show p < 2 ^ 31 by omega)]
        simp only [hi, and_self, ↓reduceIte]
        obtain ⟨qq, hq⟩ := h.o
        have pf := DW.pf (b := false) hq 11 (by omega) 1000000000
        have hD1 : DW (z_up G a (.inl (12, dFs a (z_b ib) (uI qq 11 1000000000)))) a s ib u hs := h.no
        have hE : DE G a s ib u hs (pop v) 0 (fun _ => 0) (201, fun _ => 0) (z_up G a (.inl (12, dFs a (z_b ib) (uI qq 11 1000000000)))) := by
          refine ⟨hD1, fun x x1 _ _ => z_up_n _ _ x1, z_gfI (z_up_s _ _ _) (by decide) (by decide) rfl, Nat.le_refl _, ?_, ?_⟩
          · obtain ⟨f, hf⟩ := hD1.li
            exact ⟨f, hf, fun j hj => absurd hj (Nat.not_lt_zero j)⟩
          · obtain ⟨f, hf⟩ := hD1.be
            exact ⟨f, hf, fun hh => absurd hh (by decide)⟩
        obtain ⟨G', u1, u2⟩ := sD_goesOn (E := E) N k w (pop_le v) 6 0 v p 0 (fun _ => 0) (201, fun _ => 0) _ (pop_le v) (Nat.zero_add _) v64 (fun b _ hb => st_bits v1 hb) hp' (Or.inl (by omega)) hE
        rw [nI_0] at u1
        generalize erO s 7 0 v p 0 (fun _ => 0) (201, fun _ => 0) = q at u2
        obtain ⟨t1, t2, t3, t4, -, ⟨g, t5, t6⟩⟩ := u2
        refine ⟨G', ?_, t1, fun x hx => by rw [t2 x (by omega) (by omega) (by omega)]⟩
        have pre : z_evM E i_D_errands lv [.ref a, .int (nI p), .int (nI v), .int i] N k G = z_ev E i_D_errands lv 46 [some (.ref a), some (.int (nI p)), some (.int (nI v)), some (.int i)] [] N k G' := by
          simp only [zm_D_errands, zr_D_errands_0, zr_D_errands_1, zr_D_errands_4, zr_D_errands_7, zr_D_errands_8, zr_D_errands_9, zr_D_errands_10, zr_D_errands_11, zr_D_errands_14, zr_D_errands_15, zr_D_errands_16, zr_D_errands_17, zr_D_errands_18, zr_D_errands_19, zr_D_errands_22, zr_D_errands_25, zr_D_errands_26, zr_D_errands_27, zr_D_errands_30, zr_D_errands_31, zr_D_errands_32, zr_D_errands_33, zr_D_errands_35, zr_D_errands_38, zr_D_errands_39, zr_D_errands_40, zr_D_errands_41, zr_D_errands_42, zr_D_errands_43, sD_isPlace, hp, h.f0, h.st.r0, sD_isIn, inL_St w, hy, eq_true hi, pf, hD1.cls, u1, z_obs, z_pu_s, z_pu_n, z00, z10, ↓reduceIte, true_or, or_true, z_b_t, z_b_f]
        rw [pre]
        by_cases h201 : q.1 = 201
        · have eb : bdN q.1 = 1000000000 := by unfold bdN; rw [if_pos h201]
          rw [eb] at t3
          simp only [zr_D_errands_46, zr_D_errands_47, zr_D_errands_50, zr_D_errands_52, zr_D_errands_55, zr_D_errands_57, t3, show (nI 1000000000 = 1000000000) = True from eq_true rfl, z_obs, z_pu_s, z_pu_n, z00, z10, ↓reduceIte, true_or, or_true, z_b_t, z_b_f, h201]
        · have eb : bdN q.1 = q.1 := by unfold bdN; rw [if_neg h201]
          rw [eb] at t3
          have cn : ¬ nI q.1 = 1000000000 := fun z => by
            have := (nI_eq (b := 1000000000) (by omega) (by omega)).mp z
            omega
          rw [if_neg h201]
          by_cases him : i = -1
          · subst him
            rw [if_pos rfl]
            simp only [zr_D_errands_46, zr_D_errands_47, zr_D_errands_50, zr_D_errands_52, zr_D_errands_55, zr_D_errands_57, zr_D_errands_58, zr_D_errands_59, zr_D_errands_62, zr_D_errands_63, zr_D_errands_66, zr_D_errands_69, zr_D_errands_70, zr_D_errands_71, zr_D_errands_74, zr_D_errands_77, zr_D_errands_78, zr_D_errands_81, zr_D_errands_82, zr_D_errands_83, zr_D_errands_86, zr_D_errands_88, t3, cn, show ¬ (0 : Int32) ≤ -1 by decide, z_obs, z_pu_s, z_pu_n, z00, z10, ↓reduceIte, true_or, or_true, z_b_t, z_b_f]
          · rw [if_neg him]
            have hi0 : (0 : Int32) ≤ i := by
              rw [Int32.le_iff_toInt_le] at hi ⊢
              have hne : i.toInt ≠ (-1 : Int32).toInt := fun z => him (Int32.toInt_inj.mp z)
              rw [show (-1 : Int32).toInt = -1 by decide] at hi hne
              rw [show (0 : Int32).toInt = 0 by decide]
              omega
            obtain ⟨j, j1, rfl⟩ := nI_of (Int32.not_lt.mpr hi0)
            have hpv := pop_le v
            by_cases hlt : j < pop v
            · have c1 : ¬ nI (pop v) ≤ nI j := nI_ge hlt (by omega)
              have rd := z_aiI (E := E) t5 (show j < 6 by omega) (by decide)
              rw [t6 (by omega) j hlt] at rd
              rw [inR_nI (by omega) hlt, if_pos rfl, jN_nI j1]
              simp only [zr_D_errands_46, zr_D_errands_47, zr_D_errands_50, zr_D_errands_52, zr_D_errands_55, zr_D_errands_57, zr_D_errands_58, zr_D_errands_59, zr_D_errands_62, zr_D_errands_63, zr_D_errands_66, zr_D_errands_69, zr_D_errands_70, zr_D_errands_71, zr_D_errands_74, zr_D_errands_77, zr_D_errands_78, zr_D_errands_81, zr_D_errands_82, zr_D_errands_83, zr_D_errands_86, zr_D_errands_88, t3, cn, hi0, sD_bits _ _ _ _ v64, c1, t1.f10, rd, z_obs, z_pu_s, z_pu_n, z00, z10, ↓reduceIte, true_or, or_true, z_b_t, z_b_f]
            · have c1 : nI (pop v) ≤ nI j := nI_le (by omega) j1
              have hr : inR (nI j) (pop v) = false := by
                cases hh : inR (nI j) (pop v)
                · rfl
                · obtain ⟨j2, e1, e2⟩ := inR_of (by omega) hh
                  have := (nI_eq j1 (by omega)).mp e2
                  omega
              rw [hr]
              simp only [zr_D_errands_46, zr_D_errands_47, zr_D_errands_50, zr_D_errands_52, zr_D_errands_55, zr_D_errands_57, zr_D_errands_58, zr_D_errands_59, zr_D_errands_62, zr_D_errands_63, zr_D_errands_66, zr_D_errands_69, zr_D_errands_70, zr_D_errands_71, zr_D_errands_74, zr_D_errands_77, zr_D_errands_78, zr_D_errands_81, zr_D_errands_82, zr_D_errands_83, zr_D_errands_86, zr_D_errands_88, t3, cn, hi0, sD_bits _ _ _ _ v64, c1, z_obs, z_pu_s, z_pu_n, z00, z10, ↓reduceIte, true_or, or_true, z_b_t, z_b_f, Bool.false_eq_true]
      · have ci : i < -1 := Int32.not_le.mp hi
        simp only [hi, and_false, ↓reduceIte]
        refine ⟨G, ?_, h, FR.rf⟩
        simp only [zm_D_errands, zr_D_errands_0, zr_D_errands_1, zr_D_errands_4, zr_D_errands_7, zr_D_errands_8, zr_D_errands_9, zr_D_errands_10, zr_D_errands_11, zr_D_errands_14, zr_D_errands_15, zr_D_errands_16, zr_D_errands_17, zr_D_errands_18, zr_D_errands_19, zr_D_errands_22, zr_D_errands_25, zr_D_errands_26, zr_D_errands_27, zr_D_errands_30, zr_D_errands_31, sD_isPlace, hp, h.f0, h.st.r0, sD_isIn, inL_St w, hy, eq_false hi, z_obs, z_pu_s, z_pu_n, z00, z10, ↓reduceIte, true_or, or_true, z_b_t, z_b_f]
end
