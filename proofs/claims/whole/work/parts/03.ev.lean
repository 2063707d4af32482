/-! THE VALUE OF A WALK: what z_run answers with any bound; its equations, an instruction each. -/
theorem z_run_mono (E : z_E) : ∀ (f mid lev pc : Nat) (ls : z_L) (st : List Value) (n k : Nat) (G : z_H) (r : z_R), z_run E f mid lev pc ls st n k G = some r → z_run E (f + 1) mid lev pc ls st n k G = some r := by
  intro f
  induction f with
  | zero => intro mid lev pc ls st n k G r h; cases h
  | succ f ih =>
    intro mid lev pc ls st n k G r h
    rw [z_run] at h ⊢
    cases hi : z_ins mid pc with
    | none => simp only [hi] at h; cases h
    | some q =>
      obtain ⟨i, len⟩ := q
      simp only [hi] at h ⊢
      cases hs : z_step E mid lev i len pc ls st n k G with
      | none => simp only [hs] at h; cases h
      | some d =>
        simp only [hs] at h ⊢
        match d, h with
        | .inl r0, h => exact h
        | .inr (.inl (pc', ls', st', n', k', G')), h => exact ih _ _ _ _ _ _ _ _ _ h
        | .inr (.inr (y, lv, as, pc', ls', rest)), h =>
          obtain ⟨q, hc, h⟩ := Option.bind_eq_some_iff.mp h
          refine Option.bind_eq_some_iff.mpr ⟨q, ?_, ih _ _ _ _ _ _ _ _ _ h⟩
          by_cases hp : z_prm y = true
          · rw [if_pos hp] at hc ⊢; exact hc
          · rw [if_neg hp] at hc ⊢
            by_cases hr : z_rk y + lv < z_rk mid + lev
            · rw [if_pos hr] at hc ⊢
              obtain ⟨le, h1, h2⟩ := Option.bind_eq_some_iff.mp hc
              exact Option.bind_eq_some_iff.mpr ⟨le, h1, ih _ _ _ _ _ _ _ _ _ h2⟩
            · rw [if_neg hr] at hc; cases hc
theorem z_run_le (E : z_E) {f f' mid lev pc : Nat} {ls : z_L} {st : List Value} {n k : Nat} {G : z_H} {r : z_R} (h : z_run E f mid lev pc ls st n k G = some r) (hf : f ≤ f') : z_run E f' mid lev pc ls st n k G = some r := by
  obtain ⟨d, rfl⟩ := Nat.exists_eq_add_of_le hf
  induction d with
  | zero => exact h
  | succ d ih => exact z_run_mono E _ _ _ _ _ _ _ _ _ _ (ih (Nat.le_add_right _ _))
noncomputable def z_ev (E : z_E) (mid lev pc : Nat) (ls : z_L) (st : List Value) (n k : Nat) (G : z_H) : Option z_R :=
  @dite (Option z_R) (∃ r, ∃ f, z_run E f mid lev pc ls st n k G = some r) (Classical.propDecidable _) (fun h => some (Classical.choose h)) (fun _ => none)
theorem z_ev_iff (E : z_E) (mid lev pc : Nat) (ls : z_L) (st : List Value) (n k : Nat) (G : z_H) (r : z_R) : z_ev E mid lev pc ls st n k G = some r ↔ ∃ f, z_run E f mid lev pc ls st n k G = some r := by
  unfold z_ev
  constructor
  · intro h
    by_cases hx : ∃ r, ∃ f, z_run E f mid lev pc ls st n k G = some r
    · rw [dif_pos hx] at h
      cases h
      exact Classical.choose_spec hx
    · rw [dif_neg hx] at h; cases h
  · rintro ⟨f, hf⟩
    have hx : ∃ r, ∃ f, z_run E f mid lev pc ls st n k G = some r := ⟨r, f, hf⟩
    rw [dif_pos hx]
    obtain ⟨f', hf'⟩ := Classical.choose_spec hx
    have h1 := z_run_le E hf (Nat.le_max_left f f')
    have h2 := z_run_le E hf' (Nat.le_max_right f f')
    exact h2.symm.trans h1
noncomputable def z_evM (E : z_E) (y lev : Nat) (as : List Value) (n k : Nat) (G : z_H) : Option z_R := if z_prm y = true then z_prim y as n k G else (z_ent y as).bind (fun le => z_ev E y lev 0 le [] n k G)
noncomputable def z_fin (E : z_E) (mid lev n k : Nat) (G : z_H) (d : z_D) : Option z_R := match d with
  | none => none
  | some (.inl r) => some (r, n, k, G)
  | some (.inr (.inl (pc', ls', st', n', k', G'))) => z_ev E mid lev pc' ls' st' n' k' G'
  | some (.inr (.inr (y, lv, as, pc', ls', rest))) => if z_prm y = true ∨ z_rk y + lv < z_rk mid + lev then (z_evM E y lv as n k G).bind (fun q => z_ev E mid lev pc' ls' (z_pu q.1 rest) q.2.1 q.2.2.1 q.2.2.2) else none
theorem z_ev_ins {E : z_E} {mid lev pc : Nat} {ls : z_L} {st : List Value} {n k : Nat} {G : z_H} {i : Instr} {len : Nat} (h : z_ins mid pc = some (i, len)) : z_ev E mid lev pc ls st n k G = z_fin E mid lev n k G (z_step E mid lev i len pc ls st n k G) := by
  apply Option.ext
  intro r
  rw [z_ev_iff]
  constructor
  · rintro ⟨f, hf⟩
    cases f with
    | zero => cases hf
    | succ f =>
      rw [z_run] at hf
      simp only [h] at hf
      cases hs : z_step E mid lev i len pc ls st n k G with
      | none => simp only [hs] at hf; cases hf
      | some d =>
        simp only [hs] at hf
        match d, hf with
        | .inl r0, hf => exact hf
        | .inr (.inl (pc', ls', st', n', k', G')), hf => exact (z_ev_iff ..).mpr ⟨f, hf⟩
        | .inr (.inr (y, lv, as, pc', ls', rest)), hf =>
          obtain ⟨q, hc, hf⟩ := Option.bind_eq_some_iff.mp hf
          have hM : (z_prm y = true ∨ z_rk y + lv < z_rk mid + lev) ∧ z_evM E y lv as n k G = some q := by
            unfold z_evM
            by_cases hp : z_prm y = true
            · rw [if_pos hp] at hc ⊢; exact ⟨Or.inl hp, hc⟩
            · rw [if_neg hp] at hc ⊢
              by_cases hr : z_rk y + lv < z_rk mid + lev
              · rw [if_pos hr] at hc
                obtain ⟨le, h1, h2⟩ := Option.bind_eq_some_iff.mp hc
                exact ⟨Or.inr hr, Option.bind_eq_some_iff.mpr ⟨le, h1, (z_ev_iff ..).mpr ⟨f, h2⟩⟩⟩
              · rw [if_neg hr] at hc; cases hc
          show (if z_prm y = true ∨ z_rk y + lv < z_rk mid + lev then _ else none) = some r
          rw [if_pos hM.1, hM.2]
          exact (z_ev_iff ..).mpr ⟨f, hf⟩
  · intro hf
    cases hd : z_step E mid lev i len pc ls st n k G with
    | none => rw [hd] at hf; cases hf
    | some d =>
      rw [hd] at hf
      match d, hd, hf with
      | .inl r0, hd, hf => exact ⟨1, by rw [z_run]; simp only [h, hd]; exact hf⟩
      | .inr (.inl (pc', ls', st', n', k', G')), hd, hf =>
        obtain ⟨f, hf⟩ := (z_ev_iff ..).mp hf
        exact ⟨f + 1, by rw [z_run]; simp only [h, hd]; exact hf⟩
      | .inr (.inr (y, lv, as, pc', ls', rest)), hd, hf =>
        have hf' : (if z_prm y = true ∨ z_rk y + lv < z_rk mid + lev then (z_evM E y lv as n k G).bind (fun q => z_ev E mid lev pc' ls' (z_pu q.1 rest) q.2.1 q.2.2.1 q.2.2.2) else none) = some r := hf
        by_cases hr : z_prm y = true ∨ z_rk y + lv < z_rk mid + lev
        · rw [if_pos hr] at hf'
          obtain ⟨q, hM, hf'⟩ := Option.bind_eq_some_iff.mp hf'
          obtain ⟨f1, h1⟩ := (z_ev_iff ..).mp hf'
          unfold z_evM at hM
          by_cases hp : z_prm y = true
          · rw [if_pos hp] at hM
            refine ⟨f1 + 1, ?_⟩
            rw [z_run]
            simp only [h, hd]
            rw [if_pos hp, hM]
            exact h1
          · rw [if_neg hp] at hM
            have hr' := hr.resolve_left hp
            obtain ⟨le, he, hM⟩ := Option.bind_eq_some_iff.mp hM
            obtain ⟨f2, h2⟩ := (z_ev_iff ..).mp hM
            refine ⟨max f1 f2 + 1, ?_⟩
            rw [z_run]
            simp only [h, hd]
            rw [if_neg hp, if_pos hr', he]
            refine Option.bind_eq_some_iff.mpr ⟨q, ?_, z_run_le E h1 (Nat.le_max_left f1 f2)⟩
            exact z_run_le E h2 (Nat.le_max_right f1 f2)
        · rw [if_neg hr] at hf'; cases hf'
