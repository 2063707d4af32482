/-! THE CLASS'S WORLD -/
/-- what a shelf holds: nothing; a bell's house; a row of a sort, so long, with elements -/
abbrev Sh : Type := Unit ⊕ ((Nat × Nat) ⊕ (Nat × Nat × (Nat → Int32)))
abbrev Sh.no : Sh := .inl ()
abbrev Sh.be (k f : Nat) : Sh := .inr (.inl (k, f))
abbrev Sh.ro (so sz : Nat) (el : Nat → Int32) : Sh := .inr (.inr (so, sz, el))
/-- a row's two cells -/
def RA (G : z_H) (r so sz : Nat) (el : Nat → Int32) : Prop := G r = some (.inl (9, [.int (nI so), .ref (r + 1)])) ∧ ∃ g, G (r + 1) = some (.inr (.int, sz, .inl g)) ∧ ∀ i, i < sz → g i = el i
theorem RA.mono {G G' : z_H} {r so sz : Nat} {el : Nat → Int32} (h : RA G r so sz el) (h1 : G' r = G r) (h2 : G' (r + 1) = G (r + 1)) : RA G' r so sz el := by
  unfold RA
  rw [h1, h2]
  exact h
def ShX (G : z_H) (x n : Nat) (fB fR : Nat → Option Nat) (d : Nat) : Sh → Prop
  | .inl () => fB d = none ∧ fR d = none
  | .inr (.inl (k, f)) => k < 8 ∧ f < 10 ∧ fB d = some (x + 38 + (10 * k + f)) ∧ fR d = none
  | .inr (.inr (so, sz, el)) => so < 3 ∧ sz ≤ 100 ∧ fB d = none ∧ ∃ r, fR d = some r ∧ x + 134 ≤ r ∧ r + 1 < n ∧ RA G r so sz el
def XW (G : z_H) (x : Nat) (s : Nat → Nat) (ib : Bool) (u : Nat → Nat) (hs : Nat → Sh) (n : Nat) : Prop :=
  (G x = some (.inl (11, xFs x (z_b ib)))) ∧
  (MA G (x + 1) s) ∧
  (∃ t, MA G (x + 10) t) ∧
  (MA G (x + 19) u) ∧
  (∃ f, G (x + 28) = some (obB 80 f) ∧ ∀ j, j < 80 → f j = some (x + 38 + j)) ∧
  (∀ k, k < 8 → ∀ f, f < 10 → BA G (x + 38 + (10 * k + f)) k f) ∧
  (∃ fB fR, G (x + 29) = some (obB 8 fB) ∧ G (x + 30) = some (obR 8 fR) ∧ (∀ d, d < 8 → ShX G x n fB fR d (hs d)) ∧ ∀ d d' r, d < 8 → d' < 8 → fR d = some r → fR d' = some r → d = d') ∧
  (∃ p q, G (x + 31) = some (.inl (10, [.ref (x + 31 + 1), .ref (x + 31 + 2), .ref (x + 31 + 3), .int p, .int q]))) ∧
  (∃ f, G (x + 31 + 1) = some (.inr (.int, 144, .inl f))) ∧
  (∃ f, G (x + 31 + 2) = some (.inr (.int, 6, .inl f))) ∧
  (∃ f, G (x + 31 + 3) = some (.inr (.int, 6, .inl f))) ∧
  (∃ f, G (x + 35) = some (.inr (.int, 24, .inl f))) ∧
  (∃ f, G (x + 36) = some (.inr (.int, 8, .inl f))) ∧
  (∃ f, G (x + 37) = some (.inr (.long, 10, .inr (.inl f))))
section
variable {G : z_H} {x : Nat} {s u : Nat → Nat} {ib : Bool} {hs : Nat → Sh} {n : Nat}
theorem XW.o (h : XW G x s ib u hs n) : G x = some (.inl (11, xFs x (z_b ib))) := h.1
theorem XW.now (h : XW G x s ib u hs n) : MA G (x + 1) s := h.2.1
theorem XW.mind (h : XW G x s ib u hs n) : ∃ t, MA G (x + 10) t := h.2.2.1
theorem XW.im (h : XW G x s ib u hs n) : MA G (x + 19) u := h.2.2.2.1
theorem XW.ho (h : XW G x s ib u hs n) : ∃ f, G (x + 28) = some (obB 80 f) ∧ ∀ j, j < 80 → f j = some (x + 38 + j) := h.2.2.2.2.1
theorem XW.bs (h : XW G x s ib u hs n) : ∀ k, k < 8 → ∀ f, f < 10 → BA G (x + 38 + (10 * k + f)) k f := h.2.2.2.2.2.1
theorem XW.sh (h : XW G x s ib u hs n) : ∃ fB fR, G (x + 29) = some (obB 8 fB) ∧ G (x + 30) = some (obR 8 fR) ∧ (∀ d, d < 8 → ShX G x n fB fR d (hs d)) ∧ ∀ d d' r, d < 8 → d' < 8 → fR d = some r → fR d' = some r → d = d' := h.2.2.2.2.2.2.1
theorem XW.er (h : XW G x s ib u hs n) : ∃ p q, G (x + 31) = some (.inl (10, [.ref (x + 31 + 1), .ref (x + 31 + 2), .ref (x + 31 + 3), .int p, .int q])) := h.2.2.2.2.2.2.2.1
theorem XW.e1 (h : XW G x s ib u hs n) : ∃ f, G (x + 31 + 1) = some (.inr (.int, 144, .inl f)) := h.2.2.2.2.2.2.2.2.1
theorem XW.e2 (h : XW G x s ib u hs n) : ∃ f, G (x + 31 + 2) = some (.inr (.int, 6, .inl f)) := h.2.2.2.2.2.2.2.2.2.1
theorem XW.e3 (h : XW G x s ib u hs n) : ∃ f, G (x + 31 + 3) = some (.inr (.int, 6, .inl f)) := h.2.2.2.2.2.2.2.2.2.2.1
theorem XW.h1 (h : XW G x s ib u hs n) : ∃ f, G (x + 35) = some (.inr (.int, 24, .inl f)) := h.2.2.2.2.2.2.2.2.2.2.2.1
theorem XW.h2 (h : XW G x s ib u hs n) : ∃ f, G (x + 36) = some (.inr (.int, 8, .inl f)) := h.2.2.2.2.2.2.2.2.2.2.2.2.1
theorem XW.h3 (h : XW G x s ib u hs n) : ∃ f, G (x + 37) = some (.inr (.long, 10, .inr (.inl f))) := h.2.2.2.2.2.2.2.2.2.2.2.2.2
end
theorem ShX.mono {G G' : z_H} {x n n' d : Nat} {fB fR : Nat → Option Nat} {h : Sh} (hx : ShX G x n fB fR d h) (hn : n ≤ n') (hq : ∀ q, x + 134 ≤ q → q < n → G' q = G q) : ShX G' x n' fB fR d h := by
  rcases h with _ | ⟨k, f⟩ | ⟨so, sz, el⟩
  · exact hx
  · exact hx
  · obtain ⟨h1, h2, h3, r, h4, h5, h6, h7⟩ := hx
    exact ⟨h1, h2, h3, r, h4, h5, by omega, h7.mono (hq _ h5 (by omega)) (hq _ (by omega) h6)⟩
section
variable {G G' : z_H} {x : Nat} {s u : Nat → Nat} {ib : Bool} {hs : Nat → Sh} {n n' : Nat}
/-- nothing of it changes -/
theorem XW.same (h : XW G x s ib u hs n) (hn : n ≤ n') (hq : ∀ q, (x ≤ q ∧ q < x + 118) ∨ (x + 134 ≤ q ∧ q < n) → G' q = G q) : XW G' x s ib u hs n' := by
  obtain ⟨o, now, mind, im, ho, bs, ⟨fB, fR, s1, s2, s3, s4⟩, er, e1, e2, e3, h1, h2, h3⟩ := h
  have e : ∀ i, i < 118 → G' (x + i) = G (x + i) := fun i hi => hq _ (Or.inl ⟨by omega, by omega⟩)
  obtain ⟨t, ht⟩ := mind
  refine ⟨by rw [hq x (by omega)]; exact o, now.of_eq fun q q1 q2 => hq _ (by omega), ⟨t, ht.of_eq fun q q1 q2 => hq _ (by omega)⟩, im.of_eq fun q q1 q2 => hq _ (by omega), by rw [e 28 (by omega)]; exact ho, fun k hk f hf => (bs k hk f hf).mono (hq _ (by omega)), ⟨fB, fR, by rw [e 29 (by omega)]; exact s1, by rw [e 30 (by omega)]; exact s2, fun d hd => (s3 d hd).mono hn fun q q1 q2 => hq _ (by omega), s4⟩, by rw [e 31 (by omega)]; exact er, by rw [hq _ (by omega)]; exact e1, by rw [hq _ (by omega)]; exact e2, by rw [hq _ (by omega)]; exact e3, by rw [e 35 (by omega)]; exact h1, by rw [e 36 (by omega)]; exact h2, by rw [e 37 (by omega)]; exact h3⟩
/-- what is in mind changes -/
theorem XW.mi (h : XW G x s ib u hs n) {t : Nat → Nat} (ht : MA G' (x + 10) t) (hf : FR (x + 10) 9 G G') : XW G' x s ib u hs n := by
  obtain ⟨o, now, mind, im, ho, bs, ⟨fB, fR, s1, s2, s3, s4⟩, er, e1, e2, e3, h1, h2, h3⟩ := h
  refine ⟨by rw [hf _ (by omega)]; exact o, now.of_eq fun q q1 q2 => hf _ (by omega), ⟨t, ht⟩, im.of_eq fun q q1 q2 => hf _ (by omega), by rw [hf _ (by omega)]; exact ho, fun k hk f hf' => (bs k hk f hf').mono (hf _ (by omega)), ⟨fB, fR, by rw [hf _ (by omega)]; exact s1, by rw [hf _ (by omega)]; exact s2, fun d hd => (s3 d hd).mono (Nat.le_refl _) fun q q1 q2 => hf _ (by omega), s4⟩, by rw [hf _ (by omega)]; exact er, by rw [hf _ (by omega)]; exact e1, by rw [hf _ (by omega)]; exact e2, by rw [hf _ (by omega)]; exact e3, by rw [hf _ (by omega)]; exact h1, by rw [hf _ (by omega)]; exact h2, by rw [hf _ (by omega)]; exact h3⟩
/-- what is now changes -/
theorem XW.nw (h : XW G x s ib u hs n) {t : Nat → Nat} (ht : MA G' (x + 1) t) (hf : FR (x + 1) 9 G G') : XW G' x t ib u hs n := by
  obtain ⟨o, now, ⟨v, mind⟩, im, ho, bs, ⟨fB, fR, s1, s2, s3, s4⟩, er, e1, e2, e3, h1, h2, h3⟩ := h
  refine ⟨by rw [hf _ (by omega)]; exact o, ht, ⟨v, mind.of_eq fun q q1 q2 => hf _ (by omega)⟩, im.of_eq fun q q1 q2 => hf _ (by omega), by rw [hf _ (by omega)]; exact ho, fun k hk f hf' => (bs k hk f hf').mono (hf _ (by omega)), ⟨fB, fR, by rw [hf _ (by omega)]; exact s1, by rw [hf _ (by omega)]; exact s2, fun d hd => (s3 d hd).mono (Nat.le_refl _) fun q q1 q2 => hf _ (by omega), s4⟩, by rw [hf _ (by omega)]; exact er, by rw [hf _ (by omega)]; exact e1, by rw [hf _ (by omega)]; exact e2, by rw [hf _ (by omega)]; exact e3, by rw [hf _ (by omega)]; exact h1, by rw [hf _ (by omega)]; exact h2, by rw [hf _ (by omega)]; exact h3⟩
/-- the image changes -/
theorem XW.mg (h : XW G x s ib u hs n) {t : Nat → Nat} (ht : MA G' (x + 19) t) (hf : FR (x + 19) 9 G G') : XW G' x s ib t hs n := by
  obtain ⟨o, now, ⟨v, mind⟩, im, ho, bs, ⟨fB, fR, s1, s2, s3, s4⟩, er, e1, e2, e3, h1, h2, h3⟩ := h
  refine ⟨by rw [hf _ (by omega)]; exact o, now.of_eq fun q q1 q2 => hf _ (by omega), ⟨v, mind.of_eq fun q q1 q2 => hf _ (by omega)⟩, ht, by rw [hf _ (by omega)]; exact ho, fun k hk f hf' => (bs k hk f hf').mono (hf _ (by omega)), ⟨fB, fR, by rw [hf _ (by omega)]; exact s1, by rw [hf _ (by omega)]; exact s2, fun d hd => (s3 d hd).mono (Nat.le_refl _) fun q q1 q2 => hf _ (by omega), s4⟩, by rw [hf _ (by omega)]; exact er, by rw [hf _ (by omega)]; exact e1, by rw [hf _ (by omega)]; exact e2, by rw [hf _ (by omega)]; exact e3, by rw [hf _ (by omega)]; exact h1, by rw [hf _ (by omega)]; exact h2, by rw [hf _ (by omega)]; exact h3⟩
/-- scratch rows and the Errand change -/
theorem XW.sc (h : XW G x s ib u hs n) (hf : FR (x + 31) 7 G G') (er : ∃ p q, G' (x + 31) = some (.inl (10, [.ref (x + 31 + 1), .ref (x + 31 + 2), .ref (x + 31 + 3), .int p, .int q]))) (e1 : ∃ f, G' (x + 31 + 1) = some (.inr (.int, 144, .inl f))) (e2 : ∃ f, G' (x + 31 + 2) = some (.inr (.int, 6, .inl f))) (e3 : ∃ f, G' (x + 31 + 3) = some (.inr (.int, 6, .inl f))) (h1 : ∃ f, G' (x + 35) = some (.inr (.int, 24, .inl f))) (h2 : ∃ f, G' (x + 36) = some (.inr (.int, 8, .inl f))) (h3 : ∃ f, G' (x + 37) = some (.inr (.long, 10, .inr (.inl f)))) : XW G' x s ib u hs n := by
  obtain ⟨o, now, ⟨v, mind⟩, im, ho, bs, ⟨fB, fR, s1, s2, s3, s4⟩, -, -, -, -, -, -, -⟩ := h
  exact ⟨by rw [hf _ (by omega)]; exact o, now.of_eq fun q q1 q2 => hf _ (by omega), ⟨v, mind.of_eq fun q q1 q2 => hf _ (by omega)⟩, im.of_eq fun q q1 q2 => hf _ (by omega), by rw [hf _ (by omega)]; exact ho, fun k hk f hf' => (bs k hk f hf').mono (hf _ (by omega)), ⟨fB, fR, by rw [hf _ (by omega)]; exact s1, by rw [hf _ (by omega)]; exact s2, fun d hd => (s3 d hd).mono (Nat.le_refl _) fun q q1 q2 => hf _ (by omega), s4⟩, er, e1, e2, e3, h1, h2, h3⟩
theorem XW.cls (h : XW G x s ib u hs n) : z_clsOf G x = some 11 := z_clsI h.o
theorem XW.f0 (h : XW G x s ib u hs n) (t f : Nat) : z_gf G x [0, 11, 11, t, f] = some (.ref (x + 1)) := z_gfI h.o (by decide) (by decide) rfl
theorem XW.f1 (h : XW G x s ib u hs n) (t f : Nat) : z_gf G x [1, 11, 11, t, f] = some (.ref (x + 10)) := z_gfI h.o (by decide) (by decide) rfl
theorem XW.f2 (h : XW G x s ib u hs n) (t f : Nat) : z_gf G x [2, 11, 11, t, f] = some (.ref (x + 19)) := z_gfI h.o (by decide) (by decide) rfl
theorem XW.f3 (h : XW G x s ib u hs n) (t f : Nat) : z_gf G x [3, 11, 11, t, f] = some (.int (z_b ib)) := z_gfI h.o (by decide) (by decide) rfl
theorem XW.f4 (h : XW G x s ib u hs n) (t f : Nat) : z_gf G x [4, 11, 11, t, f] = some (.ref (x + 28)) := z_gfI h.o (by decide) (by decide) rfl
theorem XW.f5 (h : XW G x s ib u hs n) (t f : Nat) : z_gf G x [5, 11, 11, t, f] = some (.ref (x + 29)) := z_gfI h.o (by decide) (by decide) rfl
theorem XW.f6 (h : XW G x s ib u hs n) (t f : Nat) : z_gf G x [6, 11, 11, t, f] = some (.ref (x + 30)) := z_gfI h.o (by decide) (by decide) rfl
theorem XW.f7 (h : XW G x s ib u hs n) (t f : Nat) : z_gf G x [7, 11, 11, t, f] = some (.ref (x + 31)) := z_gfI h.o (by decide) (by decide) rfl
theorem XW.f8 (h : XW G x s ib u hs n) (t f : Nat) : z_gf G x [8, 11, 11, t, f] = some (.ref (x + 35)) := z_gfI h.o (by decide) (by decide) rfl
theorem XW.f9 (h : XW G x s ib u hs n) (t f : Nat) : z_gf G x [9, 11, 11, t, f] = some (.ref (x + 36)) := z_gfI h.o (by decide) (by decide) rfl
theorem XW.f10 (h : XW G x s ib u hs n) (t f : Nat) : z_gf G x [10, 11, 11, t, f] = some (.ref (x + 37)) := z_gfI h.o (by decide) (by decide) rfl
end
theorem z_aqI {G : z_H} {a N j : Nat} {C : String} {f : Nat → Option Nat} (h : G a = some (.inr (.object C, N, .inr (.inr (.inr (.inr f)))))) (hj : j < N) (hN : N < 2 ^ 31) : z_aq G a (nI j) = some (va_rf (f j)) := by
  unfold z_aq
  simp only [h]
  rw [if_neg (by rw [z_out_nI hj hN]; decide), nI_clamp (by omega)]
theorem z_pqI {G : z_H} {a N j : Nat} {C : String} {f : Nat → Option Nat} {q ci : Nat} {fs : List Value} (h : G a = some (.inr (.object C, N, .inr (.inr (.inr (.inr f)))))) (hj : j < N) (hN : N < 2 ^ 31) (hq : G q = some (.inl (ci, fs))) (ht : z_takes C ci = true) : z_pq G a (nI j) (.ref q) = some (z_up G a (.inr (.object C, N, .inr (.inr (.inr (.inr (va_up f j (some q)))))))) := by
  unfold z_pq
  simp only [h]
  rw [if_neg (by rw [z_out_nI hj hN]; decide), nI_clamp (by omega)]
  simp only [hq]
  rw [if_pos ht]
theorem z_pqN {G : z_H} {a N j : Nat} {C : String} {f : Nat → Option Nat} (h : G a = some (.inr (.object C, N, .inr (.inr (.inr (.inr f)))))) (hj : j < N) (hN : N < 2 ^ 31) : z_pq G a (nI j) .null = some (z_up G a (.inr (.object C, N, .inr (.inr (.inr (.inr (va_up f j none))))))) := by
  unfold z_pq
  simp only [h]
  rw [if_neg (by rw [z_out_nI hj hN]; decide), nI_clamp (by omega)]
theorem z_anI {E : z_E} {G : z_H} {a N : Nat} {t : FieldType} {c : _} (h : G a = some (.inr (t, N, c))) : z_an E G a = some (nI N) := by
  unfold z_an
  simp only [h]
theorem kord_takes (k : Nat) : z_takes "BellThatIsADoor$Bell" (kord k) = true := by
  have := kord_le k
  unfold z_takes
  simp [this]
section
variable {E : z_E} (lv k : Nat)
theorem sX_init {G : z_H} {x : Nat} : ∃ G', z_evM E i_X_init lv [.ref x] (x + 1) k (z_up G x (.inl (11, [.null, .null, .null, .int 0, .null, .null, .null, .null, .null, .null, .null]))) = some (none, x + 118, k + 956, G') ∧ XW G' x s00 false s00 (fun _ => Sh.no) (x + 118) ∧ ∀ q, (q < x ∨ x + 118 ≤ q) → G' q = G q := by
  have q10 : ¬ nI 10 = 0 := nI_ne0 (by omega) (by omega)
  have key : ∀ m i k G1 f, i + m = 80 → G1 x = some (.inl (11, xFs x 0)) → G1 (x + 28) = some (obB 80 f) → (∀ j, j < i → f j = some (x + 38 + j)) → (∀ j, j < i → BA G1 (x + 38 + j) (j / 10) (j % 10)) → ∃ G', z_ev E i_X_init lv 101 [some (.ref x), some (.int (nI i))] [] (x + 38 + i) k G1 = some (none, x + 118, k + 6 * m, G') ∧ G' x = some (.inl (11, xFs x 0)) ∧ (∃ f, G' (x + 28) = some (obB 80 f) ∧ ∀ j, j < 80 → f j = some (x + 38 + j)) ∧ (∀ j, j < 80 → BA G' (x + 38 + j) (j / 10) (j % 10)) ∧ ∀ q, q ≠ x + 28 → (q < x + 38 + i ∨ x + 118 ≤ q) → G' q = G1 q := by
    intro m
    induction m with
    | zero =>
      intro i k G1 f hi h0 h1 h2 h3
      have : i = 80 := by omega
      subst this
      have c : nI 80 ≤ nI 80 := nI_le (Nat.le_refl _) (by omega)
      have g4 : z_gf G1 x [4, 11, 11, 3, 1] = some (.ref (x + 28)) := z_gfI h0 (by decide) (by decide) rfl
      refine ⟨G1, ?_, h0, ⟨f, h1, h2⟩, h3, fun q _ _ => rfl⟩
      simp only [zr_X_init_0, zr_X_init_1, zr_X_init_4, zr_X_init_5, zr_X_init_8, zr_X_init_9, zr_X_init_12, zr_X_init_15, zr_X_init_16, zr_X_init_19, zr_X_init_20, zr_X_init_23, zr_X_init_26, zr_X_init_27, zr_X_init_30, zr_X_init_31, zr_X_init_34, zr_X_init_37, zr_X_init_38, zr_X_init_40, zr_X_init_43, zr_X_init_46, zr_X_init_47, zr_X_init_49, zr_X_init_52, zr_X_init_55, zr_X_init_56, zr_X_init_58, zr_X_init_61, zr_X_init_64, zr_X_init_65, zr_X_init_68, zr_X_init_69, zr_X_init_72, zr_X_init_75, zr_X_init_76, zr_X_init_78, zr_X_init_80, zr_X_init_83, zr_X_init_84, zr_X_init_86, zr_X_init_88, zr_X_init_91, zr_X_init_92, zr_X_init_94, zr_X_init_96, zr_X_init_99, zr_X_init_100, zr_X_init_101, zr_X_init_102, zr_X_init_103, zr_X_init_106, zr_X_init_107, zr_X_init_110, zr_X_init_111, zr_X_init_114, zr_X_init_115, zr_X_init_116, zr_X_init_118, zr_X_init_119, zr_X_init_120, zr_X_init_122, zr_X_init_123, zr_X_init_126, zr_X_init_127, zr_X_init_130, zr_X_init_133, g4, z_obs, z_anI h1, c, ↓reduceIte]
      rfl
    | succ m ih =>
      intro i k G1 f hi h0 h1 h2 h3
      have c : ¬ nI 80 ≤ nI i := nI_ge (by omega) (by omega)
      have g4 : ∀ t f, z_gf G1 x [4, 11, 11, t, f] = some (.ref (x + 28)) := fun t f => z_gfI h0 (by decide) (by decide) rfl
      obtain ⟨G2, p1, p2, p3⟩ := sX_newHouse (E := E) 0 (x + 38 + i) k (G := G1) (kd := i / 10) (f := i % 10) (by omega) (by omega)
      have e1 : G2 (x + 28) = some (obB 80 f) := by rw [p3 _ (by omega)]; exact h1
      have p4 := z_pqI (j := i) e1 (by omega) (by omega) p2 (kord_takes _)
      obtain ⟨G', w1, w2, w3, w4, w5⟩ := ih (i + 1) (k + 6) (z_up G2 (x + 28) (obB 80 (va_up f i (some (x + 38 + i))))) (va_up f i (some (x + 38 + i))) (by omega) (by rw [z_up_n _ _ (by omega), p3 _ (by omega)]; exact h0) (z_up_s _ _ _) (fun j hj => by
        unfold va_up
        by_cases e : j = i
        · rw [if_pos e, e]
        · rw [if_neg e]; exact h2 j (by omega)) (fun j hj => by
        by_cases e : j = i
        · subst e
          exact p2.mono (z_up_n _ _ (by omega))
        · exact (h3 j (by omega)).mono (by rw [z_up_n _ _ (by omega), p3 _ (by omega)]))
      refine ⟨G', ?_, w2, w3, w4, fun q q1 q2 => by rw [w5 q q1 (by omega), z_up_n _ _ q1, p3 _ (by omega)]⟩
      rw [show k + 6 * (m + 1) = k + 6 + 6 * m by omega, ← w1, zr_X_init_101]
      simp only [zr_X_init_0, zr_X_init_1, zr_X_init_4, zr_X_init_5, zr_X_init_8, zr_X_init_9, zr_X_init_12, zr_X_init_15, zr_X_init_16, zr_X_init_19, zr_X_init_20, zr_X_init_23, zr_X_init_26, zr_X_init_27, zr_X_init_30, zr_X_init_31, zr_X_init_34, zr_X_init_37, zr_X_init_38, zr_X_init_40, zr_X_init_43, zr_X_init_46, zr_X_init_47, zr_X_init_49, zr_X_init_52, zr_X_init_55, zr_X_init_56, zr_X_init_58, zr_X_init_61, zr_X_init_64, zr_X_init_65, zr_X_init_68, zr_X_init_69, zr_X_init_72, zr_X_init_75, zr_X_init_76, zr_X_init_78, zr_X_init_80, zr_X_init_83, zr_X_init_84, zr_X_init_86, zr_X_init_88, zr_X_init_91, zr_X_init_92, zr_X_init_94, zr_X_init_96, zr_X_init_99, zr_X_init_100, zr_X_init_102, zr_X_init_103, zr_X_init_106, zr_X_init_107, zr_X_init_110, zr_X_init_111, zr_X_init_114, zr_X_init_115, zr_X_init_116, zr_X_init_118, zr_X_init_119, zr_X_init_120, zr_X_init_122, zr_X_init_123, zr_X_init_126, zr_X_init_127, zr_X_init_130, zr_X_init_133, g4, z_obs, z_anI h1, c, ↓reduceIte, int_10, q10, not_false_eq_true, pk_div (show i < 2 ^ 31 by omega) (show 0 < 10 by omega) (show 10 < 2 ^ 31 by omega), z_rem2 (show i < 2 ^ 31 by omega) (show 0 < 10 by omega) (show 10 < 2 ^ 31 by omega), p1, z_pu_s, p4, nI_1]
      rfl
  have hA : ∀ i, i ≠ 0 → nwX G x (x + i) = nwA G x (x + i) := fun i hi => z_up_n _ _ (by omega)
  have nM : ∀ (A : z_H) (a q : Nat), (q < a ∨ a + 9 ≤ q) → nwM A a q = A q := fun A a q h => nwM_fr A a q h
  have nE : ∀ (A : z_H) (a q : Nat), (q < a ∨ a + 4 ≤ q) → nwE A a q = A q := fun A a q h => nwE_fr A a q h
  obtain ⟨G', w1, w2, w3, w4, w5⟩ := key 80 0 (k + 476) (nwX G x) (fun _ => none) (by omega) (z_up_s _ _ _) (by
    rw [hA 28 (by omega)]
    unfold nwA
    rw [z_up_n _ _ (by omega), z_up_n _ _ (by omega), z_up_n _ _ (by omega), nE _ _ _ (by omega), z_up_n _ _ (by omega), z_up_n _ _ (by omega), z_up_s]) (fun j hj => absurd hj (Nat.not_lt_zero j)) (fun j hj => absurd hj (Nat.not_lt_zero j))
  have hq : ∀ i, i ≠ 0 → i < 38 → i ≠ 28 → G' (x + i) = nwA G x (x + i) := fun i h0 h1 h2 => by rw [w5 _ (by omega) (by omega), hA i h0]
  refine ⟨G', ?_, ⟨w2, ?_, ⟨s00, ?_⟩, ?_, w3, fun k hk f hf => ?_, ⟨fun _ => none, fun _ => none, ?_, ?_, fun d hd => ⟨rfl, rfl⟩, fun d d' r _ _ h => by cases h⟩, ⟨0, 0, ?_⟩, ⟨fun _ => 0, ?_⟩, ⟨fun _ => 0, ?_⟩, ⟨fun _ => 0, ?_⟩, ⟨fun _ => 0, ?_⟩, ⟨fun _ => 0, ?_⟩, ⟨fun _ => 0, ?_⟩⟩, fun q hq => ?_⟩
  · rw [sX_init1]; exact w1
  · refine (nwM_MA G (x + 1)).of_eq fun q q1 q2 => ?_
    obtain ⟨i, rfl⟩ : ∃ i, q = x + i := ⟨q - x, by omega⟩
    rw [hq i (by omega) (by omega) (by omega)]
    unfold nwA
    rw [z_up_n _ _ (by omega), z_up_n _ _ (by omega), z_up_n _ _ (by omega), nE _ _ _ (by omega), z_up_n _ _ (by omega), z_up_n _ _ (by omega), z_up_n _ _ (by omega), nM _ _ _ (by omega), nM _ _ _ (by omega)]
  · refine (nwM_MA (nwM G (x + 1)) (x + 10)).of_eq fun q q1 q2 => ?_
    obtain ⟨i, rfl⟩ : ∃ i, q = x + i := ⟨q - x, by omega⟩
    rw [hq i (by omega) (by omega) (by omega)]
    unfold nwA
    rw [z_up_n _ _ (by omega), z_up_n _ _ (by omega), z_up_n _ _ (by omega), nE _ _ _ (by omega), z_up_n _ _ (by omega), z_up_n _ _ (by omega), z_up_n _ _ (by omega), nM _ _ _ (by omega)]
  · refine (nwM_MA (nwM (nwM G (x + 1)) (x + 10)) (x + 19)).of_eq fun q q1 q2 => ?_
    obtain ⟨i, rfl⟩ : ∃ i, q = x + i := ⟨q - x, by omega⟩
    rw [hq i (by omega) (by omega) (by omega)]
    unfold nwA
    rw [z_up_n _ _ (by omega), z_up_n _ _ (by omega), z_up_n _ _ (by omega), nE _ _ _ (by omega), z_up_n _ _ (by omega), z_up_n _ _ (by omega), z_up_n _ _ (by omega)]
  · have := w4 (10 * k + f) (by omega)
    rw [show (10 * k + f) / 10 = k by omega, show (10 * k + f) % 10 = f by omega] at this
    exact this
  · rw [hq 29 (by omega) (by omega) (by omega)]
    unfold nwA
    rw [z_up_n _ _ (by omega), z_up_n _ _ (by omega), z_up_n _ _ (by omega), nE _ _ _ (by omega), z_up_n _ _ (by omega), z_up_s]
  · rw [hq 30 (by omega) (by omega) (by omega)]
    unfold nwA
    rw [z_up_n _ _ (by omega), z_up_n _ _ (by omega), z_up_n _ _ (by omega), nE _ _ _ (by omega), z_up_s]
  · rw [hq 31 (by omega) (by omega) (by omega)]
    unfold nwA
    rw [z_up_n _ _ (by omega), z_up_n _ _ (by omega), z_up_n _ _ (by omega)]
    unfold nwE
    rw [z_up_s]
  · rw [Nat.add_assoc, hq (31 + 1) (by omega) (by omega) (by omega)]
    unfold nwA
    rw [z_up_n _ _ (by omega), z_up_n _ _ (by omega), z_up_n _ _ (by omega)]
    unfold nwE
    rw [z_up_n _ _ (by omega), z_up_n _ _ (by omega), z_up_n _ _ (by omega), Nat.add_assoc, z_up_s]
    rfl
  · rw [Nat.add_assoc, hq (31 + 2) (by omega) (by omega) (by omega)]
    unfold nwA
    rw [z_up_n _ _ (by omega), z_up_n _ _ (by omega), z_up_n _ _ (by omega)]
    unfold nwE
    rw [z_up_n _ _ (by omega), z_up_n _ _ (by omega), Nat.add_assoc x 31 2, z_up_s]
    rfl
  · rw [Nat.add_assoc, hq (31 + 3) (by omega) (by omega) (by omega)]
    unfold nwA
    rw [z_up_n _ _ (by omega), z_up_n _ _ (by omega), z_up_n _ _ (by omega)]
    unfold nwE
    rw [z_up_n _ _ (by omega), Nat.add_assoc x 31 3, z_up_s]
    rfl
  · rw [hq 35 (by omega) (by omega) (by omega)]
    unfold nwA
    rw [z_up_n _ _ (by omega), z_up_n _ _ (by omega), z_up_s]
    rfl
  · rw [hq 36 (by omega) (by omega) (by omega)]
    unfold nwA
    rw [z_up_n _ _ (by omega), z_up_s]
    rfl
  · rw [hq 37 (by omega) (by omega) (by omega)]
    unfold nwA
    rw [z_up_s]
    rfl
  · rw [w5 _ (by omega) (by omega)]
    unfold nwX nwA
    rw [z_up_n _ _ (by omega), z_up_n _ _ (by omega), z_up_n _ _ (by omega), z_up_n _ _ (by omega), nE _ _ _ (by omega), z_up_n _ _ (by omega), z_up_n _ _ (by omega), z_up_n _ _ (by omega), nM _ _ _ (by omega), nM _ _ _ (by omega), nM _ _ _ (by omega)]
end
