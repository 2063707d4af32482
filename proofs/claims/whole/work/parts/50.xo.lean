/-! THE CLASS: shelves -/
def upS (hs : Nat → Sh) (d : Nat) (v : Sh) : Nat → Sh := fun j => if j = d then v else hs j
theorem upS_s (hs : Nat → Sh) (d : Nat) (v : Sh) : upS hs d v d = v := if_pos rfl
theorem upS_n (hs : Nat → Sh) {d j : Nat} (v : Sh) (h : j ≠ d) : upS hs d v j = hs j := if_neg h
def aKeep (hs : Nat → Sh) (d y k f : Int32) : Int32 × (Nat → Sh) := if inR d 8 = true ∧ is01 y = true ∧ (y = 0 ∨ (inR k 8 = true ∧ inR f 10 = true)) then (0, upS hs (jN d) (if y = 0 then Sh.no else Sh.be (jN k) (jN f))) else (-1, hs)
def aRow (hs : Nat → Sh) (d so m : Int32) : Int32 × (Nat → Sh) := if inR d 8 = true ∧ inR so 3 = true ∧ m ≤ 100 then (if m < 0 then (-14, hs) else (0, upS hs (jN d) (Sh.ro (jN so) (jN m) fun _ => 0))) else (-1, hs)
def cvI (so : Nat) (v : Int32) : Int32 := if so = 0 then v.toInt8.toInt32 else if so = 1 then v.toInt16.toInt32 else v
def aPut (hs : Nat → Sh) (d i v : Int32) : Int32 × (Nat → Sh) := if lkR hs d ≠ 0 then (lkR hs d, hs) else match hs (jN d) with
  | .inr (.inr (so, sz, el)) => if inR i sz = true then (0, upS hs (jN d) (Sh.ro so sz (upd el (jN i) (cvI so v)))) else (-13, hs)
  | _ => (-1, hs)
section
variable {E : z_E} {G G' : z_H} {x : Nat} {s u : Nat → Nat} {ib : Bool} {hs : Nat → Sh} {n n' : Nat} (lv N k : Nat)
/-- shelves change, rows come -/
theorem XW.shelf (h : XW G x s ib u hs n) {hs' : Nat → Sh} (hq : ∀ q, (x ≤ q ∧ q < x + 118) → q ≠ x + 29 → q ≠ x + 30 → G' q = G q) {fB fR : Nat → Option Nat} (s1 : G' (x + 29) = some (obB 8 fB)) (s2 : G' (x + 30) = some (obR 8 fR)) (s3 : ∀ d, d < 8 → ShX G' x n' fB fR d (hs' d)) (s4 : ∀ d d' r, d < 8 → d' < 8 → fR d = some r → fR d' = some r → d = d') : XW G' x s ib u hs' n' := by
  obtain ⟨o, now, ⟨t, ht⟩, im, ho, bs, -, er, e1, e2, e3, h1, h2, h3⟩ := h
  have e : ∀ i, i < 118 → i ≠ 29 → i ≠ 30 → G' (x + i) = G (x + i) := fun i hi i1 i2 => hq _ ⟨by omega, by omega⟩ (by omega) (by omega)
  exact ⟨by rw [hq x (by omega) (by omega) (by omega)]; exact o, now.of_eq fun q q1 q2 => hq _ (by omega) (by omega) (by omega), ⟨t, ht.of_eq fun q q1 q2 => hq _ (by omega) (by omega) (by omega)⟩, im.of_eq fun q q1 q2 => hq _ (by omega) (by omega) (by omega), by rw [e 28 (by omega) (by omega) (by omega)]; exact ho, fun k hk f hf => (bs k hk f hf).mono (hq _ (by omega) (by omega) (by omega)), ⟨fB, fR, s1, s2, s3, s4⟩, by rw [e 31 (by omega) (by omega) (by omega)]; exact er, by rw [hq _ (by omega) (by omega) (by omega)]; exact e1, by rw [hq _ (by omega) (by omega) (by omega)]; exact e2, by rw [hq _ (by omega) (by omega) (by omega)]; exact e3, by rw [e 35 (by omega) (by omega) (by omega)]; exact h1, by rw [e 36 (by omega) (by omega) (by omega)]; exact h2, by rw [e 37 (by omega) (by omega) (by omega)]; exact h3⟩
theorem ShX.of {fB fR fB' fR' : Nat → Option Nat} {d : Nat} {v : Sh} (h : ShX G x n fB fR d v) (e1 : fB' d = fB d) (e2 : fR' d = fR d) : ShX G x n fB' fR' d v := by
  rcases v with _ | ⟨k, f⟩ | ⟨so, sz, el⟩
  · show fB' d = none ∧ fR' d = none; rw [e1, e2]; exact h
  · show k < 8 ∧ f < 10 ∧ fB' d = some (x + 38 + (10 * k + f)) ∧ fR' d = none; rw [e1, e2]; exact h
  · show so < 3 ∧ sz ≤ 100 ∧ fB' d = none ∧ ∃ r, fR' d = some r ∧ x + 134 ≤ r ∧ r + 1 < n ∧ RA G r so sz el
    rw [e1, e2]; exact h
theorem va_up_s {f : Nat → Option Nat} {i : Nat} {v : Option Nat} : va_up f i v i = v := by unfold va_up; rw [if_pos rfl]
theorem va_up_n {f : Nat → Option Nat} {i j : Nat} {v : Option Nat} (h : j ≠ i) : va_up f i v j = f j := by unfold va_up; rw [if_neg h]
theorem XW.keepNo (h : XW G x s ib u hs n) {d : Nat} (hd : d < 8) : ∃ G1 G2, z_pq G (x + 29) (nI d) .null = some G1 ∧ z_pq G1 (x + 30) (nI d) .null = some G2 ∧ XW G2 x s ib u (upS hs d Sh.no) n ∧ XF x G G2 ∧ (∀ t f, z_gf G1 x [6, 11, 11, t, f] = some (.ref (x + 30))) := by
  obtain ⟨fB, fR, s1, s2, s3, s4⟩ := h.sh
  have p1 := z_pqN s1 hd (by decide)
  have e2 : z_up G (x + 29) (obB 8 (va_up fB d none)) (x + 30) = some (obR 8 fR) := by rw [z_up_n _ _ (by omega)]; exact s2
  have p2 := z_pqN e2 hd (by decide)
  refine ⟨_, _, p1, p2, h.shelf (fun q q1 q2 q3 => by rw [z_up_n _ _ q3, z_up_n _ _ q2]) (fB := va_up fB d none) (fR := va_up fR d none) (by rw [z_up_n _ _ (by omega)]; exact z_up_s _ _ _) (z_up_s _ _ _) (fun j hj => ?_) (fun a b r ha hb h1 h2 => ?_), fun q hq => by rw [z_up_n _ _ (by omega), z_up_n _ _ (by omega)], fun t f => ?_⟩
  · by_cases e : j = d
    · subst e; rw [upS_s]; exact ⟨va_up_s, va_up_s⟩
    · rw [upS_n _ _ e]
      exact ((s3 j hj).of (va_up_n e) (va_up_n e)).mono (Nat.le_refl _) fun q q1 q2 => by rw [z_up_n _ _ (by omega), z_up_n _ _ (by omega)]
  · have ea : a ≠ d := fun z => by subst z; rw [va_up_s] at h1; cases h1
    have eb : b ≠ d := fun z => by subst z; rw [va_up_s] at h2; cases h2
    rw [va_up_n ea] at h1
    rw [va_up_n eb] at h2
    exact s4 a b r ha hb h1 h2
  · exact z_gfI (by rw [z_up_n _ _ (by omega)]; exact h.o) (by decide) (by decide) rfl
theorem XW.keepBe (h : XW G x s ib u hs n) {d kd ff : Nat} (hd : d < 8) (hk : kd < 8) (hf : ff < 10) : ∃ G1 G2, z_pq G (x + 29) (nI d) (.ref (x + 38 + (10 * kd + ff))) = some G1 ∧ z_pq G1 (x + 30) (nI d) .null = some G2 ∧ XW G2 x s ib u (upS hs d (Sh.be kd ff)) n ∧ XF x G G2 ∧ (∀ t f, z_gf G1 x [6, 11, 11, t, f] = some (.ref (x + 30))) := by
  obtain ⟨fB, fR, s1, s2, s3, s4⟩ := h.sh
  have p1 := z_pqI s1 hd (by decide) (h.bs _ hk _ hf) (kord_takes _)
  have e2 : z_up G (x + 29) (obB 8 (va_up fB d (some (x + 38 + (10 * kd + ff))))) (x + 30) = some (obR 8 fR) := by rw [z_up_n _ _ (by omega)]; exact s2
  have p2 := z_pqN e2 hd (by decide)
  refine ⟨_, _, p1, p2, h.shelf (fun q q1 q2 q3 => by rw [z_up_n _ _ q3, z_up_n _ _ q2]) (fB := va_up fB d (some (x + 38 + (10 * kd + ff)))) (fR := va_up fR d none) (by rw [z_up_n _ _ (by omega)]; exact z_up_s _ _ _) (z_up_s _ _ _) (fun j hj => ?_) (fun a b r ha hb h1 h2 => ?_), fun q hq => by rw [z_up_n _ _ (by omega), z_up_n _ _ (by omega)], fun t f => ?_⟩
  · by_cases e : j = d
    · subst e; rw [upS_s]; exact ⟨hk, hf, va_up_s, va_up_s⟩
    · rw [upS_n _ _ e]
      exact ((s3 j hj).of (va_up_n e) (va_up_n e)).mono (Nat.le_refl _) fun q q1 q2 => by rw [z_up_n _ _ (by omega), z_up_n _ _ (by omega)]
  · have ea : a ≠ d := fun z => by subst z; rw [va_up_s] at h1; cases h1
    have eb : b ≠ d := fun z => by subst z; rw [va_up_s] at h2; cases h2
    rw [va_up_n ea] at h1
    rw [va_up_n eb] at h2
    exact s4 a b r ha hb h1 h2
  · exact z_gfI (by rw [z_up_n _ _ (by omega)]; exact h.o) (by decide) (by decide) rfl
theorem xKeep (h : XW G x s ib u hs n) (d y kd f : Int32) : ∃ G', z_evM E i_X_keep lv [.ref x, .int d, .int y, .int kd, .int f] N k G = some (some (.int (aKeep hs d y kd f).1), N, k, G') ∧ XW G' x s ib u (aKeep hs d y kd f).2 n ∧ XF x G G' := by
  unfold aKeep
  cases hd : inR d 8
  · refine ⟨G, ?_, h, XF.rf⟩
    simp only [zm_X_keep, zr_X_keep_0, zr_X_keep_1, zr_X_keep_4, zr_X_keep_7, zr_X_keep_8, zr_X_keep_11, zr_X_keep_14, zr_X_keep_15, sX_isShelf, hd, z_obs, z_pu_s, z_pu_n, z00, z10, ↓reduceIte, true_or, or_true, z_b_t, z_b_f, Bool.false_eq_true, false_and]
  · cases hy : is01 y
    · refine ⟨G, ?_, h, XF.rf⟩
      simp only [zm_X_keep, zr_X_keep_0, zr_X_keep_1, zr_X_keep_4, zr_X_keep_7, zr_X_keep_8, zr_X_keep_11, zr_X_keep_14, zr_X_keep_15, sX_isShelf, sX_is01, hd, hy, z_obs, z_pu_s, z_pu_n, z00, z10, ↓reduceIte, true_or, or_true, z_b_t, z_b_f, Bool.false_eq_true, false_and, and_false]
    · obtain ⟨d, hd8, rfl⟩ := inR_of (by decide) hd
      rw [jN_nI (show d < 2 ^ 31 by omega)]
      rcases is01_of hy with rfl | rfl
      · obtain ⟨G1, G2, p1, p2, p3, p4, p5⟩ := h.keepNo hd8
        simp only [true_or, and_self, ↓reduceIte]
        refine ⟨G2, ?_, p3, p4⟩
        simp only [zm_X_keep, zr_X_keep_0, zr_X_keep_1, zr_X_keep_4, zr_X_keep_7, zr_X_keep_8, zr_X_keep_11, zr_X_keep_14, zr_X_keep_15, zr_X_keep_16, zr_X_keep_17, zr_X_keep_20, zr_X_keep_21, zr_X_keep_24, zr_X_keep_25, zr_X_keep_26, zr_X_keep_28, zr_X_keep_31, zr_X_keep_31n, zr_X_keep_33, zr_X_keep_34, zr_X_keep_35, zr_X_keep_38, zr_X_keep_38n, zr_X_keep_40, zr_X_keep_40n, zr_X_keep_43, zr_X_keep_44, zr_X_keep_45, zr_X_keep_46, zr_X_keep_49, zr_X_keep_50, zr_X_keep_50n, zr_X_keep_52, zr_X_keep_53, zr_X_keep_54, zr_X_keep_57, zr_X_keep_58, zr_X_keep_59, zr_X_keep_60, zr_X_keep_61, sX_isShelf, sX_is01, hd, hy, h.f5, p1, p2, p5, show ((0 : Int32) = 1) = False from by simp, z_obs, z_pu_s, z_pu_n, z00, z10, ↓reduceIte, true_or, or_true, z_b_t, z_b_f]
      · by_cases hkf : inR kd 8 = true ∧ inR f 10 = true
        · obtain ⟨kd, hk, rfl⟩ := inR_of (by decide) hkf.1
          obtain ⟨f, hf, rfl⟩ := inR_of (by decide) hkf.2
          obtain ⟨G1, G2, p1, p2, p3, p4, p5⟩ := h.keepBe hd8 hk hf
          rw [jN_nI (show kd < 2 ^ 31 by omega), jN_nI (show f < 2 ^ 31 by omega)]
          simp only [hkf, z10, or_true, and_self, ↓reduceIte]
          refine ⟨G2, ?_, p3, p4⟩
          simp only [zm_X_keep, zr_X_keep_0, zr_X_keep_1, zr_X_keep_4, zr_X_keep_7, zr_X_keep_8, zr_X_keep_11, zr_X_keep_14, zr_X_keep_15, zr_X_keep_16, zr_X_keep_17, zr_X_keep_20, zr_X_keep_21, zr_X_keep_24, zr_X_keep_25, zr_X_keep_26, zr_X_keep_28, zr_X_keep_31, zr_X_keep_31n, zr_X_keep_33, zr_X_keep_34, zr_X_keep_35, zr_X_keep_38, zr_X_keep_38n, zr_X_keep_40, zr_X_keep_40n, zr_X_keep_43, zr_X_keep_44, zr_X_keep_45, zr_X_keep_46, zr_X_keep_49, zr_X_keep_50, zr_X_keep_50n, zr_X_keep_52, zr_X_keep_53, zr_X_keep_54, zr_X_keep_57, zr_X_keep_58, zr_X_keep_59, zr_X_keep_60, zr_X_keep_61, sX_isShelf, sX_is01, hd, hy, h.cls, sX_houseOf _ _ _ h hk hf, h.f5, p1, p2, p5, z_obs, z_pu_s, z_pu_n, z00, z10, ↓reduceIte, true_or, or_true, z_b_t, z_b_f]
        · have hkf' : inR kd 8 = false ∨ inR f 10 = false := by
            cases h1 : inR kd 8
            · exact Or.inl rfl
            · cases h2 : inR f 10
              · exact Or.inr rfl
              · exact absurd ⟨h1, h2⟩ hkf
          refine ⟨G, ?_, ?_, XF.rf⟩
          · simp only [zm_X_keep, zr_X_keep_0, zr_X_keep_1, zr_X_keep_4, zr_X_keep_7, zr_X_keep_8, zr_X_keep_11, zr_X_keep_14, zr_X_keep_15, zr_X_keep_16, zr_X_keep_17, zr_X_keep_20, zr_X_keep_21, zr_X_keep_24, zr_X_keep_25, zr_X_keep_26, zr_X_keep_28, zr_X_keep_31, zr_X_keep_31n, zr_X_keep_33, zr_X_keep_34, zr_X_keep_35, zr_X_keep_38, zr_X_keep_38n, zr_X_keep_40, zr_X_keep_40n, zr_X_keep_43, zr_X_keep_44, zr_X_keep_45, zr_X_keep_46, zr_X_keep_49, zr_X_keep_50, zr_X_keep_50n, zr_X_keep_52, zr_X_keep_53, zr_X_keep_54, zr_X_keep_57, zr_X_keep_58, zr_X_keep_59, zr_X_keep_60, zr_X_keep_61, sX_isShelf, sX_is01, hd, hy, h.cls, sX_houseOf_f _ _ _ h hkf', hkf, z_obs, z_pu_s, z_pu_n, z00, z10, ↓reduceIte, true_or, or_true, z_b_t, z_b_f, and_false, or_false]
          · simp only [hkf, z10, or_false, and_false, ↓reduceIte]
            exact h
end
