/-! THE CLASS: the least hours at which all are home -/
theorem an6 : ∀ v, v < 64 → ∀ w, w < 64 → (nI v &&& (nI w ^^^ (-1))) = nI (v &&& (63 - w)) ∧ v &&& (63 - w) < 64 := by decide +kernel
theorem an6b : ∀ v, v < 64 → ∀ w, w < 64 → ∀ b, b < 6 → b6 (v &&& (63 - w)) b = (b6 v b && !(b6 w b)) := by decide +kernel
theorem z6b : ∀ v, v < 64 → (∀ b, b < 6 → b6 v b = false) → v = 0 := by decide +kernel
theorem al6 : ∀ m, m < 7 → ((1 : Int32) <<< (nI m &&& 31)) - 1 = nI (2 ^ m - 1) ∧ 2 ^ m - 1 < 64 ∧ ∀ b, b < 6 → b6 (2 ^ m - 1) b = decide (b < m) := by decide +kernel
def lhS (f : Nat → Int32) : Nat → Nat → Int32
  | 0, _ => -4
  | m + 1, i => if 0 ≤ f i then f i ||| ((1 : Int32) <<< (nI i &&& 31)) else lhS f m (i + 1)
/-- the least so many hours below one at which all of those not yet met are home -/
def lhP (s : Nat → Nat) : Nat → (Nat → Bool) → Nat → Int32
  | 0, U, _ => if exB U (s 0) = true then -4 else 0
  | m + 1, U, below => lhS (fun top => lhP s m (fun b => U b && !(hm (sK s b) (sF s b) top)) top) below 0
def aForAll (s : Nat → Nat) : Int32 := if 0 ≤ lhP s 0 (fun _ => true) 24 then lhP s 0 (fun _ => true) 24 else if 0 ≤ lhP s 1 (fun _ => true) 24 then lhP s 1 (fun _ => true) 24 else if 0 ≤ lhP s 2 (fun _ => true) 24 then lhP s 2 (fun _ => true) 24 else lhP s 3 (fun _ => true) 24
section
variable {E : z_E} {G G0 : z_H} {x : Nat} {s u : Nat → Nat} {ib : Bool} {hs : Nat → Sh} {n : Nat} (N k : Nat)
theorem sX_least (h : XW G x s ib u hs n) (w : WF s) {g : Nat → Int32} (hg : G (x + 35) = some (.inr (.int, 24, .inl g))) (hq : ∀ t, t < 24 → g t = hmI s t) : ∀ m lv v U below, m ≤ lv → m ≤ 3 → v < 64 → below ≤ 24 → (∀ b, b < 6 → b6 v b = (decide (b < s 0) && U b)) → z_evM E i_X_leastHoursFor lv [.ref (x + 35), .int (nI v), .int (nI m), .int (nI below)] N k G = some (some (.int (lhP s m U below)), N, k, G) := by
  have w1 := w.1
  intro m
  induction m with
  | zero =>
    intro lv v U below _ _ hv _ hU
    unfold lhP
    have c : ¬ 0 < nI 0 := by decide
    by_cases h0 : v = 0
    · have : exB U (s 0) = false := by
        cases he : exB U (s 0)
        · rfl
        · obtain ⟨b, b1, b2⟩ := exB_iff.mp he
          have := hU b (by omega)
          rw [h0, b2, decide_eq_true b1] at this
          have z : b6 0 b = false := by unfold b6; rw [Nat.zero_div]; rfl
          rw [z] at this; cases this
      rw [this]
      subst h0
      simp only [zm_X_leastHoursFor, zr_X_leastHoursFor_0, zr_X_leastHoursFor_1, zr_X_leastHoursFor_4, zr_X_leastHoursFor_5, zr_X_leastHoursFor_8, zr_X_leastHoursFor_9, zr_X_leastHoursFor_12, zr_X_leastHoursFor_14, c, show (nI 0 = 0) = True from eq_true rfl, z_obs, z_pu_s, z_pu_n, z00, z10, ↓reduceIte, true_or, or_true, z_b_t, z_b_f, Bool.false_eq_true]
    · have : exB U (s 0) = true := by
        cases he : exB U (s 0)
        · exfalso
          apply h0
          refine z6b v hv fun b hb => ?_
          rw [hU b hb]
          cases hbs : decide (b < s 0)
          · rfl
          · cases hub : U b
            · rfl
            · have := exB_iff.mpr ⟨b, of_decide_eq_true hbs, hub⟩
              rw [he] at this; cases this
        · rfl
      rw [this]
      simp only [zm_X_leastHoursFor, zr_X_leastHoursFor_0, zr_X_leastHoursFor_1, zr_X_leastHoursFor_4, zr_X_leastHoursFor_5, zr_X_leastHoursFor_8, zr_X_leastHoursFor_9, zr_X_leastHoursFor_12, zr_X_leastHoursFor_14, c, show (nI v = 0) = False from eq_false (nI_ne0 (by omega) (by omega)), z_obs, z_pu_s, z_pu_n, z00, z10, ↓reduceIte, true_or, or_true, z_b_t, z_b_f]
  | succ m ih =>
    intro lv v U below hlv hm3 hv hbe hU
    obtain ⟨lv, rfl⟩ : ∃ l, lv = l + 1 := ⟨lv - 1, by omega⟩
    have c : 0 < nI (m + 1) := by rw [int_0]; exact nI_lt (by omega) (by omega)
    have key : ∀ q i (jk : Option Value), i + q = below → z_ev E i_X_leastHoursFor (lv + 1) 18 [some (.ref (x + 35)), some (.int (nI v)), some (.int (nI (m + 1))), some (.int (nI below)), some (.int (nI i)), jk] [] N k G = some (some (.int (lhS (fun top => lhP s m (fun b => U b && !(hm (sK s b) (sF s b) top)) top) q i)), N, k, G) := by
      intro q
      induction q with
      | zero =>
        intro i jk hi
        have : i = below := by omega
        subst this
        have c : nI i ≤ nI i := nI_le (Nat.le_refl _) (by omega)
        simp only [zr_X_leastHoursFor_18, zr_X_leastHoursFor_20, zr_X_leastHoursFor_21, zr_X_leastHoursFor_69, zr_X_leastHoursFor_71, c, z_obs, z_pu_s, z_pu_n, z00, z10, ↓reduceIte, true_or, or_true, z_b_t, z_b_f]
        rfl
      | succ q ihq =>
        intro i jk hi
        have c1 : ¬ nI below ≤ nI i := nI_ge (by omega) (by omega)
        have c2 : ¬ nI 24 ≤ nI i := nI_ge (by omega) (by omega)
        obtain ⟨wv, e1, e2, e3, e4⟩ := hmI_num w i
        obtain ⟨a1, a2⟩ := an6 v hv wv e1
        have hr := ih lv (v &&& (63 - wv)) (fun b => U b && !(hm (sK s b) (sF s b) i)) i (by omega) (by omega) a2 (by omega) (fun b hb => by
          rw [an6b v hv wv e1 b hb, hU b hb]
          by_cases hbs : b < s 0
          · rw [e4 b hbs, Bool.and_assoc]
          · rw [decide_eq_false hbs]; rfl)
        have hai : z_ai E G (x + 35) (nI i) = some (nI wv) := by rw [z_aiI hg (show i < 24 by omega) (by decide), hq i (by omega), e2]
        unfold lhS
        by_cases h0 : 0 ≤ lhP s m (fun b => U b && !(hm (sK s b) (sF s b) i)) i
        · have cn : ¬ lhP s m (fun b => U b && !(hm (sK s b) (sF s b) i)) i < 0 := Int32.not_lt.mpr h0
          rw [if_pos h0, zr_X_leastHoursFor_18]
          simp only [zr_X_leastHoursFor_20, zr_X_leastHoursFor_21, zr_X_leastHoursFor_24, zr_X_leastHoursFor_26, zr_X_leastHoursFor_26n, zr_X_leastHoursFor_27, zr_X_leastHoursFor_28, zr_X_leastHoursFor_31, zr_X_leastHoursFor_31n, zr_X_leastHoursFor_32, zr_X_leastHoursFor_33, zr_X_leastHoursFor_33n, zr_X_leastHoursFor_34, zr_X_leastHoursFor_36, zr_X_leastHoursFor_37, zr_X_leastHoursFor_38, zr_X_leastHoursFor_39, zr_X_leastHoursFor_40, zr_X_leastHoursFor_41, zr_X_leastHoursFor_42, zr_X_leastHoursFor_43, zr_X_leastHoursFor_45, zr_X_leastHoursFor_48, zr_X_leastHoursFor_50, zr_X_leastHoursFor_52, zr_X_leastHoursFor_55, zr_X_leastHoursFor_57, zr_X_leastHoursFor_58, zr_X_leastHoursFor_60, zr_X_leastHoursFor_61, zr_X_leastHoursFor_62, zr_X_leastHoursFor_63, zr_X_leastHoursFor_66, c1, c2, int_24, z_anI hg, hai, a1, pk_m1' (show 1 ≤ m + 1 by omega), Nat.add_sub_cancel, hr, cn, z_obs, z_pu_s, z_pu_n, z00, z10, ↓reduceIte, true_or, or_true, z_b_t, z_b_f]
        · have cn : lhP s m (fun b => U b && !(hm (sK s b) (sF s b) i)) i < 0 := Int32.not_le.mp h0
          rw [if_neg h0, ← ihq (i + 1) (some (.int (lhP s m (fun b => U b && !(hm (sK s b) (sF s b) i)) i))) (by omega), zr_X_leastHoursFor_18]
          simp only [zr_X_leastHoursFor_20, zr_X_leastHoursFor_21, zr_X_leastHoursFor_24, zr_X_leastHoursFor_26, zr_X_leastHoursFor_26n, zr_X_leastHoursFor_27, zr_X_leastHoursFor_28, zr_X_leastHoursFor_31, zr_X_leastHoursFor_31n, zr_X_leastHoursFor_32, zr_X_leastHoursFor_33, zr_X_leastHoursFor_33n, zr_X_leastHoursFor_34, zr_X_leastHoursFor_36, zr_X_leastHoursFor_37, zr_X_leastHoursFor_38, zr_X_leastHoursFor_39, zr_X_leastHoursFor_40, zr_X_leastHoursFor_41, zr_X_leastHoursFor_42, zr_X_leastHoursFor_43, zr_X_leastHoursFor_45, zr_X_leastHoursFor_48, zr_X_leastHoursFor_50, zr_X_leastHoursFor_52, zr_X_leastHoursFor_55, zr_X_leastHoursFor_57, zr_X_leastHoursFor_58, zr_X_leastHoursFor_60, zr_X_leastHoursFor_61, zr_X_leastHoursFor_62, zr_X_leastHoursFor_63, zr_X_leastHoursFor_66, c1, c2, int_24, z_anI hg, hai, a1, pk_m1' (show 1 ≤ m + 1 by omega), Nat.add_sub_cancel, hr, cn, z_obs, z_pu_s, z_pu_n, z00, z10, ↓reduceIte, true_or, or_true, z_b_t, z_b_f, nI_1]
    have := key below 0 none (by omega)
    unfold lhP
    rw [← this]
    simp only [zm_X_leastHoursFor, zr_X_leastHoursFor_0, zr_X_leastHoursFor_1, zr_X_leastHoursFor_4, zr_X_leastHoursFor_5, zr_X_leastHoursFor_8, zr_X_leastHoursFor_9, zr_X_leastHoursFor_12, zr_X_leastHoursFor_14, zr_X_leastHoursFor_15, zr_X_leastHoursFor_16, c, z_obs, z_pu_s, z_pu_n, z00, z10, ↓reduceIte, true_or, or_true, z_b_t, z_b_f]
    rfl
theorem XW.up35 (h : XW G x s ib u hs n) {g : Nat → Int32} : XW (z_up G (x + 35) (.inr (.int, 24, .inl g))) x s ib u hs n := by
  have e : ∀ q, q ≠ x + 35 → z_up G (x + 35) (.inr (.int, 24, .inl g)) q = G q := fun q hq => z_up_n _ _ hq
  exact h.sc (fun q hq => e q (by omega)) (by rw [e _ (by omega)]; exact h.er) (by rw [e _ (by omega)]; exact h.e1) (by rw [e _ (by omega)]; exact h.e2) (by rw [e _ (by omega)]; exact h.e3) ⟨g, z_up_s _ _ _⟩ (by rw [e _ (by omega)]; exact h.h2) (by rw [e _ (by omega)]; exact h.h3)
theorem xForAll (lv : Nat) (h : XW G x s ib u hs n) (w : WF s) : ∃ G', z_evM E i_X_forAll lv [.ref x] N k G = some (some (.int (aForAll s)), N, k, G') ∧ XW G' x s ib u hs n ∧ XF x G G' := by
  have w1 := w.1
  obtain ⟨g0, hg0⟩ := h.h1
  have l1 : ∀ m i G1 g, i + m = 24 → XW G1 x s ib u hs n → FR (x + 35) 1 G G1 → G1 (x + 35) = some (.inr (.int, 24, .inl g)) → (∀ t, t < i → g t = hmI s t) → ∃ G', z_ev E i_X_forAll lv 2 [some (.ref x), some (.int (nI i)), none, none] [] N k G1 = z_ev E i_X_forAll lv 28 [some (.ref x), some (.int (nI 24)), none, none] [] N k G' ∧ XW G' x s ib u hs n ∧ FR (x + 35) 1 G G' ∧ ∃ g, G' (x + 35) = some (.inr (.int, 24, .inl g)) ∧ ∀ t, t < 24 → g t = hmI s t := by
    intro m
    induction m with
    | zero =>
      intro i G1 g hi hX hF hg hq
      have : i = 24 := by omega
      subst this
      have c : nI 24 ≤ nI 24 := nI_le (Nat.le_refl _) (by omega)
      refine ⟨G1, ?_, hX, hF, g, hg, hq⟩
      simp only [zr_X_forAll_2, zr_X_forAll_3, zr_X_forAll_5, int_24, c, z_obs, z_pu_s, z_pu_n, z00, z10, ↓reduceIte, true_or, or_true, z_b_t, z_b_f]
    | succ m ih =>
      intro i G1 g hi hX hF hg hq
      have c : ¬ nI 24 ≤ nI i := nI_ge (by omega) (by omega)
      have hp := z_piI (x := hmI s i) (j := i) hg (by omega) (by decide)
      obtain ⟨G', k1, k2⟩ := ih (i + 1) (z_up G1 (x + 35) (.inr (.int, 24, .inl (upd g i (hmI s i))))) (upd g i (hmI s i)) (by omega) hX.up35 (fun q hq => by rw [z_up_n _ _ (by omega)]; exact hF q hq) (z_up_s _ _ _) (fun t ht => by
        unfold upd
        by_cases e : t = i
        · rw [if_pos e, e]
        · rw [if_neg e]; exact hq t (by omega))
      refine ⟨G', ?_, k2⟩
      rw [← k1, zr_X_forAll_2]
      simp only [zr_X_forAll_3, zr_X_forAll_5, zr_X_forAll_8, zr_X_forAll_9, zr_X_forAll_12, zr_X_forAll_13, zr_X_forAll_14, zr_X_forAll_17, zr_X_forAll_18, zr_X_forAll_21, zr_X_forAll_22, zr_X_forAll_25, int_24, c, hX.f8, hX.f0, hX.now.cls, sM_homeAt _ _ _ hX.now w (show i < 24 by omega), hp, z_obs, z_pu_s, z_pu_n, z00, z10, ↓reduceIte, true_or, or_true, z_b_t, z_b_f, nI_1]
  obtain ⟨G1, a1, hX, hF, g, hg, hq⟩ := l1 24 0 G g0 (by omega) h FR.rf hg0 (fun t ht => absurd ht (Nat.not_lt_zero t))
  refine ⟨G1, ?_, hX, hF.xf (by omega) (by omega)⟩
  obtain ⟨b1, b2, b3⟩ := al6 (s 0) (by omega)
  have hl : ∀ m, m ≤ 3 → z_evM E i_X_leastHoursFor 3 [.ref (x + 35), .int (nI (2 ^ s 0 - 1)), .int (nI m), .int (nI 24)] N k G1 = some (some (.int (lhP s m (fun _ => true) 24)), N, k, G1) := fun m hm => sX_least N k hX w hg hq m 3 (2 ^ s 0 - 1) (fun _ => true) 24 hm hm b2 (Nat.le_refl _) (fun b hb => by rw [b3 b hb, Bool.and_true])
  have st : ∀ m q, m ≤ 3 → q < 0 → z_ev E i_X_forAll lv 45 [some (.ref x), some (.int (nI (2 ^ s 0 - 1))), some (.int q), some (.int (nI m))] [] N k G1 = z_ev E i_X_forAll lv 45 [some (.ref x), some (.int (nI (2 ^ s 0 - 1))), some (.int (lhP s m (fun _ => true) 24)), some (.int (nI (m + 1)))] [] N k G1 := fun m q hm hq0 => by
    have c : ¬ nI 3 < nI m := nI_nlt hm (by omega)
    have c0 : ¬ 0 ≤ q := Int32.not_le.mpr hq0
    rw [zr_X_forAll_45]
    simp only [zr_X_forAll_46, zr_X_forAll_47, zr_X_forAll_50, zr_X_forAll_51, zr_X_forAll_54, zr_X_forAll_55, zr_X_forAll_58, zr_X_forAll_59, zr_X_forAll_60, zr_X_forAll_62, zr_X_forAll_65, zr_X_forAll_66, zr_X_forAll_69, show (3 : Int32) = nI 3 from rfl, c, c0, int_24, hX.f8, hl m hm, z_obs, z_pu_s, z_pu_n, z00, z10, ↓reduceIte, true_or, or_true, z_b_t, z_b_f, nI_1]
  have en : ∀ m q, m ≤ 4 → (0 ≤ q ∨ m = 4) → z_ev E i_X_forAll lv 45 [some (.ref x), some (.int (nI (2 ^ s 0 - 1))), some (.int q), some (.int (nI m))] [] N k G1 = some (some (.int q), N, k, G1) := fun m q hm hq0 => by
    by_cases h4 : m = 4
    · subst h4
      have c : nI 3 < nI 4 := nI_lt (by omega) (by omega)
      simp only [zr_X_forAll_45, zr_X_forAll_46, zr_X_forAll_47, zr_X_forAll_72, zr_X_forAll_73, show (3 : Int32) = nI 3 from rfl, c, z_obs, z_pu_s, z_pu_n, z00, z10, ↓reduceIte, true_or, or_true, z_b_t, z_b_f]
    · have c : ¬ nI 3 < nI m := nI_nlt (by omega) (by omega)
      have c0 : 0 ≤ q := by
        rcases hq0 with q1 | q1
        · exact q1
        · exact absurd q1 h4
      simp only [zr_X_forAll_45, zr_X_forAll_46, zr_X_forAll_47, zr_X_forAll_50, zr_X_forAll_51, zr_X_forAll_72, zr_X_forAll_73, show (3 : Int32) = nI 3 from rfl, c, c0, z_obs, z_pu_s, z_pu_n, z00, z10, ↓reduceIte, true_or, or_true, z_b_t, z_b_f]
  have start : z_evM E i_X_forAll lv [.ref x] N k G = z_ev E i_X_forAll lv 45 [some (.ref x), some (.int (nI (2 ^ s 0 - 1))), some (.int (-4)), some (.int (nI 0))] [] N k G1 := by
    simp only [zm_X_forAll, zr_X_forAll_0, zr_X_forAll_1]
    rw [int_0, a1]
    simp only [zr_X_forAll_28, zr_X_forAll_29, zr_X_forAll_30, zr_X_forAll_33, zr_X_forAll_36, zr_X_forAll_37, zr_X_forAll_38, zr_X_forAll_39, zr_X_forAll_40, zr_X_forAll_42, zr_X_forAll_43, zr_X_forAll_44, hX.f0, hX.now.f8, b1, z_obs, z_pu_s, z_pu_n, z00, z10, ↓reduceIte, true_or, or_true, z_b_t, z_b_f]
    rfl
  rw [start, st 0 (-4) (by omega) (by decide)]
  unfold aForAll
  by_cases h0 : 0 ≤ lhP s 0 (fun _ => true) 24
  · rw [if_pos h0, en 1 _ (by omega) (Or.inl h0)]
  · rw [if_neg h0, st 1 _ (by omega) (Int32.not_le.mp h0)]
    by_cases h1 : 0 ≤ lhP s 1 (fun _ => true) 24
    · rw [if_pos h1, en 2 _ (by omega) (Or.inl h1)]
    · rw [if_neg h1, st 2 _ (by omega) (Int32.not_le.mp h1)]
      by_cases h2 : 0 ≤ lhP s 2 (fun _ => true) 24
      · rw [if_pos h2, en 3 _ (by omega) (Or.inl h2)]
      · rw [if_neg h2, st 3 _ (by omega) (Int32.not_le.mp h2), en 4 _ (by omega) (Or.inr rfl)]
end
