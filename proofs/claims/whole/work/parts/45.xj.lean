/-! THE CLASS: odds -/
def sumTo (f : Nat → Nat) : Nat → Nat
  | 0 => 0
  | m + 1 => sumTo f m + f m
theorem foldN_snoc {α : Type} (f : Nat → α → α) : ∀ m i a, foldN f (m + 1) i a = f (i + m) (foldN f m i a) := by
  intro m
  induction m with
  | zero => intro i a; rfl
  | succ m ih => intro i a; show foldN f (m + 1) (i + 1) (f i a) = _; rw [ih (i + 1) (f i a), show i + 1 + m = i + (m + 1) by omega]; rfl
theorem foldN_sum (f : Nat → Nat) : ∀ m, foldN (fun r acc => acc + f r) m 0 0 = sumTo f m := by
  intro m
  induction m with
  | zero => rfl
  | succ m ih => rw [foldN_snoc, ih, Nat.zero_add]; rfl
/-- in how many ways none opens in so many hours, rung so often -/
def cN (W t : Nat) : Nat → Nat → Nat
  | 0, _ => 1
  | m + 1, r => cN W t m 0 + (t - 1) * (if r + 1 < W then cN W t m (r + 1) else 0)
theorem cN_le (W t : Nat) (ht : 1 ≤ t) : ∀ m r, cN W t m r ≤ t ^ m := by
  intro m
  induction m with
  | zero => intro r; exact Nat.le_refl _
  | succ m ih =>
    intro r
    unfold cN
    have h1 := ih 0
    have h2 : (if r + 1 < W then cN W t m (r + 1) else 0) ≤ t ^ m := by
      split
      · exact ih (r + 1)
      · omega
    have h3 : (t - 1) * (if r + 1 < W then cN W t m (r + 1) else 0) ≤ (t - 1) * t ^ m := Nat.mul_le_mul_left _ h2
    have h4 : t ^ (m + 1) = t ^ m + (t - 1) * t ^ m := by
      rw [Nat.pow_succ, Nat.mul_comm]
      obtain ⟨q, rfl⟩ : ∃ q, t = q + 1 := ⟨t - 1, by omega⟩
      rw [Nat.add_mul, Nat.one_mul, Nat.add_sub_cancel, Nat.add_comm]
    omega
def wsN (W t : Nat) (f : Nat → Nat) : Nat → Nat := fun r => if r = 0 then sumTo f 10 else if r < W then f (r - 1) * (t - 1) else 0
theorem ws_part (W t : Nat) (f c : Nat → Nat) : ∀ m, sumTo (fun r => wsN W t f r * c r) (m + 1) = sumTo f 10 * c 0 + sumTo (fun r => f r * ((t - 1) * (if r + 1 < W then c (r + 1) else 0))) m := by
  intro m
  induction m with
  | zero => show 0 + wsN W t f 0 * c 0 = _; rw [Nat.zero_add]; rfl
  | succ m ih =>
    show sumTo (fun r => wsN W t f r * c r) (m + 1) + wsN W t f (m + 1) * c (m + 1) = sumTo f 10 * c 0 + (sumTo _ m + f m * ((t - 1) * (if m + 1 < W then c (m + 1) else 0)))
    rw [ih, Nat.add_assoc]
    congr 2
    unfold wsN
    rw [if_neg (by omega)]
    split
    · rw [Nat.add_sub_cancel, Nat.mul_assoc]
    · simp
theorem sum_split (f g : Nat → Nat) (c0 : Nat) : ∀ m, sumTo (fun r => f r * (c0 + g r)) m = sumTo f m * c0 + sumTo (fun r => f r * g r) m := by
  intro m
  induction m with
  | zero => simp [sumTo]
  | succ m ih =>
    show sumTo _ m + f m * (c0 + g m) = (sumTo f m + f m) * c0 + (sumTo _ m + f m * g m)
    rw [ih, Nat.mul_add, Nat.add_mul]
    omega
theorem ws_sum {W t : Nat} (hW : W ≤ 10) (f : Nat → Nat) (m : Nat) : sumTo (fun r => wsN W t f r * cN W t m r) 10 = sumTo (fun r => f r * cN W t (m + 1) r) 10 := by
  rw [ws_part W t f (cN W t m) 9]
  show _ = sumTo (fun r => f r * (cN W t m 0 + (t - 1) * (if r + 1 < W then cN W t m (r + 1) else 0))) 10
  rw [sum_split]
  show _ = sumTo f 10 * cN W t m 0 + (sumTo _ 9 + f 9 * ((t - 1) * (if 9 + 1 < W then cN W t m (9 + 1) else 0)))
  rw [if_neg (by omega)]
  simp
theorem ws_it {W t : Nat} (hW : W ≤ 10) : ∀ m i f, sumTo (foldN (fun _ g => wsN W t g) m i f) 10 = sumTo (fun r => f r * cN W t m r) 10 := by
  intro m
  induction m with
  | zero =>
    intro i f
    show sumTo f 10 = sumTo (fun r => f r * 1) 10
    congr 1
    funext r
    rw [Nat.mul_one]
  | succ m ih =>
    intro i f
    show sumTo (foldN (fun _ g => wsN W t g) m (i + 1) (wsN W t f)) 10 = _
    rw [ih, ws_sum hW]
theorem one_sum (c : Nat → Nat) (r0 : Nat) : ∀ m, sumTo (fun r => (if r = r0 then 1 else 0) * c r) m = if r0 < m then c r0 else 0 := by
  intro m
  induction m with
  | zero => simp [sumTo]
  | succ m ih =>
    show sumTo _ m + (if m = r0 then 1 else 0) * c m = _
    rw [ih]
    by_cases e : m = r0
    · subst e; simp
    · rw [if_neg e]
      by_cases h : r0 < m
      · rw [if_pos h, if_pos (by omega)]; omega
      · rw [if_neg h, if_neg (by omega)]; omega
def aOdds (s : Nat → Nat) (b m t y : Int32) : Int64 := if isB s b = true ∧ inAB m 0 8 = true ∧ inAB t 2 20 = true ∧ is01 y = true then prF (jN t ^ jN m - cN (sW s (jN b)) (jN t) (jN m) (sR s (jN b))) (jN t ^ jN m) y else lN 1000000001
theorem z_alI {G : z_H} {a M j : Nat} {f : Nat → Int64} (h : G a = some (.inr (.long, M, .inr (.inl f)))) (hj : j < M) (hM : M < 2 ^ 31) : z_al G a (nI j) = some (f j) := by
  unfold z_al
  simp only [h]
  rw [if_neg (by rw [z_out_nI hj hM]; decide), nI_clamp (by omega)]
theorem z_plI {G : z_H} {a M j : Nat} {f : Nat → Int64} {v : Int64} (h : G a = some (.inr (.long, M, .inr (.inl f)))) (hj : j < M) (hM : M < 2 ^ 31) : z_pl G a (nI j) v = some (z_up G a (.inr (.long, M, .inr (.inl (vp_updL f j v))))) := by
  unfold z_pl
  simp only [h]
  rw [if_neg (by rw [z_out_nI hj hM]; decide), nI_clamp (by omega)]
/-- the ways by how often one is rung -/
def LA (G : z_H) (a : Nat) (f : Nat → Nat) : Prop := ∃ g, G a = some (.inr (.long, 10, .inr (.inl g))) ∧ ∀ r, r < 10 → g r = lN (f r)
section
variable {E : z_E} {G G0 : z_H} {x : Nat} {s u : Nat → Nat} {ib : Bool} {hs : Nat → Sh} {n : Nat} (lv N k : Nat)
theorem LA.rd {a : Nat} {f : Nat → Nat} (h : LA G a f) {j : Nat} (hj : j < 10) : z_al G a (nI j) = some (lN (f j)) := by
  obtain ⟨g, h1, h2⟩ := h
  rw [z_alI h1 hj (by decide), h2 j hj]
theorem LA.wr {a : Nat} {f : Nat → Nat} (h : LA G a f) {j : Nat} (hj : j < 10) (v : Nat) : ∃ G', z_pl G a (nI j) (lN v) = some G' ∧ LA G' a (fun r => if r = j then v else f r) ∧ FR a 1 G G' := by
  obtain ⟨g, h1, h2⟩ := h
  refine ⟨_, z_plI h1 hj (by decide), ⟨_, z_up_s _ _ _, fun r hr => ?_⟩, fun q hq => z_up_n _ _ (by omega)⟩
  unfold vp_updL
  dsimp only
  by_cases e : r = j
  · rw [if_pos e, if_pos e]
  · rw [if_neg e, if_neg e]; exact h2 r hr
theorem LA.congr {a : Nat} {f g : Nat → Nat} (h : LA G a f) (e : ∀ r, r < 10 → f r = g r) : LA G a g := by
  obtain ⟨q, h1, h2⟩ := h
  exact ⟨q, h1, fun r hr => by rw [h2 r hr, e r hr]⟩
/-- the class's world, and only that row is unlike -/
def XL (G0 : z_H) (x : Nat) (s : Nat → Nat) (ib : Bool) (u : Nat → Nat) (hs : Nat → Sh) (n : Nat) (f : Nat → Nat) (G : z_H) : Prop := XW G x s ib u hs n ∧ FR (x + 37) 1 G0 G ∧ LA G (x + 37) f
theorem XL.wr {f : Nat → Nat} (h : XL G0 x s ib u hs n f G) {j : Nat} (hj : j < 10) (v : Nat) : ∃ G', z_pl G (x + 37) (nI j) (lN v) = some G' ∧ XL G0 x s ib u hs n (fun r => if r = j then v else f r) G' := by
  obtain ⟨h1, h2, h3⟩ := h
  obtain ⟨G', g1, g2, g3⟩ := h3.wr hj v
  have e : ∀ q, q ≠ x + 37 → G' q = G q := fun q hq => g3 q (by omega)
  refine ⟨G', g1, h1.sc (fun q hq => e q (by omega)) (by rw [e _ (by omega)]; exact h1.er) (by rw [e _ (by omega)]; exact h1.e1) (by rw [e _ (by omega)]; exact h1.e2) (by rw [e _ (by omega)]; exact h1.e3) (by rw [e _ (by omega)]; exact h1.h1) (by rw [e _ (by omega)]; exact h1.h2) ?_, h2.tr g3, g2⟩
  obtain ⟨g, q1, q2⟩ := g2
  exact ⟨g, q1⟩
theorem sX_allClosed {f : Nat → Nat} (h : XL G0 x s ib u hs n f G) : z_evM E i_X_allClosed lv [.ref x] N k G = some (some (.long (lN (sumTo f 10))), N, k, G) := by
  rw [← foldN_sum]
  simp only [zm_X_allClosed, zr_X_allClosed_0, zr_X_allClosed_1, zr_X_allClosed_2, zr_X_allClosed_3]
  refine z_loop (fun i acc => z_ev E i_X_allClosed lv 4 [some (.ref x), some (.long (lN acc)), none, some (.int (nI i))] [] N k G) (fun r acc => acc + f r) 10 (fun acc => some (some (.long (lN acc)), N, k, G)) ?_ ?_ 10 0 0 (by omega)
  · intro acc
    have c : nI 10 ≤ nI 10 := nI_le (Nat.le_refl _) (by omega)
    simp only [zr_X_allClosed_0, zr_X_allClosed_1, zr_X_allClosed_2, zr_X_allClosed_3, zr_X_allClosed_4, zr_X_allClosed_5, zr_X_allClosed_7, zr_X_allClosed_10, zr_X_allClosed_11, zr_X_allClosed_12, zr_X_allClosed_15, zr_X_allClosed_16, zr_X_allClosed_17, zr_X_allClosed_18, zr_X_allClosed_19, zr_X_allClosed_22, zr_X_allClosed_25, zr_X_allClosed_26, int_10, c, z_obs, z_pu_s, z_pu_n, z00, z10, ↓reduceIte, true_or, or_true, z_b_t, z_b_f]
  · intro i acc hi
    have c : ¬ nI 10 ≤ nI i := nI_ge hi (by omega)
    rw [zr_X_allClosed_4]
    simp only [zr_X_allClosed_0, zr_X_allClosed_1, zr_X_allClosed_2, zr_X_allClosed_3, zr_X_allClosed_5, zr_X_allClosed_7, zr_X_allClosed_10, zr_X_allClosed_11, zr_X_allClosed_12, zr_X_allClosed_15, zr_X_allClosed_16, zr_X_allClosed_17, zr_X_allClosed_18, zr_X_allClosed_19, zr_X_allClosed_22, zr_X_allClosed_25, zr_X_allClosed_26, int_10, c, h.1.f10, h.2.2.rd hi, z_obs, z_pu_s, z_pu_n, z00, z10, ↓reduceIte, true_or, or_true, z_b_t, z_b_f, nI_1, lN_add]
theorem sX_ways (h : XW G x s ib u hs n) (w : WF s) {j m t : Nat} (hj : j < s 0) (hm : m ≤ 8) (ht1 : 1 ≤ t) (ht : t ≤ 20) : ∃ G', z_evM E i_X_waysStayingClosed lv [.ref x, .int (nI j), .int (nI m), .int (nI t)] N k G = some (some (.long (lN (cN (sW s j) t m (sR s j)))), N, k, G') ∧ XW G' x s ib u hs n ∧ XF x G G' := by
  obtain ⟨q1, q2, q3, q4, q5⟩ := w.2.2.2 j hj
  have hW : sW s j ≤ 10 := (wt_le _ q1 _ q2).2.1
  obtain ⟨g0, hg0⟩ := h.h3
  have hmin : (if nI (sW s j) < nI 10 then nI (sW s j) else nI 10) = nI (sW s j) := by
    by_cases e : sW s j < 10
    · rw [if_pos (nI_lt e (by omega))]
    · rw [show sW s j = 10 by omega, if_neg (nI_nlt (Nat.le_refl _) (by omega))]
  -- all to nothing but one
  have l1 : ∀ m1 i G1 (j7 j8 j9 : Option Value), i + m1 = 10 → XW G1 x s ib u hs n → FR (x + 37) 1 G G1 → (∃ g, G1 (x + 37) = some (.inr (.long, 10, .inr (.inl g))) ∧ ∀ r, r < i → g r = lN (if r = sR s j then 1 else 0)) → ∃ G', z_ev E i_X_waysStayingClosed lv 28 [some (.ref x), some (.int (nI j)), some (.int (nI m)), some (.int (nI t)), some (.int (nI (sW s j))), some (.int (nI (sR s j))), some (.int (nI i)), j7, j8, j9] [] N k G1 = z_ev E i_X_waysStayingClosed lv 60 [some (.ref x), some (.int (nI j)), some (.int (nI m)), some (.int (nI t)), some (.int (nI (sW s j))), some (.int (nI (sR s j))), some (.int (nI 10)), j7, j8, j9] [] N k G' ∧ XL G x s ib u hs n (fun r => if r = sR s j then 1 else 0) G' := by
    intro m1
    induction m1 with
    | zero =>
      intro i G1 j7 j8 j9 hi hX hF hg
      have : i = 10 := by omega
      subst this
      have c : nI 10 ≤ nI 10 := nI_le (Nat.le_refl _) (by omega)
      refine ⟨G1, ?_, hX, hF, hg⟩
      simp only [zr_X_waysStayingClosed_28, zr_X_waysStayingClosed_30, zr_X_waysStayingClosed_32, int_10, c, z_obs, z_pu_s, z_pu_n, z00, z10, ↓reduceIte, true_or, or_true, z_b_t, z_b_f]
    | succ m1 ih =>
      intro i G1 j7 j8 j9 hi hX hF ⟨g, hg, hr⟩
      have c : ¬ nI 10 ≤ nI i := nI_ge (by omega) (by omega)
      have hv : z_pl G1 (x + 37) (nI i) (lN (if i = sR s j then 1 else 0)) = some (z_up G1 (x + 37) (.inr (.long, 10, .inr (.inl (vp_updL g i (lN (if i = sR s j then 1 else 0))))))) := z_plI hg (by omega) (by decide)
      have e : ∀ q, q ≠ x + 37 → z_up G1 (x + 37) (.inr (.long, 10, .inr (.inl (vp_updL g i (lN (if i = sR s j then 1 else 0)))))) q = G1 q := fun q hq => z_up_n _ _ hq
      obtain ⟨G', k1, k2⟩ := ih (i + 1) (z_up G1 (x + 37) (.inr (.long, 10, .inr (.inl (vp_updL g i (lN (if i = sR s j then 1 else 0))))))) j7 j8 j9 (by omega) (hX.sc (fun q hq => e q (by omega)) (by rw [e _ (by omega)]; exact hX.er) (by rw [e _ (by omega)]; exact hX.e1) (by rw [e _ (by omega)]; exact hX.e2) (by rw [e _ (by omega)]; exact hX.e3) (by rw [e _ (by omega)]; exact hX.h1) (by rw [e _ (by omega)]; exact hX.h2) ⟨_, z_up_s _ _ _⟩) (fun q hq => by rw [e q (by omega)]; exact hF q hq) ⟨_, z_up_s _ _ _, fun r hr' => by
        unfold vp_updL
        by_cases er : r = i
        · rw [if_pos er, er]
        · rw [if_neg er]; exact hr r (by omega)⟩
      refine ⟨G', ?_, k2⟩
      rw [← k1, zr_X_waysStayingClosed_28]
      by_cases ei : i = sR s j
      · have ce : (nI i = nI (sR s j)) = True := eq_true (by rw [ei])
        rw [if_pos ei] at hv
        rw [if_pos ei]
        simp only [zr_X_waysStayingClosed_30, zr_X_waysStayingClosed_32, zr_X_waysStayingClosed_35, zr_X_waysStayingClosed_36, zr_X_waysStayingClosed_39, zr_X_waysStayingClosed_41, zr_X_waysStayingClosed_43, zr_X_waysStayingClosed_45, zr_X_waysStayingClosed_48, zr_X_waysStayingClosed_49, zr_X_waysStayingClosed_52, zr_X_waysStayingClosed_53, zr_X_waysStayingClosed_54, zr_X_waysStayingClosed_57, int_10, c, hX.f10, ce, lN_one, hv, z_obs, z_pu_s, z_pu_n, z00, z10, ↓reduceIte, true_or, or_true, z_b_t, z_b_f, nI_1]
      · have ce : (nI i = nI (sR s j)) = False := eq_false (fun z => ei ((nI_eq (by omega) (by omega)).mp z))
        rw [if_neg ei] at hv
        rw [if_neg ei]
        simp only [zr_X_waysStayingClosed_30, zr_X_waysStayingClosed_32, zr_X_waysStayingClosed_35, zr_X_waysStayingClosed_36, zr_X_waysStayingClosed_39, zr_X_waysStayingClosed_41, zr_X_waysStayingClosed_43, zr_X_waysStayingClosed_45, zr_X_waysStayingClosed_48, zr_X_waysStayingClosed_49, zr_X_waysStayingClosed_52, zr_X_waysStayingClosed_53, zr_X_waysStayingClosed_54, zr_X_waysStayingClosed_57, int_10, c, hX.f10, ce, lN_0, hv, z_obs, z_pu_s, z_pu_n, z00, z10, ↓reduceIte, true_or, or_true, z_b_t, z_b_f, nI_1]
  -- an hour
  have l2 : ∀ r f G1 i A, r < 10 → ∀ F, XL G x s ib u hs n F G1 → (∀ q, q < 10 → F q = if r < q then wsN (sW s j) t f q else f q) → ∃ G', z_ev E i_X_waysStayingClosed lv 79 [some (.ref x), some (.int (nI j)), some (.int (nI m)), some (.int (nI t)), some (.int (nI (sW s j))), some (.int (nI (sR s j))), some (.int (nI i)), some (.long (lN A)), none, some (.int (nI r))] [] N k G1 = z_ev E i_X_waysStayingClosed lv 122 [some (.ref x), some (.int (nI j)), some (.int (nI m)), some (.int (nI t)), some (.int (nI (sW s j))), some (.int (nI (sR s j))), some (.int (nI i)), some (.long (lN A)), none, some (.int (nI 0))] [] N k G' ∧ ∃ F', XL G x s ib u hs n F' G' ∧ ∀ q, q < 10 → F' q = if 0 < q then wsN (sW s j) t f q else f q := by
    intro r
    induction r with
    | zero =>
      intro f G1 i A _ F hX hF
      have c : nI 0 ≤ 0 := Int32.le_refl _
      refine ⟨G1, ?_, F, hX, hF⟩
      simp only [zr_X_waysStayingClosed_79, zr_X_waysStayingClosed_81, c, z_obs, z_pu_s, z_pu_n, z00, z10, ↓reduceIte, true_or, or_true, z_b_t, z_b_f]
    | succ r ih =>
      intro f G1 i A hr F hX hF
      have c : ¬ nI (r + 1) ≤ 0 := nI_nle (by omega) (by omega)
      have hm1 : nI (r + 1) + (-1) = nI r := pk_m1 r
      have hfr : F r = f r := by rw [hF r (by omega), if_neg (by omega)]
      by_cases hlt : r + 1 < sW s j
      · have c2 : ¬ nI (sW s j) ≤ nI (r + 1) := nI_ge hlt (by omega)
        obtain ⟨G2, p1, p2⟩ := hX.wr (j := r + 1) hr (f r * (t - 1))
        obtain ⟨G', k1, k2⟩ := ih f G2 i A (by omega) _ p2 (fun q hq => by
          by_cases e : q = r + 1
          · subst e; rw [if_pos rfl, if_pos (by omega)]; unfold wsN; rw [if_neg (by omega), if_pos hlt, Nat.add_sub_cancel]
          · rw [if_neg e, hF q hq]
            by_cases e2 : r + 1 < q
            · rw [if_pos e2, if_pos (by omega)]
            · rw [if_neg e2, if_neg (by omega)])
        refine ⟨G', ?_, k2⟩
        have hrd : z_al G1 (x + 37) (nI r) = some (lN (f r)) := by rw [hX.2.2.rd (by omega), hfr]
        rw [← k1, zr_X_waysStayingClosed_79]
        simp only [zr_X_waysStayingClosed_81, zr_X_waysStayingClosed_84, zr_X_waysStayingClosed_85, zr_X_waysStayingClosed_88, zr_X_waysStayingClosed_90, zr_X_waysStayingClosed_92, zr_X_waysStayingClosed_94, zr_X_waysStayingClosed_97, zr_X_waysStayingClosed_98, zr_X_waysStayingClosed_101, zr_X_waysStayingClosed_103, zr_X_waysStayingClosed_104, zr_X_waysStayingClosed_105, zr_X_waysStayingClosed_106, zr_X_waysStayingClosed_107, zr_X_waysStayingClosed_108, zr_X_waysStayingClosed_109, zr_X_waysStayingClosed_110, zr_X_waysStayingClosed_111, zr_X_waysStayingClosed_114, zr_X_waysStayingClosed_115, zr_X_waysStayingClosed_116, zr_X_waysStayingClosed_119, c, c2, hX.1.f10, pk_m1' (show 1 ≤ r + 1 by omega), Nat.add_sub_cancel, hrd, pk_m1' ht1, nI_l (show t - 1 < 2 ^ 31 by omega), lN_mul, p1, z_obs, z_pu_s, z_pu_n, z00, z10, ↓reduceIte, true_or, or_true, z_b_t, z_b_f, hm1]
      · have c2 : nI (sW s j) ≤ nI (r + 1) := nI_le (by omega) (by omega)
        obtain ⟨G2, p1, p2⟩ := hX.wr (j := r + 1) hr 0
        obtain ⟨G', k1, k2⟩ := ih f G2 i A (by omega) _ p2 (fun q hq => by
          by_cases e : q = r + 1
          · subst e; rw [if_pos rfl, if_pos (by omega)]; unfold wsN; rw [if_neg (by omega), if_neg hlt]
          · rw [if_neg e, hF q hq]
            by_cases e2 : r + 1 < q
            · rw [if_pos e2, if_pos (by omega)]
            · rw [if_neg e2, if_neg (by omega)])
        refine ⟨G', ?_, k2⟩
        rw [← k1, zr_X_waysStayingClosed_79]
        simp only [zr_X_waysStayingClosed_81, zr_X_waysStayingClosed_84, zr_X_waysStayingClosed_85, zr_X_waysStayingClosed_88, zr_X_waysStayingClosed_90, zr_X_waysStayingClosed_92, zr_X_waysStayingClosed_94, zr_X_waysStayingClosed_97, zr_X_waysStayingClosed_98, zr_X_waysStayingClosed_101, zr_X_waysStayingClosed_103, zr_X_waysStayingClosed_104, zr_X_waysStayingClosed_105, zr_X_waysStayingClosed_106, zr_X_waysStayingClosed_107, zr_X_waysStayingClosed_108, zr_X_waysStayingClosed_109, zr_X_waysStayingClosed_110, zr_X_waysStayingClosed_111, zr_X_waysStayingClosed_114, zr_X_waysStayingClosed_115, zr_X_waysStayingClosed_116, zr_X_waysStayingClosed_119, c, c2, hX.1.f10, lN_0, p1, z_obs, z_pu_s, z_pu_n, z00, z10, ↓reduceIte, true_or, or_true, z_b_t, z_b_f, hm1]
  obtain ⟨G1, a1, a2⟩ := l1 10 0 G none none none (by omega) h FR.rf ⟨g0, hg0, fun r hr => absurd hr (Nat.not_lt_zero r)⟩
  obtain ⟨G', _, e, p⟩ := z_loopG (fun i (f : Nat → Nat) (jk : Option Value × Option Value × Option Value) G => z_ev E i_X_waysStayingClosed lv 63 [some (.ref x), some (.int (nI j)), some (.int (nI m)), some (.int (nI t)), some (.int (nI (sW s j))), some (.int (nI (sR s j))), some (.int (nI i)), jk.1, jk.2.1, jk.2.2] [] N k G) (fun _ f => wsN (sW s j) t f) (fun i f G' => XL G x s ib u hs n f G') m (fun f _ G => some (some (.long (lN (sumTo f 10))), N, k, G)) (fun f jk G1 hP => by
    have c : nI m ≤ nI m := nI_le (Nat.le_refl _) (by omega)
    simp only [zr_X_waysStayingClosed_63, zr_X_waysStayingClosed_65, zr_X_waysStayingClosed_66, zr_X_waysStayingClosed_136, zr_X_waysStayingClosed_137, zr_X_waysStayingClosed_140, hP.1.cls, sX_allClosed _ _ _ hP, c, z_obs, z_pu_s, z_pu_n, z00, z10, ↓reduceIte, true_or, or_true, z_b_t, z_b_f]) (fun i f jk G1 hi hP => by
    have c : ¬ nI m ≤ nI i := nI_ge hi (by omega)
    obtain ⟨G2, b1, F', b2, b3⟩ := l2 9 f G1 i (sumTo f 10) (by omega) f hP (fun q hq => by rw [if_neg (by omega)])
    obtain ⟨G3, p1, p2⟩ := b2.wr (j := 0) (by omega) (sumTo f 10)
    rw [nI_0] at p1
    refine ⟨G3, (some (.long (lN (sumTo f 10))), none, some (.int (nI 0))), ?_, p2.1, p2.2.1, p2.2.2.congr fun r hr => by
      by_cases e : r = 0
      · subst e; rw [if_pos rfl]; rfl
      · rw [if_neg e, b3 r hr, if_pos (by omega)]⟩
    rw [zr_X_waysStayingClosed_63]
    simp only [zr_X_waysStayingClosed_65, zr_X_waysStayingClosed_66, zr_X_waysStayingClosed_69, zr_X_waysStayingClosed_70, zr_X_waysStayingClosed_73, zr_X_waysStayingClosed_75, zr_X_waysStayingClosed_77, c, hP.1.cls, sX_allClosed _ _ _ hP, z_obs, z_pu_s, z_pu_n, z00, z10, ↓reduceIte, true_or, or_true, z_b_t, z_b_f]
    rw [show (9 : Int32) = nI 9 from rfl, b1]
    simp only [zr_X_waysStayingClosed_122, zr_X_waysStayingClosed_123, zr_X_waysStayingClosed_126, zr_X_waysStayingClosed_127, zr_X_waysStayingClosed_129, zr_X_waysStayingClosed_130, zr_X_waysStayingClosed_133, b2.1.f10, p1, z_obs, z_pu_s, z_pu_n, z00, z10, ↓reduceIte, true_or, or_true, z_b_t, z_b_f, nI_1]) m 0 (fun r => if r = sR s j then 1 else 0) (none, none, none) G1 (by omega) a2
  refine ⟨G', ?_, p.1, p.2.1.xf (by omega) (by omega)⟩
  rw [ws_it hW, one_sum, if_pos q4] at e
  simp only [zm_X_waysStayingClosed, zr_X_waysStayingClosed_0, zr_X_waysStayingClosed_2, zr_X_waysStayingClosed_3, zr_X_waysStayingClosed_6, zr_X_waysStayingClosed_7, zr_X_waysStayingClosed_10, zr_X_waysStayingClosed_13, zr_X_waysStayingClosed_15, zr_X_waysStayingClosed_16, zr_X_waysStayingClosed_19, zr_X_waysStayingClosed_20, zr_X_waysStayingClosed_23, zr_X_waysStayingClosed_25, zr_X_waysStayingClosed_26, int_10, h.f0, h.now.cls, sM_wantsOf _ _ _ h.now w hj, sM_rungOf _ _ _ h.now w hj, hmin, z_obs, z_pu_s, z_pu_n, z00, z10, ↓reduceIte, true_or, or_true, z_b_t, z_b_f]
  rw [int_0, a1, ← e]
  simp only [zr_X_waysStayingClosed_60, zr_X_waysStayingClosed_61]
  rfl
theorem xOdds (h : XW G x s ib u hs n) (w : WF s) (b m t y : Int32) : ∃ G', z_evM E i_X_odds lv [.ref x, .int b, .int m, .int t, .int y] N k G = some (some (.long (aOdds s b m t y)), N, k, G') ∧ XW G' x s ib u hs n ∧ XF x G G' := by
  unfold aOdds
  cases hm : inAB m 0 8
  · refine ⟨G, ?_, h, XF.rf⟩
    rcases inAB_f hm with c | ⟨c1, c2, c3, c4⟩
    · rw [nI_0] at c
      cases hb : isB s b
      · simp only [zm_X_odds, zr_X_odds_0, zr_X_odds_1, zr_X_odds_25, zr_X_odds_26, zr_X_odds_28, zr_X_odds_29, zr_X_odds_32, zr_X_odds_33, zr_X_odds_36, zr_X_odds_39, zr_X_odds_41, zr_X_odds_44, zr_X_odds_46, zr_X_odds_49, zr_X_odds_52, zr_X_odds_53, zr_X_odds_56, c, h.f0, h.now.cls, sM_has _ _ _ h.now, hb, sX_refused, z_obs, z_pu_s, z_pu_n, z00, z10, ↓reduceIte, true_or, or_true, z_b_t, z_b_f, Bool.false_eq_true, false_and]
        rfl
      · simp only [zm_X_odds, zr_X_odds_0, zr_X_odds_1, zr_X_odds_25, zr_X_odds_26, zr_X_odds_28, zr_X_odds_29, zr_X_odds_32, zr_X_odds_33, zr_X_odds_36, zr_X_odds_39, zr_X_odds_41, zr_X_odds_44, zr_X_odds_46, zr_X_odds_49, zr_X_odds_52, zr_X_odds_53, zr_X_odds_56, c, h.f0, h.now.cls, sM_has _ _ _ h.now, hb, sX_refused, z_obs, z_pu_s, z_pu_n, z00, z10, ↓reduceIte, true_or, or_true, z_b_t, z_b_f, Bool.false_eq_true, false_and, and_false]
        rfl
    · rw [nI_0] at c1
      have c4' : 8 < m := c4
      cases hb : isB s b
      · simp only [zm_X_odds, zr_X_odds_0, zr_X_odds_1, zr_X_odds_4, zr_X_odds_5, zr_X_odds_7, zr_X_odds_25, zr_X_odds_26, zr_X_odds_28, zr_X_odds_29, zr_X_odds_32, zr_X_odds_33, zr_X_odds_36, zr_X_odds_39, zr_X_odds_41, zr_X_odds_44, zr_X_odds_46, zr_X_odds_49, zr_X_odds_52, zr_X_odds_53, zr_X_odds_56, c1, c4', h.f0, h.now.cls, sM_has _ _ _ h.now, hb, sX_refused, z_obs, z_pu_s, z_pu_n, z00, z10, ↓reduceIte, true_or, or_true, z_b_t, z_b_f, Bool.false_eq_true, false_and]
        rfl
      · simp only [zm_X_odds, zr_X_odds_0, zr_X_odds_1, zr_X_odds_4, zr_X_odds_5, zr_X_odds_7, zr_X_odds_25, zr_X_odds_26, zr_X_odds_28, zr_X_odds_29, zr_X_odds_32, zr_X_odds_33, zr_X_odds_36, zr_X_odds_39, zr_X_odds_41, zr_X_odds_44, zr_X_odds_46, zr_X_odds_49, zr_X_odds_52, zr_X_odds_53, zr_X_odds_56, c1, c4', h.f0, h.now.cls, sM_has _ _ _ h.now, hb, sX_refused, z_obs, z_pu_s, z_pu_n, z00, z10, ↓reduceIte, true_or, or_true, z_b_t, z_b_f, Bool.false_eq_true, false_and, and_false]
        rfl
  · obtain ⟨c1, c2, c3, c4⟩ := inAB_t hm
    rw [nI_0] at c1
    have c4' : ¬ 8 < m := c4
    cases ht : inAB t 2 20
    · refine ⟨G, ?_, h, XF.rf⟩
      rcases inAB_f ht with d | ⟨d1, d2, d3, d4⟩
      · have d' : t < 2 := d
        cases hb : isB s b
        · simp only [zm_X_odds, zr_X_odds_0, zr_X_odds_1, zr_X_odds_4, zr_X_odds_5, zr_X_odds_7, zr_X_odds_10, zr_X_odds_11, zr_X_odds_12, zr_X_odds_25, zr_X_odds_26, zr_X_odds_28, zr_X_odds_29, zr_X_odds_32, zr_X_odds_33, zr_X_odds_36, zr_X_odds_39, zr_X_odds_41, zr_X_odds_44, zr_X_odds_46, zr_X_odds_49, zr_X_odds_52, zr_X_odds_53, zr_X_odds_56, c1, c4', d', h.f0, h.now.cls, sM_has _ _ _ h.now, hb, sX_refused, z_obs, z_pu_s, z_pu_n, z00, z10, ↓reduceIte, true_or, or_true, z_b_t, z_b_f, Bool.false_eq_true, false_and]
          rfl
        · simp only [zm_X_odds, zr_X_odds_0, zr_X_odds_1, zr_X_odds_4, zr_X_odds_5, zr_X_odds_7, zr_X_odds_10, zr_X_odds_11, zr_X_odds_12, zr_X_odds_25, zr_X_odds_26, zr_X_odds_28, zr_X_odds_29, zr_X_odds_32, zr_X_odds_33, zr_X_odds_36, zr_X_odds_39, zr_X_odds_41, zr_X_odds_44, zr_X_odds_46, zr_X_odds_49, zr_X_odds_52, zr_X_odds_53, zr_X_odds_56, c1, c4', d', h.f0, h.now.cls, sM_has _ _ _ h.now, hb, sX_refused, z_obs, z_pu_s, z_pu_n, z00, z10, ↓reduceIte, true_or, or_true, z_b_t, z_b_f, Bool.false_eq_true, false_and, and_false]
          rfl
      · have d1' : ¬ t < 2 := d1
        have d4' : 20 < t := d4
        cases hb : isB s b
        · simp only [zm_X_odds, zr_X_odds_0, zr_X_odds_1, zr_X_odds_4, zr_X_odds_5, zr_X_odds_7, zr_X_odds_10, zr_X_odds_11, zr_X_odds_12, zr_X_odds_15, zr_X_odds_16, zr_X_odds_18, zr_X_odds_25, zr_X_odds_26, zr_X_odds_28, zr_X_odds_29, zr_X_odds_32, zr_X_odds_33, zr_X_odds_36, zr_X_odds_39, zr_X_odds_41, zr_X_odds_44, zr_X_odds_46, zr_X_odds_49, zr_X_odds_52, zr_X_odds_53, zr_X_odds_56, c1, c4', d1', d4', h.f0, h.now.cls, sM_has _ _ _ h.now, hb, sX_refused, z_obs, z_pu_s, z_pu_n, z00, z10, ↓reduceIte, true_or, or_true, z_b_t, z_b_f, Bool.false_eq_true, false_and]
          rfl
        · simp only [zm_X_odds, zr_X_odds_0, zr_X_odds_1, zr_X_odds_4, zr_X_odds_5, zr_X_odds_7, zr_X_odds_10, zr_X_odds_11, zr_X_odds_12, zr_X_odds_15, zr_X_odds_16, zr_X_odds_18, zr_X_odds_25, zr_X_odds_26, zr_X_odds_28, zr_X_odds_29, zr_X_odds_32, zr_X_odds_33, zr_X_odds_36, zr_X_odds_39, zr_X_odds_41, zr_X_odds_44, zr_X_odds_46, zr_X_odds_49, zr_X_odds_52, zr_X_odds_53, zr_X_odds_56, c1, c4', d1', d4', h.f0, h.now.cls, sM_has _ _ _ h.now, hb, sX_refused, z_obs, z_pu_s, z_pu_n, z00, z10, ↓reduceIte, true_or, or_true, z_b_t, z_b_f, Bool.false_eq_true, false_and, and_false]
          rfl
    · obtain ⟨d1, d2, d3, d4⟩ := inAB_t ht
      have d1' : ¬ t < 2 := d1
      have d4' : ¬ 20 < t := d4
      cases hb : isB s b
      · refine ⟨G, ?_, h, XF.rf⟩
        simp only [zm_X_odds, zr_X_odds_0, zr_X_odds_1, zr_X_odds_4, zr_X_odds_5, zr_X_odds_7, zr_X_odds_10, zr_X_odds_11, zr_X_odds_12, zr_X_odds_15, zr_X_odds_16, zr_X_odds_18, zr_X_odds_21, zr_X_odds_22, zr_X_odds_25, zr_X_odds_26, zr_X_odds_28, zr_X_odds_29, zr_X_odds_32, zr_X_odds_33, zr_X_odds_36, zr_X_odds_39, zr_X_odds_41, zr_X_odds_44, zr_X_odds_46, zr_X_odds_49, zr_X_odds_52, zr_X_odds_53, zr_X_odds_56, c1, c4', d1', d4', h.f0, h.now.cls, sM_has _ _ _ h.now, hb, sX_refused, z_obs, z_pu_s, z_pu_n, z00, z10, ↓reduceIte, true_or, or_true, z_b_t, z_b_f, Bool.false_eq_true, false_and]
        rfl
      · cases hy : is01 y
        · refine ⟨G, ?_, h, XF.rf⟩
          simp only [zm_X_odds, zr_X_odds_0, zr_X_odds_1, zr_X_odds_4, zr_X_odds_5, zr_X_odds_7, zr_X_odds_10, zr_X_odds_11, zr_X_odds_12, zr_X_odds_15, zr_X_odds_16, zr_X_odds_18, zr_X_odds_21, zr_X_odds_22, zr_X_odds_25, zr_X_odds_26, zr_X_odds_28, zr_X_odds_29, zr_X_odds_32, zr_X_odds_33, zr_X_odds_36, zr_X_odds_39, zr_X_odds_41, zr_X_odds_44, zr_X_odds_46, zr_X_odds_49, zr_X_odds_52, zr_X_odds_53, zr_X_odds_56, c1, c4', d1', d4', h.f0, h.now.cls, sM_has _ _ _ h.now, hb, sX_is01, hy, sX_refused, z_obs, z_pu_s, z_pu_n, z00, z10, ↓reduceIte, true_or, or_true, z_b_t, z_b_f, Bool.false_eq_true, false_and, and_false]
          rfl
        · obtain ⟨j, hj, rfl⟩ := isB_of w hb
          obtain ⟨m, m1, m2, rfl⟩ := inAB_of (by decide) (by decide) hm
          obtain ⟨t, t1, t2, rfl⟩ := inAB_of (by decide) (by decide) ht
          rw [jNb w hj, jN_nI (show m < 2 ^ 31 by omega), jN_nI (show t < 2 ^ 31 by omega)]
          obtain ⟨G', g1, g2, g3⟩ := sX_ways (E := E) 0 N k h w hj m2 (show 1 ≤ t by omega) t2
          refine ⟨G', ?_, g2, g3⟩
          have hcl := cN_le (sW s j) t (by omega) m (sR s j)
          have hp : t ^ m < 2 ^ 48 := Nat.lt_of_le_of_lt (Nat.le_trans (Nat.pow_le_pow_left t2 m) (Nat.pow_le_pow_right (by decide) m2)) (by decide)
          have hp0 : 0 < t ^ m := Nat.pow_pos (by omega)
          have loop : z_ev E i_X_odds lv 63 [some (.ref x), some (.int (nI j)), some (.int (nI m)), some (.int (nI t)), some (.int y), some (.int 1), some (.long (lN 1)), none, some (.int (nI 0))] [] N k G = z_ev E i_X_odds lv 82 [some (.ref x), some (.int (nI j)), some (.int (nI m)), some (.int (nI t)), some (.int y), some (.int 1), some (.long (lN (foldN (fun _ a => a * t) m 0 1))), none, some (.int (nI m))] [] N k G := by
            refine z_loop (fun i acc => z_ev E i_X_odds lv 63 [some (.ref x), some (.int (nI j)), some (.int (nI m)), some (.int (nI t)), some (.int y), some (.int 1), some (.long (lN acc)), none, some (.int (nI i))] [] N k G) (fun _ a => a * t) m (fun acc => z_ev E i_X_odds lv 82 [some (.ref x), some (.int (nI j)), some (.int (nI m)), some (.int (nI t)), some (.int y), some (.int 1), some (.long (lN acc)), none, some (.int (nI m))] [] N k G) ?_ ?_ m 0 1 (by omega)
            · intro acc
              have c : nI m ≤ nI m := nI_le (Nat.le_refl _) (by omega)
              simp only [zr_X_odds_63, zr_X_odds_65, zr_X_odds_66, c, z_obs, z_pu_s, z_pu_n, z00, z10, ↓reduceIte, true_or, or_true, z_b_t, z_b_f]
            · intro i acc hi
              have c : ¬ nI m ≤ nI i := nI_ge hi (by omega)
              rw [zr_X_odds_63]
              simp only [zr_X_odds_65, zr_X_odds_66, zr_X_odds_69, zr_X_odds_71, zr_X_odds_72, zr_X_odds_73, zr_X_odds_74, zr_X_odds_76, zr_X_odds_79, c, nI_l (show t < 2 ^ 31 by omega), lN_mul, z_obs, z_pu_s, z_pu_n, z00, z10, ↓reduceIte, true_or, or_true, z_b_t, z_b_f, nI_1]
          have hpow : ∀ m i a, foldN (fun _ a => a * t) m i a = a * t ^ m := by
            intro m
            induction m with
            | zero => intro i a; simp [foldN]
            | succ m ih => intro i a; show foldN _ m (i + 1) (a * t) = _; rw [ih, Nat.pow_succ, Nat.mul_assoc, Nat.mul_comm t]
          rw [hpow, Nat.one_mul] at loop
          simp only [and_self, ↓reduceIte]
          simp only [zm_X_odds, zr_X_odds_0, zr_X_odds_1, zr_X_odds_4, zr_X_odds_5, zr_X_odds_7, zr_X_odds_10, zr_X_odds_11, zr_X_odds_12, zr_X_odds_15, zr_X_odds_16, zr_X_odds_18, zr_X_odds_21, zr_X_odds_22, zr_X_odds_25, zr_X_odds_26, zr_X_odds_28, zr_X_odds_29, zr_X_odds_32, zr_X_odds_33, zr_X_odds_36, zr_X_odds_39, zr_X_odds_41, zr_X_odds_44, zr_X_odds_46, zr_X_odds_49, zr_X_odds_52, zr_X_odds_53, zr_X_odds_56, zr_X_odds_57, zr_X_odds_58, zr_X_odds_60, zr_X_odds_61, c1, c4', d1', d4', h.f0, h.now.cls, sM_has _ _ _ h.now, hb, sX_is01, hy, z_obs, z_pu_s, z_pu_n, z00, z10, ↓reduceIte, true_or, or_true, z_b_t, z_b_f]
          rw [lN_one, int_0, loop]
          simp only [zr_X_odds_82, zr_X_odds_84, zr_X_odds_85, zr_X_odds_86, zr_X_odds_87, zr_X_odds_88, zr_X_odds_91, zr_X_odds_92, zr_X_odds_94, zr_X_odds_96, zr_X_odds_99, h.cls, g1, lN_sub hcl, sX_partOf _ _ _ _ (show t ^ m - cN (sW s j) t m (sR s j) < 2 ^ 48 by omega) hp0 hp, z_obs, z_pu_s, z_pu_n, z00, z10, ↓reduceIte, true_or, or_true, z_b_t, z_b_f]
end
