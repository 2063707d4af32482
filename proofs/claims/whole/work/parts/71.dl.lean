/-! THE MODEL: odds -/
/-- does it stay closed, home at the hours of c -/
def cloB (W : Nat) (c : Nat → Bool) : Nat → Nat → Nat → Bool
  | 0, _, _ => true
  | m + 1, i, r => if c i = true then (if W ≤ r + 1 then false else cloB W c m (i + 1) (r + 1)) else cloB W c m (i + 1) 0
def wgN (t : Nat) (c : Nat → Bool) : Nat → Nat → Nat
  | 0, _ => 1
  | m + 1, i => (if c i = true then t - 1 else 1) * wgN t c m (i + 1)
theorem cloB_s (W : Nat) (c : Nat → Bool) (m i r : Nat) : cloB W c (m + 1) i r = if c i = true then (if W ≤ r + 1 then false else cloB W c m (i + 1) (r + 1)) else cloB W c m (i + 1) 0 := rfl
theorem wgN_s (t : Nat) (c : Nat → Bool) (m i : Nat) : wgN t c (m + 1) i = (if c i = true then t - 1 else 1) * wgN t c m (i + 1) := rfl
theorem cloB_sh (W : Nat) (c : Nat → Bool) : ∀ m i r, cloB W c m (i + 1) r = cloB W (fun k => c (k + 1)) m i r := by
  intro m
  induction m with
  | zero => intro i r; rfl
  | succ m ih =>
    intro i r
    unfold cloB
    rw [ih, ih]
theorem wgN_sh (t : Nat) (c : Nat → Bool) : ∀ m i, wgN t c m (i + 1) = wgN t (fun k => c (k + 1)) m i := by
  intro m
  induction m with
  | zero => intro i; rfl
  | succ m ih =>
    intro i
    unfold wgN
    rw [ih]
theorem b6_even (v : Nat) : b6 (2 * v) 0 = false ∧ (fun k => b6 (2 * v) (k + 1)) = b6 v := by
  refine ⟨?_, funext fun k => ?_⟩
  · unfold b6
    rw [show 2 * v / 2 ^ 0 % 2 = 0 by simp]; rfl
  · unfold b6
    rw [Nat.pow_succ, Nat.mul_comm (2 ^ k) 2, ← Nat.div_div_eq_div_mul, Nat.mul_div_cancel_left v (by omega)]
theorem b6_odd (v : Nat) : b6 (2 * v + 1) 0 = true ∧ (fun k => b6 (2 * v + 1) (k + 1)) = b6 v := by
  refine ⟨?_, funext fun k => ?_⟩
  · unfold b6
    rw [show (2 * v + 1) / 2 ^ 0 % 2 = 1 by rw [Nat.pow_zero, Nat.div_one]; omega]; rfl
  · unfold b6
    rw [Nat.pow_succ, Nat.mul_comm (2 ^ k) 2, ← Nat.div_div_eq_div_mul, show (2 * v + 1) / 2 = v by omega]
theorem sumTo_eo (f : Nat → Nat) : ∀ M, sumTo f (2 * M) = sumTo (fun v => f (2 * v) + f (2 * v + 1)) M := by
  intro M
  induction M with
  | zero => rfl
  | succ M ih =>
    show sumTo f (2 * M + 1 + 1) = sumTo (fun v => f (2 * v) + f (2 * v + 1)) M + (f (2 * M) + f (2 * M + 1))
    rw [← ih]
    show sumTo f (2 * M) + f (2 * M) + f (2 * M + 1) = _
    omega
theorem sumTo_add (f g : Nat → Nat) : ∀ M, sumTo (fun v => f v + g v) M = sumTo f M + sumTo g M := by
  intro M
  induction M with
  | zero => rfl
  | succ M ih =>
    show sumTo _ M + (f M + g M) = sumTo f M + f M + (sumTo g M + g M)
    rw [ih]; omega
theorem sumTo_mul (a : Nat) (f : Nat → Nat) : ∀ M, sumTo (fun v => a * f v) M = a * sumTo f M := by
  intro M
  induction M with
  | zero => rfl
  | succ M ih =>
    show sumTo _ M + a * f M = a * (sumTo f M + f M)
    rw [ih, Nat.mul_add]
theorem sumTo_0 (M : Nat) : sumTo (fun _ => 0) M = 0 := by
  induction M with
  | zero => rfl
  | succ M ih => show sumTo _ M + 0 = 0; rw [ih]
theorem wg_all {t : Nat} (ht : 1 ≤ t) : ∀ n, sumTo (fun v => wgN t (b6 v) n 0) (2 ^ n) = t ^ n := by
  intro n
  induction n with
  | zero => rfl
  | succ n ih =>
    rw [Nat.pow_succ, Nat.mul_comm, sumTo_eo]
    have e : (fun v => wgN t (b6 (2 * v)) (n + 1) 0 + wgN t (b6 (2 * v + 1)) (n + 1) 0) = fun v => t * wgN t (b6 v) n 0 := by
      funext v
      obtain ⟨a1, a2⟩ := b6_even v
      obtain ⟨b1, b2⟩ := b6_odd v
      rw [wgN_s, wgN_s, wgN_sh, wgN_sh, a1, a2, b1, b2]
      simp only [Bool.false_eq_true, ↓reduceIte]
      rw [← Nat.add_mul, show 1 + (t - 1) = t by omega]
    rw [e, sumTo_mul, ih, Nat.pow_succ, Nat.mul_comm]
theorem clo_all {W t : Nat} : ∀ n r, sumTo (fun v => if cloB W (b6 v) n 0 r = true then wgN t (b6 v) n 0 else 0) (2 ^ n) = cN W t n r := by
  intro n
  induction n with
  | zero => intro r; rfl
  | succ n ih =>
    intro r
    rw [Nat.pow_succ, Nat.mul_comm, sumTo_eo]
    have e : (fun v => (if cloB W (b6 (2 * v)) (n + 1) 0 r = true then wgN t (b6 (2 * v)) (n + 1) 0 else 0) + (if cloB W (b6 (2 * v + 1)) (n + 1) 0 r = true then wgN t (b6 (2 * v + 1)) (n + 1) 0 else 0)) = fun v => (if cloB W (b6 v) n 0 0 = true then wgN t (b6 v) n 0 else 0) + (t - 1) * (if r + 1 < W then (if cloB W (b6 v) n 0 (r + 1) = true then wgN t (b6 v) n 0 else 0) else 0) := by
      funext v
      obtain ⟨a1, a2⟩ := b6_even v
      obtain ⟨b1, b2⟩ := b6_odd v
      rw [wgN_s, wgN_s, cloB_s, cloB_s, wgN_sh, wgN_sh, cloB_sh, cloB_sh, cloB_sh, cloB_sh, a1, a2, b1, b2]
      simp only [Bool.false_eq_true, ↓reduceIte, Nat.one_mul]
      congr 1
      by_cases h : W ≤ r + 1
      · have h2 : ¬ r + 1 < W := by omega
        simp only [h, h2, ↓reduceIte, Bool.false_eq_true, Nat.mul_zero]
      · have h2 : r + 1 < W := by omega
        simp only [h, h2, ↓reduceIte]
        split
        · rfl
        · rw [Nat.mul_zero]
    have e2 : sumTo (fun v => if r + 1 < W then (if cloB W (b6 v) n 0 (r + 1) = true then wgN t (b6 v) n 0 else 0) else 0) (2 ^ n) = if r + 1 < W then cN W t n (r + 1) else 0 := by
      by_cases h : r + 1 < W
      · rw [if_pos h, ← ih (r + 1)]
        congr 1
        funext v
        rw [if_pos h]
      · have e3 : (fun v => if r + 1 < W then (if cloB W (b6 v) n 0 (r + 1) = true then wgN t (b6 v) n 0 else 0) else 0) = fun _ => 0 := funext fun v => if_neg h
        rw [if_neg h, e3]
        exact sumTo_0 _
    rw [e, sumTo_add, sumTo_mul, ih 0, e2]
    rfl
theorem opn_all {W t : Nat} (ht : 1 ≤ t) (n r : Nat) : sumTo (fun v => if cloB W (b6 v) n 0 r = true then 0 else wgN t (b6 v) n 0) (2 ^ n) = t ^ n - cN W t n r := by
  have h1 := sumTo_add (fun v => if cloB W (b6 v) n 0 r = true then wgN t (b6 v) n 0 else 0) (fun v => if cloB W (b6 v) n 0 r = true then 0 else wgN t (b6 v) n 0) (2 ^ n)
  have e : (fun v => (if cloB W (b6 v) n 0 r = true then wgN t (b6 v) n 0 else 0) + (if cloB W (b6 v) n 0 r = true then 0 else wgN t (b6 v) n 0)) = fun v => wgN t (b6 v) n 0 := by
    funext v
    split <;> omega
  rw [e, wg_all ht, clo_all] at h1
  omega
theorem raS_K {s : Nat → Nat} (b c : Nat) (o : Bool) : sK (raS s b o) c = sK s c := by unfold raS; split <;> (try split) <;> simp only [sK] <;> (repeat rw [uN_n _ _ (by omega)])
theorem raS_F {s : Nat → Nat} (b c : Nat) (o : Bool) : sF (raS s b o) c = sF s c := by unfold raS; split <;> (try split) <;> simp only [sF] <;> (repeat rw [uN_n _ _ (by omega)])
theorem raS_P {s : Nat → Nat} (b c : Nat) (o : Bool) : sP (raS s b o) c = sP s c := by unfold raS; split <;> (try split) <;> simp only [sP] <;> (repeat rw [uN_n _ _ (by omega)])
theorem raS_0 {s : Nat → Nat} (b : Nat) (o : Bool) : raS s b o 0 = s 0 := by unfold raS; split <;> (try split) <;> (repeat rw [uN_n _ _ (by omega)])
theorem raS_1 {s : Nat → Nat} (b : Nat) (o : Bool) : raS s b o 1 = s 1 := by unfold raS; split <;> (try split) <;> (repeat rw [uN_n _ _ (by omega)])
theorem raS_R {s : Nat → Nat} (b c : Nat) (o : Bool) : sR (raS s b o) c = if c = b then (if o = true then (if sW s b ≤ sR s b + 1 then 0 else sR s b + 1) else 0) else sR s c := by
  unfold raS
  by_cases h : c = b
  · subst h
    rw [if_pos rfl]
    split
    · split
      · show uN _ _ _ (6 + 5 * c) = 0
        rw [uN_n _ _ (by omega), uN_s]
      · show uN _ _ _ (6 + 5 * c) = _
        rw [uN_s]
    · show uN _ _ _ (6 + 5 * c) = _
      rw [uN_s]
  · rw [if_neg h]
    split <;> (try split) <;> simp only [sR] <;> (repeat rw [uN_n _ _ (by omega)])
theorem raS_O {s : Nat → Nat} (b c : Nat) (o : Bool) : sO (raS s b o) c = if c = b then (if o = true then (if sW s b ≤ sR s b + 1 then min 99 (sO s b + 1) else sO s b) else sO s b) else sO s c := by
  unfold raS
  by_cases h : c = b
  · subst h
    rw [if_pos rfl]
    split
    · split
      · show uN _ _ _ (7 + 5 * c) = _
        rw [uN_s]
      · show uN _ _ _ (7 + 5 * c) = _
        rw [uN_n _ _ (by omega)]; rfl
    · show uN _ _ _ (7 + 5 * c) = _
      rw [uN_n _ _ (by omega)]; rfl
  · rw [if_neg h]
    split <;> (try split) <;> simp only [sO] <;> (repeat rw [uN_n _ _ (by omega)])
theorem raS_WF {s : Nat → Nat} (w : WF s) (b : Nat) (o : Bool) : WF (raS s b o) := by
  refine ⟨by rw [raS_0]; exact w.1, by rw [raS_1]; exact w.2.1, Nat.zero_le _, fun c hc => ?_⟩
  rw [raS_0] at hc
  obtain ⟨q1, q2, q3, q4, q5⟩ := w.2.2.2 c hc
  have q6 := (wt_le _ q1 _ q2).2.1
  have q6' : sW s c ≤ 10 := q6
  rw [raS_K, raS_F, raS_P, raS_R, raS_O]
  refine ⟨q1, q2, q3, ?_, ?_⟩
  · split
    · next e =>
      subst e
      split
      · split <;> omega
      · omega
    · exact q4
  · split
    · next e =>
      subst e
      split
      · split <;> omega
      · exact q5
    · exact q5
theorem raH_100 {s : Nat → Nat} (w : WF s) {j : Nat} (hj : j < s 0) (o : Bool) : (nI (raH s j o) < 100) = ¬ (o = true ∧ sW s j ≤ sR s j + 1) := by
  obtain ⟨q1, q2, q3, q4, q5⟩ := w.2.2.2 j hj
  obtain ⟨v1, v2, v3⟩ := wt_le _ q1 _ q2
  have a1 : 1 ≤ sW s j := v1
  have a2 : sS s j ≤ 25 := v3
  unfold raH
  cases o
  · simp only [Bool.false_eq_true, ↓reduceIte, false_and, not_false_eq_true, eq_iff_iff, iff_true]; decide
  · by_cases h : sW s j ≤ sR s j + 1
    · have : ¬ nI (sS s j + 100) < nI 100 := nI_nlt (by omega) (by omega)
      simp only [h, ↓reduceIte, and_self, not_true_eq_false, eq_iff_iff, iff_false]
      exact this
    · have h2 : sS s j * (sR s j + 1) / sW s j ≤ sS s j := by
        apply Nat.div_le_of_le_mul
        rw [Nat.mul_comm (sW s j)]
        exact Nat.mul_le_mul_left _ (by omega)
      have : nI (sS s j * (sR s j + 1) / sW s j) < nI 100 := nI_lt (by omega) (by omega)
      simp only [h, ↓reduceIte, and_false, not_false_eq_true, eq_iff_iff, iff_true]
      exact this
theorem pow_shl : ∀ m, m < 9 → (1 : Int32) <<< (nI m &&& 31) = nI (2 ^ m) := by decide +kernel
theorem z_b_or1 (x : Bool) : z_b x ||| 1 = z_b true := by cases x <;> decide
theorem z_b_or0 (x : Bool) : z_b x ||| 0 = z_b x := by cases x <;> decide
section
variable {E : z_E} {G0 G : z_H} {a : Nat} {s u : Nat → Nat} {ib : Bool} {hs : Nat → Sh} (lv N k : Nat)
/-- one way's hours -/
theorem sD_way {j m t v : Nat} {y : Int32} {above below : Int64} (hj : j < s 0) (hm : m ≤ 8) (ht : 2 ≤ t) (ht2 : t ≤ 20) (hv : v < 256) : ∀ d i, i + d = m → ∀ r (op : Bool) (w0 : Nat) (q : Nat → Nat) (G1 : z_H), MM G0 a s ib u hs q G1 → sW q j = sW s j → sR q j = r → ∃ G' op', z_ev E i_D_odds lv 101 [some (.ref a), some (.int (nI j)), some (.int (nI m)), some (.int (nI t)), some (.int y), some (.long above), none, some (.long below), none, some (.int (nI v)), some (.long (lN w0)), none, some (.int (z_b op)), some (.int (nI i))] [] N k G1 = z_ev E i_D_odds lv 166 [some (.ref a), some (.int (nI j)), some (.int (nI m)), some (.int (nI t)), some (.int y), some (.long above), none, some (.long below), none, some (.int (nI v)), some (.long (lN (w0 * wgN t (b6 v) d i))), none, some (.int (z_b op')), some (.int (nI m))] [] N k G' ∧ DW G' a s ib u hs ∧ FR (a + 2) 1 G0 G' ∧ op' = (op || !(cloB (sW s j) (b6 v) d i r)) := by
  intro d
  induction d with
  | zero =>
    intro i hi r op w0 q G1 hP hW hr
    have : i = m := by omega
    subst this
    have c : nI i ≤ nI i := nI_le (Nat.le_refl _) (by omega)
    refine ⟨G1, op, ?_, hP.1, hP.2.1, by simp [cloB]⟩
    simp only [zr_D_odds_101, zr_D_odds_103, zr_D_odds_104, c, z_obs, z_pu_s, z_pu_n, z00, z10, ↓reduceIte, true_or, or_true, z_b_t, z_b_f, wgN, Nat.mul_one]
  | succ d ih =>
    intro i hi r op w0 q G1 hP hW hr
    have c : ¬ nI m ≤ nI i := nI_ge (by omega) (by omega)
    have hh := fun (lv N k : Nat) (G : z_H) => sD_has (E := E) lv N k G (show v < 2 ^ 31 by omega) (show i < 31 by omega)
    obtain ⟨p1, p2, p3, p4, p5⟩ := hP
    have hjq : j < q 0 := by omega
    obtain ⟨G2, g1, g2, g3⟩ := sD_ringsAs (E := E) 0 N k p3 p4 hjq (b6 v i)
    have hlt := raH_100 p4 hjq (b6 v i)
    rw [hW, hr] at hlt
    have hP2 : MM G0 a s ib u hs (raS q j (b6 v i)) G2 := ⟨p1.nm g2.x g3, p2.tr g3, g2, raS_WF p4 j _, by rw [raS_0]; exact p5⟩
    have hW2 : sW (raS q j (b6 v i)) j = sW s j := by rw [← hW]; unfold sW; rw [raS_K, raS_F]
    have hr2 : sR (raS q j (b6 v i)) j = if b6 v i = true then (if sW s j ≤ r + 1 then 0 else r + 1) else 0 := by rw [raS_R, if_pos rfl, hW, hr]
    cases hb : b6 v i
    · rw [hb] at hlt hP2 hW2 hr2 g1 hh
      rw [z_b_f] at g1
      have hlt' : nI (raH q j false) < 100 := by rw [hlt]; simp
      simp only [Bool.false_eq_true, ↓reduceIte] at hr2
      obtain ⟨G', op', e1, e2, e3, e4⟩ := ih (i + 1) (by omega) 0 op (w0 * 1) _ G2 hP2 hW2 hr2
      refine ⟨G', op', ?_, e2, e3, ?_⟩
      · have ew : w0 * wgN t (b6 v) (d + 1) i = w0 * 1 * wgN t (b6 v) d (i + 1) := by
          show w0 * ((if b6 v i = true then t - 1 else 1) * _) = _
          rw [hb]; simp only [Bool.false_eq_true, ↓reduceIte]; rw [Nat.one_mul, Nat.mul_one]
        rw [ew, ← e1, zr_D_odds_101]
        simp only [zr_D_odds_103, zr_D_odds_104, zr_D_odds_107, zr_D_odds_109, zr_D_odds_111, zr_D_odds_113, zr_D_odds_116, zr_D_odds_119, zr_D_odds_120, zr_D_odds_121, zr_D_odds_122, zr_D_odds_123, zr_D_odds_126, zr_D_odds_127, zr_D_odds_128, zr_D_odds_130, zr_D_odds_132, zr_D_odds_133, zr_D_odds_136, zr_D_odds_137, zr_D_odds_139, zr_D_odds_141, zr_D_odds_144, zr_D_odds_147, zr_D_odds_149, zr_D_odds_152, zr_D_odds_153, zr_D_odds_156, zr_D_odds_157, zr_D_odds_158, zr_D_odds_160, zr_D_odds_163, c, hh, p1.f1, g1, hlt', lN_one, lN_mul, z_obs, z_pu_s, z_pu_n, z00, z10, ↓reduceIte, true_or, or_true, z_b_t, z_b_f, nI_1, z_b_or0]
      · rw [e4]
        show _ = (op || !(if b6 v i = true then _ else _))
        rw [hb]; rfl
    · rw [hb] at hlt hP2 hW2 hr2 g1 hh
      rw [z_b_t] at g1
      have etl : (nI t - 1).toInt64 = lN (t - 1) := by rw [pk_m1' (by omega), nI_l (by omega)]
      simp only [↓reduceIte] at hr2
      by_cases hop : sW s j ≤ r + 1
      · have hlt' : ¬ nI (raH q j true) < 100 := by rw [hlt]; simp [hop]
        rw [if_pos hop] at hr2
        obtain ⟨G', op', e1, e2, e3, e4⟩ := ih (i + 1) (by omega) 0 true (w0 * (t - 1)) _ G2 hP2 hW2 hr2
        refine ⟨G', op', ?_, e2, e3, ?_⟩
        · have ew : w0 * wgN t (b6 v) (d + 1) i = w0 * (t - 1) * wgN t (b6 v) d (i + 1) := by
            show w0 * ((if b6 v i = true then t - 1 else 1) * _) = _
            rw [hb]; simp only [↓reduceIte]; rw [Nat.mul_assoc]
          rw [ew, ← e1, zr_D_odds_101]
          simp only [zr_D_odds_103, zr_D_odds_104, zr_D_odds_107, zr_D_odds_109, zr_D_odds_111, zr_D_odds_113, zr_D_odds_116, zr_D_odds_119, zr_D_odds_120, zr_D_odds_121, zr_D_odds_122, zr_D_odds_123, zr_D_odds_126, zr_D_odds_127, zr_D_odds_128, zr_D_odds_130, zr_D_odds_132, zr_D_odds_133, zr_D_odds_136, zr_D_odds_137, zr_D_odds_139, zr_D_odds_141, zr_D_odds_144, zr_D_odds_147, zr_D_odds_149, zr_D_odds_152, zr_D_odds_153, zr_D_odds_156, zr_D_odds_157, zr_D_odds_158, zr_D_odds_160, zr_D_odds_163, c, hh, p1.f1, g1, hlt', etl, lN_mul, z_obs, z_pu_s, z_pu_n, z00, z10, ↓reduceIte, true_or, or_true, z_b_t, z_b_f, nI_1]
          rw [z_b_or1]; rfl
        · rw [e4]
          show _ = (op || !(if b6 v i = true then (if sW s j ≤ r + 1 then false else _) else _))
          rw [hb]; simp [hop]
      · have hlt' : nI (raH q j true) < 100 := by rw [hlt]; simp [hop]
        rw [if_neg hop] at hr2
        obtain ⟨G', op', e1, e2, e3, e4⟩ := ih (i + 1) (by omega) (r + 1) op (w0 * (t - 1)) _ G2 hP2 hW2 hr2
        refine ⟨G', op', ?_, e2, e3, ?_⟩
        · have ew : w0 * wgN t (b6 v) (d + 1) i = w0 * (t - 1) * wgN t (b6 v) d (i + 1) := by
            show w0 * ((if b6 v i = true then t - 1 else 1) * _) = _
            rw [hb]; simp only [↓reduceIte]; rw [Nat.mul_assoc]
          rw [ew, ← e1, zr_D_odds_101]
          simp only [zr_D_odds_103, zr_D_odds_104, zr_D_odds_107, zr_D_odds_109, zr_D_odds_111, zr_D_odds_113, zr_D_odds_116, zr_D_odds_119, zr_D_odds_120, zr_D_odds_121, zr_D_odds_122, zr_D_odds_123, zr_D_odds_126, zr_D_odds_127, zr_D_odds_128, zr_D_odds_130, zr_D_odds_132, zr_D_odds_133, zr_D_odds_136, zr_D_odds_137, zr_D_odds_139, zr_D_odds_141, zr_D_odds_144, zr_D_odds_147, zr_D_odds_149, zr_D_odds_152, zr_D_odds_153, zr_D_odds_156, zr_D_odds_157, zr_D_odds_158, zr_D_odds_160, zr_D_odds_163, c, hh, p1.f1, g1, hlt', etl, lN_mul, z_obs, z_pu_s, z_pu_n, z00, z10, ↓reduceIte, true_or, or_true, z_b_t, z_b_f, nI_1, z_b_or0]
        · rw [e4]
          show _ = (op || !(if b6 v i = true then (if sW s j ≤ r + 1 then false else _) else _))
          rw [hb]; simp [hop]
theorem dOdds (h : DW G a s ib u hs) (w : WF s) (b m t y : Int32) : ∃ G', z_evM E i_D_odds lv [.ref a, .int b, .int m, .int t, .int y] N k G = some (some (.long (aOdds s b m t y)), N, k, G') ∧ DW G' a s ib u hs ∧ FR a 15 G G' := by
  unfold aOdds
  cases hb : isB s b
  · refine ⟨G, ?_, h, FR.rf⟩
    simp only [zm_D_odds, zr_D_odds_0, zr_D_odds_1, zr_D_odds_2, zr_D_odds_5, zr_D_odds_8, zr_D_odds_9, zr_D_odds_10, zr_D_odds_12, zr_D_odds_15, zr_D_odds_18, zr_D_odds_19, zr_D_odds_20, zr_D_odds_22, zr_D_odds_25, zr_D_odds_28, zr_D_odds_30, zr_D_odds_31, zr_D_odds_32, zr_D_odds_35, zr_D_odds_38, zr_D_odds_41, h.cls, sD_isBell _ _ _ h w, hb, z_obs, z_pu_s, z_pu_n, z00, z10, ↓reduceIte, true_or, or_true, z_b_t, z_b_f, Bool.false_eq_true, false_and]
    rfl
  · cases hm : inAB m 0 8
    · refine ⟨G, ?_, h, FR.rf⟩
      simp only [zm_D_odds, zr_D_odds_0, zr_D_odds_1, zr_D_odds_2, zr_D_odds_5, zr_D_odds_8, zr_D_odds_9, zr_D_odds_10, zr_D_odds_12, zr_D_odds_15, zr_D_odds_18, zr_D_odds_19, zr_D_odds_20, zr_D_odds_22, zr_D_odds_25, zr_D_odds_28, zr_D_odds_30, zr_D_odds_31, zr_D_odds_32, zr_D_odds_35, zr_D_odds_38, zr_D_odds_41, h.cls, sD_isBell _ _ _ h w, hb, sD_isIn, show inL m 0 8 = inAB m 0 8 from rfl, hm, z_obs, z_pu_s, z_pu_n, z00, z10, ↓reduceIte, true_or, or_true, z_b_t, z_b_f, Bool.false_eq_true, false_and, and_false]
      rfl
    · cases ht : inAB t 2 20
      · refine ⟨G, ?_, h, FR.rf⟩
        simp only [zm_D_odds, zr_D_odds_0, zr_D_odds_1, zr_D_odds_2, zr_D_odds_5, zr_D_odds_8, zr_D_odds_9, zr_D_odds_10, zr_D_odds_12, zr_D_odds_15, zr_D_odds_18, zr_D_odds_19, zr_D_odds_20, zr_D_odds_22, zr_D_odds_25, zr_D_odds_28, zr_D_odds_30, zr_D_odds_31, zr_D_odds_32, zr_D_odds_35, zr_D_odds_38, zr_D_odds_41, h.cls, sD_isBell _ _ _ h w, hb, sD_isIn, show inL m 0 8 = inAB m 0 8 from rfl, show inL t 2 20 = inAB t 2 20 from rfl, hm, ht, z_obs, z_pu_s, z_pu_n, z00, z10, ↓reduceIte, true_or, or_true, z_b_t, z_b_f, Bool.false_eq_true, false_and, and_false]
        rfl
      · cases hy : is01 y
        · refine ⟨G, ?_, h, FR.rf⟩
          simp only [zm_D_odds, zr_D_odds_0, zr_D_odds_1, zr_D_odds_2, zr_D_odds_5, zr_D_odds_8, zr_D_odds_9, zr_D_odds_10, zr_D_odds_12, zr_D_odds_15, zr_D_odds_18, zr_D_odds_19, zr_D_odds_20, zr_D_odds_22, zr_D_odds_25, zr_D_odds_28, zr_D_odds_30, zr_D_odds_31, zr_D_odds_32, zr_D_odds_35, zr_D_odds_38, zr_D_odds_41, h.cls, sD_isBell _ _ _ h w, hb, sD_isIn, show inL m 0 8 = inAB m 0 8 from rfl, show inL t 2 20 = inAB t 2 20 from rfl, il_01, hm, ht, hy, z_obs, z_pu_s, z_pu_n, z00, z10, ↓reduceIte, true_or, or_true, z_b_t, z_b_f, Bool.false_eq_true, and_false]
          rfl
        · obtain ⟨j, hj, rfl⟩ := isB_of w hb
          obtain ⟨m, -, m2, rfl⟩ := inAB_of (by decide) (by decide) hm
          obtain ⟨t, t1, t2, rfl⟩ := inAB_of (by decide) (by decide) ht
          rw [jNb w hj, jN_nI (show m < 2 ^ 31 by omega), jN_nI (show t < 2 ^ 31 by omega)]
          simp only [and_self, ↓reduceIte]
          have pre : z_evM E i_D_odds lv [.ref a, .int (nI j), .int (nI m), .int (nI t), .int y] N k G = z_ev E i_D_odds lv 51 [some (.ref a), some (.int (nI j)), some (.int (nI m)), some (.int (nI t)), some (.int y), some (.long (lN 0)), none, some (.long (lN (t ^ 0))), none, some (.int (nI 0)), none, none, none, none] [] N k G := by
            simp only [zm_D_odds, zr_D_odds_0, zr_D_odds_1, zr_D_odds_2, zr_D_odds_5, zr_D_odds_8, zr_D_odds_9, zr_D_odds_10, zr_D_odds_12, zr_D_odds_15, zr_D_odds_18, zr_D_odds_19, zr_D_odds_20, zr_D_odds_22, zr_D_odds_25, zr_D_odds_28, zr_D_odds_30, zr_D_odds_31, zr_D_odds_32, zr_D_odds_35, zr_D_odds_38, zr_D_odds_41, zr_D_odds_42, zr_D_odds_43, zr_D_odds_45, zr_D_odds_46, zr_D_odds_48, zr_D_odds_49, h.cls, sD_isBell _ _ _ h w, hb, sD_isIn, show inL (nI m) 0 8 = inAB (nI m) 0 8 from rfl, show inL (nI t) 2 20 = inAB (nI t) 2 20 from rfl, il_01, hm, ht, hy, z_obs, z_pu_s, z_pu_n, z00, z10, ↓reduceIte, true_or, or_true, z_b_t, z_b_f]
            rfl
          have loop1 : ∀ d i, i + d = m → z_ev E i_D_odds lv 51 [some (.ref a), some (.int (nI j)), some (.int (nI m)), some (.int (nI t)), some (.int y), some (.long (lN 0)), none, some (.long (lN (t ^ i))), none, some (.int (nI i)), none, none, none, none] [] N k G = z_ev E i_D_odds lv 73 [some (.ref a), some (.int (nI j)), some (.int (nI m)), some (.int (nI t)), some (.int y), some (.long (lN 0)), none, some (.long (lN (t ^ m))), none, some (.int (nI 0)), none, none, none, none] [] N k G := by
            intro d
            induction d with
            | zero =>
              intro i hi
              have : i = m := by omega
              subst this
              have c : nI i ≤ nI i := nI_le (Nat.le_refl _) (by omega)
              simp only [zr_D_odds_51, zr_D_odds_53, zr_D_odds_54, zr_D_odds_70, zr_D_odds_71, c, z_obs, z_pu_s, z_pu_n, z00, z10, ↓reduceIte, true_or, or_true, z_b_t, z_b_f]
              rfl
            | succ d ih =>
              intro i hi
              have c : ¬ nI m ≤ nI i := nI_ge (by omega) (by omega)
              rw [← ih (i + 1) (by omega), zr_D_odds_51]
              simp only [zr_D_odds_53, zr_D_odds_54, zr_D_odds_57, zr_D_odds_59, zr_D_odds_60, zr_D_odds_61, zr_D_odds_62, zr_D_odds_64, zr_D_odds_67, c, nI_l (show t < 2 ^ 31 by omega), lN_mul, ← Nat.pow_succ, z_obs, z_pu_s, z_pu_n, z00, z10, ↓reduceIte, true_or, or_true, z_b_t, z_b_f, nI_1]
          have hpm : 2 ^ m ≤ 256 := Nat.pow_le_pow_right (by decide) m2
          have hpow := pow_shl m (by omega)
          obtain ⟨G', jk, e, p⟩ := z_loopG (fun v (acc : Nat) (jk : Option Value × Option Value × Option Value × Option Value) G => z_ev E i_D_odds lv 73 [some (.ref a), some (.int (nI j)), some (.int (nI m)), some (.int (nI t)), some (.int y), some (.long (lN acc)), none, some (.long (lN (t ^ m))), none, some (.int (nI v)), jk.1, jk.2.1, jk.2.2.1, jk.2.2.2] [] N k G) (fun v acc => acc + if cloB (sW s j) (b6 v) m 0 (sR s j) = true then 0 else wgN t (b6 v) m 0) (fun _ _ G' => DW G' a s ib u hs ∧ FR (a + 2) 1 G G') (2 ^ m) (fun acc jk G => z_ev E i_D_odds lv 188 [some (.ref a), some (.int (nI j)), some (.int (nI m)), some (.int (nI t)), some (.int y), some (.long (lN acc)), none, some (.long (lN (t ^ m))), none, some (.int (nI (2 ^ m))), jk.1, jk.2.1, jk.2.2.1, jk.2.2.2] [] N k G) (fun acc jk G1 _ => by
            have c : nI (2 ^ m) ≤ nI (2 ^ m) := nI_le (Nat.le_refl _) (by omega)
            simp only [zr_D_odds_73, zr_D_odds_75, zr_D_odds_76, zr_D_odds_77, zr_D_odds_78, hpow, c, z_obs, z_pu_s, z_pu_n, z00, z10, ↓reduceIte, true_or, or_true, z_b_t, z_b_f]) (fun v acc jk G1 hv hP => by
            have c : ¬ nI (2 ^ m) ≤ nI v := nI_ge hv (by omega)
            obtain ⟨G2, g1, g2⟩ := MM.take (E := E) N k hP.1 hP.2 w
            obtain ⟨G3, op, q1, q2, q3, q4⟩ := sD_way (E := E) (y := y) (above := lN acc) (below := lN (t ^ m)) lv N k hj m2 t1 t2 (show v < 256 by omega) m 0 (by omega) (sR s j) false 1 s G2 g2 rfl rfl
            rw [Nat.one_mul] at q1
            rw [Bool.false_or] at q4
            refine ⟨G3, (some (.long (lN (wgN t (b6 v) m 0))), none, some (.int (z_b op)), some (.int (nI m))), ?_, q2, q3⟩
            rw [zr_D_odds_73]
            have q1' : z_ev E i_D_odds lv 101 [some (.ref a), some (.int (nI j)), some (.int (nI m)), some (.int (nI t)), some (.int y), some (.long (lN acc)), none, some (.long (lN (t ^ m))), none, some (.int (nI v)), some (.long 1), none, some (.int 0), some (.int 0)] [] N k G2 = _ := q1
            simp only [zr_D_odds_75, zr_D_odds_76, zr_D_odds_77, zr_D_odds_78, zr_D_odds_81, zr_D_odds_82, zr_D_odds_84, zr_D_odds_85, zr_D_odds_87, zr_D_odds_88, zr_D_odds_91, zr_D_odds_92, zr_D_odds_95, zr_D_odds_98, zr_D_odds_99, hpow, c, hP.1.f0, hP.1.f1, g1, z_obs, z_pu_s, z_pu_n, z00, z10, ↓reduceIte, true_or, or_true, z_b_t, z_b_f]
            rw [q1', q4]
            cases hc : cloB (sW s j) (b6 v) m 0 (sR s j)
            · simp only [zr_D_odds_166, zr_D_odds_168, zr_D_odds_170, zr_D_odds_173, zr_D_odds_175, zr_D_odds_178, zr_D_odds_179, zr_D_odds_180, zr_D_odds_182, zr_D_odds_185, z_obs, z_pu_s, z_pu_n, z00, z10, ↓reduceIte, true_or, or_true, z_b_t, z_b_f, Bool.not_false, lN_add, nI_1, Bool.false_eq_true]
            · simp only [zr_D_odds_166, zr_D_odds_168, zr_D_odds_170, zr_D_odds_173, zr_D_odds_175, zr_D_odds_178, zr_D_odds_179, zr_D_odds_180, zr_D_odds_182, zr_D_odds_185, z_obs, z_pu_s, z_pu_n, z00, z10, ↓reduceIte, true_or, or_true, z_b_t, z_b_f, Bool.not_true, lN_0, lN_add, nI_1]) (2 ^ m) 0 0 (none, none, none, none) G (by omega) ⟨h, FR.rf⟩
          rw [foldN_sum, opn_all (show 1 ≤ t by omega)] at e
          have hcle := cN_le (sW s j) t (by omega) m (sR s j)
          have hpt : t ^ m ≤ 20 ^ 8 := Nat.le_trans (Nat.pow_le_pow_left t2 m) (Nat.pow_le_pow_right (by decide) m2)
          have hpt0 : 0 < t ^ m := Nat.pow_pos (by omega)
          have h20 : 20 ^ 8 < 2 ^ 62 := by decide
          refine ⟨G', ?_, p.1, fun q hq => p.2 q (by omega)⟩
          rw [pre, loop1 m 0 (by omega), e]
          simp only [zr_D_odds_188, zr_D_odds_190, zr_D_odds_192, zr_D_odds_194, zr_D_odds_197, sD_partOf _ _ _ (show t ^ m - cN (sW s j) t m (sR s j) < 2 ^ 62 by omega) hpt0 (show t ^ m < 2 ^ 62 by omega) hy, z_obs, z_pu_s, z_pu_n, z00, z10, ↓reduceIte, true_or, or_true, z_b_t, z_b_f]
end
