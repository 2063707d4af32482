/-! THE LAW: its turns -/
theorem nI_p6 (i : Nat) : nI i + 6 = nI (i + 6) := nI_add i 6
theorem lw_01 : (1 : Int32) = 0 ∨ (1 : Int32) = 1 := Or.inr rfl
section
variable {E : z_E} {G : z_H} {x : Nat} {s u : Nat → Nat} {ib : Bool} {hs : Nat → Sh} {n : Nat} (lv k : Nat)
theorem lw_sw (h : LW G x s ib u hs n E.1) (hL : E.2.1 < 2 ^ 31) {i : Nat} (hi : i + 6 ≤ E.2.1) (l5 l6 l7 : Option Value) (v : Int32) : ∃ n' k' G' s' ib' u' hs' m5 m6 m7, z_ev E i_L_law lv 40 [some (.ref E.1), some (.ref x), some (.ref (x + 118)), some (.ref (x + 133)), some (.int (nI i)), l5, l6, l7] [.int v] n k G = z_ev E i_L_law lv 1502 [some (.ref E.1), some (.ref x), some (.ref (x + 118)), some (.ref (x + 133)), some (.int (nI i)), m5, m6, m7] [] n' k' G' ∧ LW G' x s' ib' u' hs' n' E.1 ∧ n ≤ n' ∧ n' ≤ n + 2 ∧ k ≤ k' ∧ k' ≤ k + 108 := by
  rw [zr_L_law_40]
  by_cases c0 : v = 0
  · rw [if_pos c0]; exact lw_0 lv k h hL hi l5 l6 l7
  rw [if_neg c0]
  by_cases c1 : v = 1
  · rw [if_pos c1]; exact lw_1 lv k h hL hi l5 l6 l7
  rw [if_neg c1]
  by_cases c2 : v = 2
  · rw [if_pos c2]; exact lw_2 lv k h hL hi l5 l6 l7
  rw [if_neg c2]
  by_cases c3 : v = 3
  · rw [if_pos c3]; exact lw_3 lv k h hL hi l5 l6 l7
  rw [if_neg c3]
  by_cases c4 : v = 4
  · rw [if_pos c4]; exact lw_4 lv k h hL hi l5 l6 l7
  rw [if_neg c4]
  by_cases c5 : v = 5
  · rw [if_pos c5]; exact lw_5 lv k h hL hi l5 l6 l7
  rw [if_neg c5]
  by_cases c6 : v = 6
  · rw [if_pos c6]; exact lw_6 lv k h hL hi l5 l6 l7
  rw [if_neg c6]
  by_cases c7 : v = 7
  · rw [if_pos c7]; exact lw_7 lv k h hL hi l5 l6 l7
  rw [if_neg c7]
  by_cases c8 : v = 8
  · rw [if_pos c8]; exact lw_8 lv k h hL hi l5 l6 l7
  rw [if_neg c8]
  by_cases c9 : v = 9
  · rw [if_pos c9]; exact lw_9 lv k h hL hi l5 l6 l7
  rw [if_neg c9]
  by_cases c10 : v = 10
  · rw [if_pos c10]; exact lw_10 lv k h hL hi l5 l6 l7
  rw [if_neg c10]
  by_cases c11 : v = 11
  · rw [if_pos c11]; exact lw_11 lv k h hL hi l5 l6 l7
  rw [if_neg c11]
  by_cases c12 : v = 12
  · rw [if_pos c12]; exact lw_12 lv k h hL hi l5 l6 l7
  rw [if_neg c12]
  by_cases c13 : v = 13
  · rw [if_pos c13]; exact lw_13 lv k h hL hi l5 l6 l7
  rw [if_neg c13]
  by_cases c14 : v = 14
  · rw [if_pos c14]; exact lw_14 lv k h hL hi l5 l6 l7
  rw [if_neg c14]
  by_cases c15 : v = 15
  · rw [if_pos c15]; exact lw_15 lv k h hL hi l5 l6 l7
  rw [if_neg c15]
  by_cases c16 : v = 16
  · rw [if_pos c16]; exact lw_16 lv k h hL hi l5 l6 l7
  rw [if_neg c16]
  by_cases c17 : v = 17
  · rw [if_pos c17]; exact lw_17 lv k h hL hi l5 l6 l7
  rw [if_neg c17]
  by_cases c18 : v = 18
  · rw [if_pos c18]; exact lw_18 lv k h hL hi l5 l6 l7
  rw [if_neg c18]
  by_cases c19 : v = 19
  · rw [if_pos c19]; exact lw_19 lv k h hL hi l5 l6 l7
  rw [if_neg c19]
  by_cases c20 : v = 20
  · rw [if_pos c20]; exact lw_20 lv k h hL hi l5 l6 l7
  rw [if_neg c20]
  by_cases c21 : v = 21
  · rw [if_pos c21]; exact lw_21 lv k h hL hi l5 l6 l7
  rw [if_neg c21]
  by_cases c22 : v = 22
  · rw [if_pos c22]; exact lw_22 lv k h hL hi l5 l6 l7
  rw [if_neg c22]
  by_cases c23 : v = 23
  · rw [if_pos c23]; exact lw_23 lv k h hL hi l5 l6 l7
  rw [if_neg c23]
  by_cases c24 : v = 24
  · rw [if_pos c24]; exact lw_24 lv k h hL hi l5 l6 l7
  rw [if_neg c24]
  by_cases c25 : v = 25
  · rw [if_pos c25]; exact lw_25 lv k h hL hi l5 l6 l7
  rw [if_neg c25]
  by_cases c26 : v = 26
  · rw [if_pos c26]; exact lw_26 lv k h hL hi l5 l6 l7
  rw [if_neg c26]
  by_cases c27 : v = 27
  · rw [if_pos c27]; exact lw_27 lv k h hL hi l5 l6 l7
  rw [if_neg c27]
  by_cases c28 : v = 28
  · rw [if_pos c28]; exact lw_28 lv k h hL hi l5 l6 l7
  rw [if_neg c28]
  by_cases c29 : v = 29
  · rw [if_pos c29]; exact lw_29 lv k h hL hi l5 l6 l7
  rw [if_neg c29]
  by_cases c30 : v = 30
  · rw [if_pos c30]; exact lw_30 lv k h hL hi l5 l6 l7
  rw [if_neg c30]
  by_cases c31 : v = 31
  · rw [if_pos c31]; exact lw_31 lv k h hL hi l5 l6 l7
  rw [if_neg c31]
  by_cases c32 : v = 32
  · rw [if_pos c32]; exact lw_32 lv k h hL hi l5 l6 l7
  rw [if_neg c32]
  by_cases c33 : v = 33
  · rw [if_pos c33]; exact lw_33 lv k h hL hi l5 l6 l7
  rw [if_neg c33]
  by_cases c34 : v = 34
  · rw [if_pos c34]; exact lw_34 lv k h hL hi l5 l6 l7
  rw [if_neg c34]
  by_cases c35 : v = 35
  · rw [if_pos c35]; exact lw_35 lv k h hL hi l5 l6 l7
  rw [if_neg c35]
  by_cases c36 : v = 36
  · rw [if_pos c36]; exact lw_36 lv k h hL hi l5 l6 l7
  rw [if_neg c36]
  by_cases c37 : v = 37
  · rw [if_pos c37]; exact lw_37 lv k h hL hi l5 l6 l7
  rw [if_neg c37]
  exact ⟨n, k, G, s, ib, u, hs, l5, l6, l7, rfl, h, Nat.le_refl _, by omega, Nat.le_refl _, by omega⟩
theorem lw_lt {L i : Nat} (hL : L < 2 ^ 30) (hi : i < 2 ^ 30) : (nI L - 6 < nI i) = (L < i + 6) := propext (by
  rw [Int32.lt_iff_toInt_lt, show (6 : Int32) = nI 6 from rfl, pk_sub_toInt hL (by omega), nI_toInt (by omega)]
  omega)
theorem lw_end (h : LW G x s ib u hs n E.1) (hL : E.2.1 < 2 ^ 30) {i : Nat} (h30 : i < 2 ^ 30) (hi : E.2.1 < i + 6) (l5 l6 l7 : Option Value) : z_ev E i_L_law lv 23 [some (.ref E.1), some (.ref x), some (.ref (x + 118)), some (.ref (x + 133)), some (.int (nI i)), l5, l6, l7] [] n k G = some (some (.int 1), n, k, G) := by
  have c : (nI E.2.1 - 6 < nI i) = True := by rw [lw_lt hL h30]; exact eq_true hi
  have hb := h.2.2.2.2.1
  simp only [zr_L_law_23, zr_L_law_25, zr_L_law_25n, zr_L_law_26, zr_L_law_27, zr_L_law_29, zr_L_law_30, zr_L_law_1508, zr_L_law_1509, z_an_scr hb, c, lw_01, z_obs, z_pu_s, z_pu_n, z00, z10, ↓reduceIte, true_or, or_true, z_b_t, z_b_f]
theorem lw_turn (h : LW G x s ib u hs n E.1) (hL : E.2.1 < 2 ^ 30) {i : Nat} (hi : i + 6 ≤ E.2.1) (l5 l6 l7 : Option Value) : ∃ n' k' G' s' ib' u' hs' m5 m6 m7, z_ev E i_L_law lv 23 [some (.ref E.1), some (.ref x), some (.ref (x + 118)), some (.ref (x + 133)), some (.int (nI i)), l5, l6, l7] [] n k G = z_ev E i_L_law lv 23 [some (.ref E.1), some (.ref x), some (.ref (x + 118)), some (.ref (x + 133)), some (.int (nI (i + 6))), m5, m6, m7] [] n' k' G' ∧ LW G' x s' ib' u' hs' n' E.1 ∧ n ≤ n' ∧ n' ≤ n + 2 ∧ k ≤ k' ∧ k' ≤ k + 108 := by
  have c : (nI E.2.1 - 6 < nI i) = False := by rw [lw_lt hL (by omega)]; exact eq_false (by omega)
  have hb := h.2.2.2.2.1
  have rd : z_ai E G E.1 (nI i) = some (E.2.2 i) := z_ai_scr hb (by omega) (by omega)
  obtain ⟨n', k', G', s', ib', u', hs', m5, m6, m7, e, w⟩ := lw_sw lv k h (by omega) hi l5 l6 l7 (E.2.2 i &&& 63)
  have e1 : z_ev E i_L_law lv 23 [some (.ref E.1), some (.ref x), some (.ref (x + 118)), some (.ref (x + 133)), some (.int (nI i)), l5, l6, l7] [] n k G = z_ev E i_L_law lv 40 [some (.ref E.1), some (.ref x), some (.ref (x + 118)), some (.ref (x + 133)), some (.int (nI i)), l5, l6, l7] [.int (E.2.2 i &&& 63)] n k G := by
    simp only [zr_L_law_23, zr_L_law_25, zr_L_law_25n, zr_L_law_26, zr_L_law_27, zr_L_law_29, zr_L_law_30, zr_L_law_33, zr_L_law_33n, zr_L_law_34, zr_L_law_36, zr_L_law_37, zr_L_law_39, z_an_scr hb, c, rd, z_obs, z_pu_s, z_pu_n, z00, z10, ↓reduceIte, true_or, or_true, z_b_t, z_b_f]
  have e2 : z_ev E i_L_law lv 1502 [some (.ref E.1), some (.ref x), some (.ref (x + 118)), some (.ref (x + 133)), some (.int (nI i)), m5, m6, m7] [] n' k' G' = z_ev E i_L_law lv 23 [some (.ref E.1), some (.ref x), some (.ref (x + 118)), some (.ref (x + 133)), some (.int (nI (i + 6))), m5, m6, m7] [] n' k' G' := by
    rw [zr_L_law_1502, zr_L_law_1505, nI_p6]
  exact ⟨n', k', G', s', ib', u', hs', m5, m6, m7, e1.trans (e.trans e2), w⟩
end
theorem lw_loop {E : z_E} {x : Nat} (lv : Nat) (hL : E.2.1 < 2 ^ 30) : ∀ m i n k (G : z_H) (s : Nat → Nat) (ib : Bool) (u : Nat → Nat) (hs : Nat → Sh) (l5 l6 l7 : Option Value), i ≤ E.2.1 → E.2.1 < i + 6 * m + 6 → LW G x s ib u hs n E.1 → ∃ n' k' G', z_ev E i_L_law lv 23 [some (.ref E.1), some (.ref x), some (.ref (x + 118)), some (.ref (x + 133)), some (.int (nI i)), l5, l6, l7] [] n k G = some (some (.int 1), n', k', G') ∧ n ≤ n' ∧ n' ≤ n + 2 * m ∧ k ≤ k' ∧ k' ≤ k + 108 * m := by
  intro m
  induction m with
  | zero =>
    intro i n k G s ib u hs l5 l6 l7 h1 h2 w
    exact ⟨n, k, G, lw_end lv k w hL (by omega) (by omega) l5 l6 l7, by omega, by omega, by omega, by omega⟩
  | succ m ih =>
    intro i n k G s ib u hs l5 l6 l7 h1 h2 w
    by_cases hi : E.2.1 < i + 6
    · exact ⟨n, k, G, lw_end lv k w hL (by omega) hi l5 l6 l7, by omega, by omega, by omega, by omega⟩
    · obtain ⟨n1, k1, G1, s1, ib1, u1, hs1, m5, m6, m7, e, w1, a1, a2, a3, a4⟩ := lw_turn lv k w hL (i := i) (by omega) l5 l6 l7
      obtain ⟨n', k', G', e', b1, b2, b3, b4⟩ := ih (i + 6) n1 k1 G1 s1 ib1 u1 hs1 m5 m6 m7 (by omega) (by omega) w1
      exact ⟨n', k', G', by rw [e]; exact e', by omega, by omega, by omega, by omega⟩
theorem lw_n1 : ¬ ((1 : Int32) < 0 ∨ 4096 < (1 : Int32).toNatClampNeg) := by decide
theorem lw_c1 : (1 : Int32).toNatClampNeg = 1 := by decide
theorem lw_m1 : ¬ ((1 : Int32) < 0 ∨ 4096 < (1 : Nat)) := by decide
set_option maxRecDepth 20000 in
/-- the law holds of every script -/
theorem lw_law {E : z_E} (k x : Nat) (hb : E.1 < x) (hL : E.2.1 ≤ 3072) : ∃ n' k' G', z_evM E i_L_law 0 [.ref E.1] x k (fun _ => none) = some (some (.int 1), n', k', G') ∧ x ≤ n' ∧ n' ≤ x + 1158 ∧ k ≤ k' ∧ k' ≤ k + 57372 := by
  obtain ⟨G1, a1, a2, a3⟩ := sX_init (E := E) 0 (k + 11) (G := fun _ => none) (x := x)
  obtain ⟨G2, b1, b2, b3⟩ := dInit (E := E) 0 (k + 11 + 956 + 21) (G := G1) (a := x + 118)
  have w : LW (z_up G2 (x + 133) (.inr (.long, 1, .inr (.inl fun _ => 0)))) x s00 false s00 (fun _ => Sh.no) (x + 134) E.1 := by
    refine ⟨a2.same (by omega) fun q hq => ?_, b2.same fun q q1 q2 => z_up_n _ _ (by omega), ⟨_, z_up_s _ _ _⟩, Nat.le_refl _, ?_, hb, s00_SG, s00_SG, fun d _ sz el e => by cases e⟩
    · rw [z_up_n _ _ (by omega)]
      exact b3 q (by omega)
    · rw [z_up_n _ _ (by omega), b3 _ (by omega), a3 _ (by omega)]
  obtain ⟨n', k', G', e, c1, c2, c3, c4⟩ := lw_loop 0 (by omega) 512 0 (x + 134) (k + 11 + 956 + 21 + 1087 + 1) _ _ _ _ _ none none none (by omega) (by omega) w
  have e' : z_ev E i_L_law 0 23 [some (.ref E.1), some (.ref x), some (.ref (x + 118)), some (.ref (x + 133)), some (.int 0), none, none, none] [] (x + 134) (k + 11 + 956 + 21 + 1087 + 1) (z_up G2 (x + 133) (.inr (.long, 1, .inr (.inl fun _ => 0)))) = some (some (.int 1), n', k', G') := e
  refine ⟨n', k', G', ?_, by omega, by omega, by omega, by omega⟩
  simp only [Nat.add_assoc, Nat.reduceAdd] at a1 b1 e'
  simp only [zm_L_law, zr_L_law_0, zr_L_law_3, zr_L_law_4, zr_L_law_7, zr_L_law_8, zr_L_law_11, zr_L_law_12, zr_L_law_15, zr_L_law_16, zr_L_law_17, zr_L_law_19, zr_L_law_20, zr_L_law_21, a1, b1, e', lw_n1, lw_c1, lw_m1, Nat.add_assoc, Nat.reduceAdd, z_obs, z_pu_s, z_pu_n, z00, z10, ↓reduceIte, true_or, or_true, z_b_t, z_b_f]
