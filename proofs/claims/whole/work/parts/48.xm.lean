/-! THE CLASS: errands, the orders tried -/
theorem lf6 : ∀ v, v < 64 → ∀ b, b < 6 → b6 v b = true → v - 2 ^ b < 64 ∧ pop (v - 2 ^ b) + 1 = pop v ∧ 2 ^ b ≤ v ∧ (nI v &&& (((1 : Int32) <<< (nI b &&& 31)) ^^^ (-1))) = nI (v - 2 ^ b) := by decide +kernel
theorem lf6b : ∀ v, v < 64 → ∀ b, b < 6 → b6 v b = true → ∀ c, c < 6 → b6 (v - 2 ^ b) c = true → b6 v c = true := by decide +kernel
theorem lf6c : ∀ v, v < 64 → ∀ b, b < 6 → ((nI v >>> (nI b &&& 31)) &&& 1) = if b6 v b = true then 1 else 0 := by decide +kernel
theorem lf6d : ∀ v, v < 64 → (v = 0 ↔ pop v = 0) := by decide +kernel
theorem EI.sub {s : Nat → Nat} {G : z_H} {e K i : Nat} {ln : Nat → Nat} {q : Nat × (Nat → Nat)} {v : Nat} (h : EI s G e K (i + 1) (uN ln i v) q) : EI s G e K i ln q := by
  obtain ⟨mn, rg, od, bs, h, c1, c2, c3, c4, c5⟩ := h
  exact ⟨mn, rg, od, bs, h, c1, c2, c3, fun j hj => by rw [c4 j (by omega), uN_n _ _ (by omega)], c5⟩
section
variable {E : z_E} {e a : Nat} {s : Nat → Nat} (N k : Nat)
theorem sE_goOn (w : WF s) (ws : WS s) (hd : a + 9 ≤ e ∨ e + 4 ≤ a) {K : Nat} (hK : K ≤ 6) : ∀ lv i left at_ time ln q G, pop left ≤ lv → i + pop left = K → left < 64 → (∀ b, b < 6 → b6 left b = true → b < s 0) → at_ < 31 → time ≤ 300 → MA G a s → EI s G e K i ln q → ∃ G', z_evM E i_E_goOn lv [.ref e, .ref a, .int (nI at_), .int (nI left), .int (nI time), .int (nI i)] N k G = some (none, N, k, G') ∧ EI s G' e K i ln (erO s (lv + 1) i left at_ time ln q) ∧ FR e 4 G G' := by
  have w1 := w.1
  have w2 := w.2.1
  intro lv
  induction lv with
  | zero =>
    intro i left at_ time ln q G hp hi hl hb ha ht hM hE
    have h0 : left = 0 := (lf6d left hl).mpr (by omega)
    obtain ⟨mn, rg, od, bs, h, c1, c2, c3, c4, c5⟩ := id hE
    unfold erO
    by_cases hge : q.1 ≤ time
    · have c : ¬ nI time < nI q.1 := nI_nlt hge (by omega)
      rw [if_pos hge]
      refine ⟨G, ?_, hE, FR.rf⟩
      simp only [zm_E_goOn, zr_E_goOn_0, zr_E_goOn_2, zr_E_goOn_2n, zr_E_goOn_3, zr_E_goOn_6, zr_E_goOn_9, h.f3, c, z_obs, z_pu_s, z_pu_n, z00, z10, ↓reduceIte, true_or, or_true, z_b_t, z_b_f]
    · have c : nI time < nI q.1 := nI_lt (by omega) (by omega)
      rw [if_neg hge, if_pos h0]
      obtain ⟨G', g1, g2, g3⟩ := sE_keepOrder (E := E) 0 N k hE (by rw [h0] at hi; exact hi) hK (v := time) (by omega)
      have hiK : i = K := by rw [h0] at hi; exact hi
      refine ⟨G', ?_, g2, g3⟩
      subst h0
      rw [← hiK] at g1
      simp only [zm_E_goOn, zr_E_goOn_0, zr_E_goOn_2, zr_E_goOn_2n, zr_E_goOn_3, zr_E_goOn_6, zr_E_goOn_9, zr_E_goOn_10, zr_E_goOn_11, zr_E_goOn_14, zr_E_goOn_14n, zr_E_goOn_15, zr_E_goOn_17, zr_E_goOn_19, zr_E_goOn_22, h.f3, c, show (nI 0 = 0) = True from eq_true rfl, h.cls, g1, z_obs, z_pu_s, z_pu_n, z00, z10, ↓reduceIte, true_or, or_true, z_b_t, z_b_f]
  | succ lv ih =>
    intro i left at_ time ln q G hp hi hl hb ha ht hM hE
    obtain ⟨mn, rg, od, bs, h, c1, c2, c3, c4, c5⟩ := id hE
    rw [erO]
    by_cases hge : q.1 ≤ time
    · have c : ¬ nI time < nI q.1 := nI_nlt hge (by omega)
      rw [if_pos hge]
      refine ⟨G, ?_, hE, FR.rf⟩
      simp only [zm_E_goOn, zr_E_goOn_0, zr_E_goOn_2, zr_E_goOn_2n, zr_E_goOn_3, zr_E_goOn_6, zr_E_goOn_9, h.f3, c, z_obs, z_pu_s, z_pu_n, z00, z10, ↓reduceIte, true_or, or_true, z_b_t, z_b_f]
    · have c : nI time < nI q.1 := nI_lt (by omega) (by omega)
      rw [if_neg hge]
      by_cases h0 : left = 0
      · rw [if_pos h0]
        have hiK : i = K := by rw [h0] at hi; exact hi
        obtain ⟨G', g1, g2, g3⟩ := sE_keepOrder (E := E) 0 N k hE hiK hK (v := time) (by omega)
        refine ⟨G', ?_, g2, g3⟩
        subst h0
        rw [← hiK] at g1
        simp only [zm_E_goOn, zr_E_goOn_0, zr_E_goOn_2, zr_E_goOn_2n, zr_E_goOn_3, zr_E_goOn_6, zr_E_goOn_9, zr_E_goOn_10, zr_E_goOn_11, zr_E_goOn_14, zr_E_goOn_14n, zr_E_goOn_15, zr_E_goOn_17, zr_E_goOn_19, zr_E_goOn_22, h.f3, c, show (nI 0 = 0) = True from eq_true rfl, h.cls, g1, z_obs, z_pu_s, z_pu_n, z00, z10, ↓reduceIte, true_or, or_true, z_b_t, z_b_f]
      · rw [if_neg h0]
        have hpl : 1 ≤ pop left := by
          rcases Nat.eq_zero_or_pos (pop left) with z | z
          · exact absurd ((lf6d left hl).mpr z) h0
          · exact z
        have hi6 : i < 6 := by omega
        have ci : ¬ nI 6 ≤ nI i := nI_ge hi6 (by omega)
        have cl : ¬ nI left = 0 := nI_ne0 (by omega) (by omega)
        obtain ⟨G', _, e', p⟩ := z_loopG (fun b (q : Nat × (Nat → Nat)) (jk : Option Value × Option Value) G => z_ev E i_E_goOn (lv + 1) 26 [some (.ref e), some (.ref a), some (.int (nI at_)), some (.int (nI left)), some (.int (nI time)), some (.int (nI i)), some (.int (nI b)), jk.1, jk.2] [] N k G) (fun b q => if b6 left b = true then (match opH s b (time + wayN s b at_) with
          | some r => erO s (lv + 1) (i + 1) (left - 2 ^ b) (sP s b) (time + wayN s b at_ + r) (uN ln i b) q
          | none => q) else q) (fun b q G' => EI s G' e K i ln q ∧ FR e 4 G G') 6 (fun q _ G => some (none, N, k, G)) (fun q jk G1 hP => by
          have c : nI 6 ≤ nI 6 := nI_le (Nat.le_refl _) (by omega)
          simp only [zr_E_goOn_26, zr_E_goOn_28, zr_E_goOn_30, zr_E_goOn_131, int_6, c, z_obs, z_pu_s, z_pu_n, z00, z10, ↓reduceIte, true_or, or_true, z_b_t, z_b_f]) (fun b q jk G1 hb6 hP => by
          have c : ¬ nI 6 ≤ nI b := nI_ge hb6 (by omega)
          have hbit := lf6c left hl b hb6
          obtain ⟨hEI, hF⟩ := hP
          cases hlb : b6 left b
          · rw [hlb] at hbit
            refine ⟨G1, jk, ?_, hEI, hF⟩
            rw [zr_E_goOn_26]
            simp only [zr_E_goOn_28, zr_E_goOn_30, zr_E_goOn_33, zr_E_goOn_35, zr_E_goOn_37, zr_E_goOn_40, zr_E_goOn_41, zr_E_goOn_43, zr_E_goOn_44, zr_E_goOn_45, zr_E_goOn_46, zr_E_goOn_125, zr_E_goOn_128, int_6, c, ci, hbit, z_obs, z_pu_s, z_pu_n, z00, z10, ↓reduceIte, true_or, or_true, z_b_t, z_b_f, nI_1, Bool.false_eq_true]
          · rw [hlb] at hbit
            have hbs := hb b hb6 hlb
            have hPl := (w.2.2.2 b hbs).2.2.1
            obtain ⟨f1, f2, f3, f4⟩ := lf6 left hl b hb6 hlb
            have hM1 : MA G1 a s := hM.of_eq fun q q1 q2 => hF q (by omega)
            have hfa : faN s b at_ < 31 := by unfold faN; split <;> omega
            have hway : wayN s b at_ ≤ 3 := by unfold wayN; omega
            have hff := sM_farFrom (E := E) 0 N k hM1 w hbs ha
            change z_evM E i_M_farFrom 0 [.ref a, .int (nI b), .int (nI at_)] N k G1 = some (some (.int (nI (faN s b at_))), N, k, G1) at hff
            have hwy := sE_way (E := E) (G := G1) 0 N k (p := faN s b at_) (by omega)
            change z_evM E i_E_wayHours 0 [.int (nI (faN s b at_))] N k G1 = some (some (.int (nI (wayN s b at_))), N, k, G1) at hwy
            have hlt : (s 1 + (time + wayN s b at_)) % 24 < 24 := Nat.mod_lt _ (by omega)
            obtain ⟨G2, r1, r2, r3⟩ := sE_ringsFrom (E := E) 0 N k hM1 w ws hd hEI hbs hlt
            rw [show rto (fun i => sH s b ((s 1 + (time + wayN s b at_)) % 24 + i)) (sW s b) 48 0 (sR s b) = opH s b (time + wayN s b at_) from opH_mod s b _] at r1
            obtain ⟨mn2, rg2, od2, bs2, h2, d1, d2, d3, d4, d5⟩ := id r2
            obtain ⟨G3, t1, t2, t3⟩ := h2.w2 hi6 (nI b)
            obtain ⟨mn1, rg1, od1, bs1, hg1, -⟩ := id hEI
            have hM3 : MA G3 a s := hM1.of_eq fun q q1 q2 => by rw [t3 q (by omega), r3 q (by omega)]
            have hE3 : EI s G3 e K (i + 1) (uN ln i b) q := ⟨mn2, rg2, _, bs2, t2, d1, d2, d3, fun j hj => by
              unfold upd
              by_cases ej : j = i
              · rw [if_pos ej, ej, uN_s]
              · rw [if_neg ej, uN_n _ _ ej]; exact d4 j (by omega), d5⟩
            have c24 : ¬ nI 24 = 0 := nI_ne0 (by omega) (by omega)
            rcases eo : opH s b (time + wayN s b at_) with _ | r
            · rw [eo] at r1
              refine ⟨G3, (some (.int (nI (time + wayN s b at_))), some (.int (-4))), ?_, hE3.sub, fun q hq => by rw [t3 q hq, r3 q hq]; exact hF q hq⟩
              have cn : oI none ≤ 0 := by decide
              rw [zr_E_goOn_26]
              simp only [zr_E_goOn_28, zr_E_goOn_30, zr_E_goOn_33, zr_E_goOn_35, zr_E_goOn_37, zr_E_goOn_40, zr_E_goOn_41, zr_E_goOn_43, zr_E_goOn_44, zr_E_goOn_45, zr_E_goOn_46, zr_E_goOn_49, zr_E_goOn_51, zr_E_goOn_51n, zr_E_goOn_52, zr_E_goOn_54, zr_E_goOn_55, zr_E_goOn_58, zr_E_goOn_61, zr_E_goOn_62, zr_E_goOn_64, zr_E_goOn_64n, zr_E_goOn_65, zr_E_goOn_65n, zr_E_goOn_66, zr_E_goOn_68, zr_E_goOn_68n, zr_E_goOn_69, zr_E_goOn_72, zr_E_goOn_74, zr_E_goOn_75, zr_E_goOn_77, zr_E_goOn_78, zr_E_goOn_81, zr_E_goOn_83, zr_E_goOn_83n, zr_E_goOn_84, zr_E_goOn_87, zr_E_goOn_89, zr_E_goOn_91, zr_E_goOn_92, zr_E_goOn_94, zr_E_goOn_125, zr_E_goOn_128, int_6, c, ci, hbit, hM1.cls, hff, hwy, nI_add, hM1.f9, int_24, c24, not_false_eq_true, pk_div (show s 1 + (time + wayN s b at_) < 2 ^ 31 by omega) (show 0 < 24 by omega) (show 24 < 2 ^ 31 by omega), z_rem2 (show s 1 + (time + wayN s b at_) < 2 ^ 31 by omega) (show 0 < 24 by omega) (show 24 < 2 ^ 31 by omega), hg1.cls, r1, h2.f1, t1, cn, z_obs, z_pu_s, z_pu_n, z00, z10, ↓reduceIte, true_or, or_true, z_b_t, z_b_f, nI_1]
              rfl
            · rw [eo] at r1
              obtain ⟨ho1, ho2⟩ := opH_lt eo
              have cn : ¬ nI r ≤ 0 := nI_nle ho1 (by omega)
              obtain ⟨G4, u1, u2, u3⟩ := ih (i + 1) (left - 2 ^ b) (sP s b) (time + wayN s b at_ + r) (uN ln i b) q G3 (by omega) (by omega) f1 (fun c hc hcb => hb c hc (lf6b left hl b hb6 hlb c hc hcb)) hPl (by omega) hM3 hE3
              refine ⟨G4, (some (.int (nI (time + wayN s b at_))), some (.int (nI r))), ?_, u2.sub, fun q hq => by rw [u3 q hq, t3 q hq, r3 q hq]; exact hF q hq⟩
              rw [zr_E_goOn_26]
              simp only [zr_E_goOn_28, zr_E_goOn_30, zr_E_goOn_33, zr_E_goOn_35, zr_E_goOn_37, zr_E_goOn_40, zr_E_goOn_41, zr_E_goOn_43, zr_E_goOn_44, zr_E_goOn_45, zr_E_goOn_46, zr_E_goOn_49, zr_E_goOn_51, zr_E_goOn_51n, zr_E_goOn_52, zr_E_goOn_54, zr_E_goOn_55, zr_E_goOn_58, zr_E_goOn_61, zr_E_goOn_62, zr_E_goOn_64, zr_E_goOn_64n, zr_E_goOn_65, zr_E_goOn_65n, zr_E_goOn_66, zr_E_goOn_68, zr_E_goOn_68n, zr_E_goOn_69, zr_E_goOn_72, zr_E_goOn_74, zr_E_goOn_75, zr_E_goOn_77, zr_E_goOn_78, zr_E_goOn_81, zr_E_goOn_83, zr_E_goOn_83n, zr_E_goOn_84, zr_E_goOn_87, zr_E_goOn_89, zr_E_goOn_91, zr_E_goOn_92, zr_E_goOn_94, zr_E_goOn_97, zr_E_goOn_97n, zr_E_goOn_98, zr_E_goOn_98n, zr_E_goOn_99, zr_E_goOn_99n, zr_E_goOn_100, zr_E_goOn_102, zr_E_goOn_105, zr_E_goOn_106, zr_E_goOn_107, zr_E_goOn_109, zr_E_goOn_110, zr_E_goOn_111, zr_E_goOn_112, zr_E_goOn_113, zr_E_goOn_115, zr_E_goOn_117, zr_E_goOn_118, zr_E_goOn_120, zr_E_goOn_121, zr_E_goOn_122, zr_E_goOn_125, zr_E_goOn_128, int_6, c, ci, hbit, hM1.cls, hff, hwy, nI_add, hM1.f9, int_24, c24, not_false_eq_true, pk_div (show s 1 + (time + wayN s b at_) < 2 ^ 31 by omega) (show 0 < 24 by omega) (show 24 < 2 ^ 31 by omega), z_rem2 (show s 1 + (time + wayN s b at_) < 2 ^ 31 by omega) (show 0 < 24 by omega) (show 24 < 2 ^ 31 by omega), hg1.cls, r1, h2.f1, t1, oI, cn, z_obs, z_pu_s, z_pu_n, z00, z10, ↓reduceIte, true_or, or_true, z_b_t, z_b_f, nI_1, hM3.cls, sM_placeOf _ _ _ hM3 w hbs, f4, t2.cls, u1]) 6 0 q (none, none) G (by omega) ⟨hE, FR.rf⟩
        refine ⟨G', ?_, p.1, p.2⟩
        rw [← e']
        simp only [zm_E_goOn, zr_E_goOn_0, zr_E_goOn_2, zr_E_goOn_2n, zr_E_goOn_3, zr_E_goOn_6, zr_E_goOn_9, zr_E_goOn_10, zr_E_goOn_11, zr_E_goOn_23, zr_E_goOn_24, h.f3, c, cl, z_obs, z_pu_s, z_pu_n, z00, z10, ↓reduceIte, true_or, or_true, z_b_t, z_b_f]
        rfl
theorem sE_seek {G : z_H} (lv : Nat) (w : WF s) (ws : WS s) (hd : a + 9 ≤ e ∨ e + 4 ≤ a) (hM : MA G a s) {fe mn : Nat} {rg od bs : Nat → Int32} {p0 q0 : Int32} (h : G e = some (.inl (10, [.ref (e + 1), .ref (e + 2), .ref (e + 3), .int p0, .int q0]))) (h1 : G (e + 1) = some (.inr (.int, 144, .inl rg))) (h2 : G (e + 2) = some (.inr (.int, 6, .inl od))) (h3 : G (e + 3) = some (.inr (.int, 6, .inl bs))) {left at_ : Nat} (hl : left < 64) (hb : ∀ b, b < 6 → b6 left b = true → b < s 0) (ha : at_ < 31) : ∃ G', z_evM E i_E_seek lv [.ref e, .ref a, .int (nI at_), .int (nI left)] N k G = some (none, N, k, G') ∧ (∃ ln, EI s G' e (pop left) 0 ln (erO s 7 0 left at_ 0 (fun _ => 0) (201, fun _ => 0))) ∧ FR e 4 G G' := by
  have g0 : ∀ {G1 : z_H}, G1 e = some (.inl (10, [.ref (e + 1), .ref (e + 2), .ref (e + 3), .int p0, .int q0])) → ∀ t f, z_gf G1 e [0, 10, 10, t, f] = some (.ref (e + 1)) := fun h t f => z_gfI h (by decide) (by decide) rfl
  have key : ∀ m i G1 rg', i + m = 144 → G1 e = some (.inl (10, [.ref (e + 1), .ref (e + 2), .ref (e + 3), .int p0, .int q0])) → G1 (e + 1) = some (.inr (.int, 144, .inl rg')) → (∀ j, j < i → rg' j = 0) → (∀ q, q ≠ e + 1 → G1 q = G q) → ∃ G' rg', z_ev E i_E_seek lv 3 [some (.ref e), some (.ref a), some (.int (nI at_)), some (.int (nI left)), some (.int (nI i))] [] N k G1 = z_ev E i_E_seek lv 27 [some (.ref e), some (.ref a), some (.int (nI at_)), some (.int (nI left)), some (.int (nI 144))] [] N k G' ∧ G' e = some (.inl (10, [.ref (e + 1), .ref (e + 2), .ref (e + 3), .int p0, .int q0])) ∧ G' (e + 1) = some (.inr (.int, 144, .inl rg')) ∧ (∀ j, j < 144 → rg' j = 0) ∧ (∀ q, q ≠ e + 1 → G' q = G q) := by
    intro m
    induction m with
    | zero =>
      intro i G1 rg' hi e0 e1 e2 e3
      have : i = 144 := by omega
      subst this
      have c : nI 144 ≤ nI 144 := nI_le (Nat.le_refl _) (by omega)
      refine ⟨G1, rg', ?_, e0, e1, e2, e3⟩
      simp only [zr_E_seek_3, zr_E_seek_5, zr_E_seek_6, zr_E_seek_9, zr_E_seek_10, g0 e0, z_anI e1, c, z_obs, z_pu_s, z_pu_n, z00, z10, ↓reduceIte, true_or, or_true, z_b_t, z_b_f]
    | succ m ih =>
      intro i G1 rg' hi e0 e1 e2 e3
      have c : ¬ nI 144 ≤ nI i := nI_ge (by omega) (by omega)
      have hp := z_piI (x := 0) (j := i) e1 (by omega) (by decide)
      obtain ⟨G', rg'', k1, k2⟩ := ih (i + 1) (z_up G1 (e + 1) (.inr (.int, 144, .inl (upd rg' i 0)))) (upd rg' i 0) (by omega) (by rw [z_up_n _ _ (by omega)]; exact e0) (z_up_s _ _ _) (fun j hj => by
        unfold upd
        by_cases ej : j = i
        · rw [if_pos ej]
        · rw [if_neg ej]; exact e2 j (by omega)) (fun q hq => by rw [z_up_n _ _ hq]; exact e3 q hq)
      refine ⟨G', rg'', ?_, k2⟩
      rw [← k1, zr_E_seek_3]
      simp only [zr_E_seek_5, zr_E_seek_6, zr_E_seek_9, zr_E_seek_10, zr_E_seek_13, zr_E_seek_14, zr_E_seek_17, zr_E_seek_19, zr_E_seek_20, zr_E_seek_21, zr_E_seek_24, g0 e0, z_anI e1, c, hp, z_obs, z_pu_s, z_pu_n, z00, z10, ↓reduceIte, true_or, or_true, z_b_t, z_b_f, nI_1]
  obtain ⟨G1, rg', k1, k2, k3, k4, k5⟩ := key 144 0 G rg (by omega) h h1 (fun j hj => absurd hj (Nat.not_lt_zero j)) (fun _ _ => rfl)
  have p : z_pf G1 e (.int 201) false [3, 10, 10, 0, 0] = some (z_up G1 e (.inl (10, [.ref (e + 1), .ref (e + 2), .ref (e + 3), .int 201, .int q0]))) := z_pfI k2 (Nat.le_refl _) (Nat.le_refl _) (Nat.le_of_ble_eq_true rfl) rfl (Or.inl rfl)
  have p' : z_pf (z_up G1 e (.inl (10, [.ref (e + 1), .ref (e + 2), .ref (e + 3), .int 201, .int q0]))) e (.int 0) false [4, 10, 10, 0, 0] = some (z_up G1 e (.inl (10, [.ref (e + 1), .ref (e + 2), .ref (e + 3), .int 201, .int 0]))) := z_nf0 (Nat.le_refl _) (Nat.le_refl _) (Nat.le_of_ble_eq_true rfl) rfl (Or.inl rfl)
  have hEG : EG (z_up G1 e (.inl (10, [.ref (e + 1), .ref (e + 2), .ref (e + 3), .int 201, .int 0]))) e 201 0 rg' od bs := ⟨z_up_s _ _ _, by rw [z_up_n _ _ (by omega)]; exact k3, by rw [z_up_n _ _ (by omega), k5 _ (by omega)]; exact h2, by rw [z_up_n _ _ (by omega), k5 _ (by omega)]; exact h3⟩
  have hF : FR e 4 G (z_up G1 e (.inl (10, [.ref (e + 1), .ref (e + 2), .ref (e + 3), .int 201, .int 0]))) := fun q hq => by rw [z_up_n _ _ (by omega), k5 q (by omega)]
  have w1 := w.1
  obtain ⟨G', u1, u2, u3⟩ := sE_goOn (E := E) N k w ws hd (pop_le left) 6 0 left at_ 0 (fun _ => 0) (201, fun _ => 0) _ (pop_le left) (Nat.zero_add _) hl hb ha (by omega) (hM.of_eq fun q q1 q2 => hF q (by omega)) ⟨0, rg', od, bs, hEG, Nat.le_refl _, fun _ => rfl, fun hh => absurd hh (by decide), fun j hj => absurd hj (Nat.not_lt_zero j), fun b hb' t ht => Or.inl (k4 _ (by omega))⟩
  refine ⟨G', ?_, ⟨_, u2⟩, hF.tr u3⟩
  rw [nI_0] at u1
  simp only [zm_E_seek, zr_E_seek_0, zr_E_seek_1]
  rw [int_0, k1]
  simp only [zr_E_seek_27, zr_E_seek_28, zr_E_seek_31, zr_E_seek_34, zr_E_seek_35, zr_E_seek_36, zr_E_seek_39, zr_E_seek_40, zr_E_seek_40n, zr_E_seek_41, zr_E_seek_42, zr_E_seek_43, zr_E_seek_44, zr_E_seek_45, zr_E_seek_48, p, p', hEG.cls, u1, z_obs, z_pu_s, z_pu_n, z00, z10, ↓reduceIte, true_or, or_true, z_b_t, z_b_f]
end
