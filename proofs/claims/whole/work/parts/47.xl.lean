/-! THE CLASS: errands -/
/-- behind how many rings b opens, one each hour from so many hours on -/
def opH (s : Nat → Nat) (b d : Nat) : Option Nat := rto (fun i => sH s b (s 1 + d + i)) (sW s b) 48 0 (sR s b)
theorem rto_lt {p : Nat → Bool} {W : Nat} : ∀ m i r q, rto p W m i r = some q → i < q ∧ q ≤ i + m := by
  intro m
  induction m with
  | zero => intro i r q h; cases h
  | succ m ih =>
    intro i r q h
    unfold rto at h
    generalize (if p i = true then r + 1 else 0) = r' at h
    by_cases e : W ≤ r'
    · rw [if_pos e] at h; injection h with h; omega
    · rw [if_neg e] at h; have := ih _ _ _ h; omega
theorem rto_congr {p q : Nat → Bool} {W : Nat} : ∀ m i r, (∀ j, p j = q j) → rto p W m i r = rto q W m i r := by
  intro m i r h
  rw [show p = q from funext h]
theorem opH_lt {s : Nat → Nat} {b d r : Nat} (h : opH s b d = some r) : 0 < r ∧ r ≤ 48 := by have := rto_lt _ _ _ _ h; omega
theorem opH_mod (s : Nat → Nat) (b d : Nat) : rto (fun i => sH s b ((s 1 + d) % 24 + i)) (sW s b) 48 0 (sR s b) = opH s b d := rto_congr _ _ _ fun j => by
  unfold sH
  rw [show ((s 1 + d) % 24 + j) % 24 = (s 1 + d + j) % 24 by omega]
def wayN (s : Nat → Nat) (b at_ : Nat) : Nat := (faN s b at_ + 9) / 10
/-- the orders tried: how many hours the best one takes (201: none yet), and it -/
def erO (s : Nat → Nat) : Nat → Nat → Nat → Nat → Nat → (Nat → Nat) → Nat × (Nat → Nat) → Nat × (Nat → Nat)
  | 0, _, _, _, _, _, q => q
  | f + 1, i, left, at_, time, ln, q => if q.1 ≤ time then q else if left = 0 then (time, ln) else
    foldN (fun b q => if b6 left b = true then (match opH s b (time + wayN s b at_) with
      | some r => erO s f (i + 1) (left - 2 ^ b) (sP s b) (time + wayN s b at_ + r) (uN ln i b) q
      | none => q) else q) 6 0 q
def EG (G : z_H) (e : Nat) (fe mn : Nat) (rg od bs : Nat → Int32) : Prop := G e = some (.inl (10, [.ref (e + 1), .ref (e + 2), .ref (e + 3), .int (nI fe), .int (nI mn)])) ∧ G (e + 1) = some (.inr (.int, 144, .inl rg)) ∧ G (e + 2) = some (.inr (.int, 6, .inl od)) ∧ G (e + 3) = some (.inr (.int, 6, .inl bs))
/-- what the Errand holds between two steps -/
def EI (s : Nat → Nat) (G : z_H) (e K i : Nat) (ln : Nat → Nat) (q : Nat × (Nat → Nat)) : Prop := ∃ mn rg od bs, EG G e q.1 mn rg od bs ∧ q.1 ≤ 201 ∧ (q.1 = 201 → mn = 0) ∧ (q.1 < 201 → mn = K ∧ ∀ j, j < K → bs j = nI (q.2 j)) ∧ (∀ j, j < i → od j = nI (ln j)) ∧ ∀ b, b < s 0 → ∀ t, t < 24 → rg (b * 24 + t) = 0 ∨ rg (b * 24 + t) = oI (rto (fun i => sH s b (t + i)) (sW s b) 48 0 (sR s b))
section
variable {E : z_E} {G G0 : z_H} {e : Nat} {s : Nat → Nat} {fe mn : Nat} {rg od bs : Nat → Int32} (lv N k : Nat)
theorem EG.cls (h : EG G e fe mn rg od bs) : z_clsOf G e = some 10 := z_clsI h.1
theorem EG.f0 (h : EG G e fe mn rg od bs) (t f : Nat) : z_gf G e [0, 10, 10, t, f] = some (.ref (e + 1)) := z_gfI h.1 (by decide) (by decide) rfl
theorem EG.f1 (h : EG G e fe mn rg od bs) (t f : Nat) : z_gf G e [1, 10, 10, t, f] = some (.ref (e + 2)) := z_gfI h.1 (by decide) (by decide) rfl
theorem EG.f2 (h : EG G e fe mn rg od bs) (t f : Nat) : z_gf G e [2, 10, 10, t, f] = some (.ref (e + 3)) := z_gfI h.1 (by decide) (by decide) rfl
theorem EG.f3 (h : EG G e fe mn rg od bs) (t f : Nat) : z_gf G e [3, 10, 10, t, f] = some (.int (nI fe)) := z_gfI h.1 (by decide) (by decide) rfl
theorem EG.f4 (h : EG G e fe mn rg od bs) (t f : Nat) : z_gf G e [4, 10, 10, t, f] = some (.int (nI mn)) := z_gfI h.1 (by decide) (by decide) rfl
theorem EG.p3 (h : EG G e fe mn rg od bs) (v : Nat) : ∃ G', z_pf G e (.int (nI v)) false [3, 10, 10, 0, 0] = some G' ∧ EG G' e v mn rg od bs ∧ FR e 4 G G' := by
  refine ⟨_, z_pfI h.1 (Nat.le_refl _) (Nat.le_refl _) (Nat.le_of_ble_eq_true rfl) rfl (Or.inl rfl), ⟨z_up_s _ _ _, ?_, ?_, ?_⟩, fun q hq => z_up_n _ _ (by omega)⟩
  · rw [z_up_n _ _ (by omega)]; exact h.2.1
  · rw [z_up_n _ _ (by omega)]; exact h.2.2.1
  · rw [z_up_n _ _ (by omega)]; exact h.2.2.2
theorem EG.p4 (h : EG G e fe mn rg od bs) (v : Nat) : ∃ G', z_pf G e (.int (nI v)) false [4, 10, 10, 0, 0] = some G' ∧ EG G' e fe v rg od bs ∧ FR e 4 G G' := by
  refine ⟨_, z_pfI h.1 (Nat.le_refl _) (Nat.le_refl _) (Nat.le_of_ble_eq_true rfl) rfl (Or.inl rfl), ⟨z_up_s _ _ _, ?_, ?_, ?_⟩, fun q hq => z_up_n _ _ (by omega)⟩
  · rw [z_up_n _ _ (by omega)]; exact h.2.1
  · rw [z_up_n _ _ (by omega)]; exact h.2.2.1
  · rw [z_up_n _ _ (by omega)]; exact h.2.2.2
theorem EG.w1 (h : EG G e fe mn rg od bs) {j : Nat} (hj : j < 144) (v : Int32) : ∃ G', z_pi G (e + 1) (nI j) v = some G' ∧ EG G' e fe mn (upd rg j v) od bs ∧ FR e 4 G G' := by
  refine ⟨_, z_piI h.2.1 hj (by decide), ⟨?_, z_up_s _ _ _, ?_, ?_⟩, fun q hq => z_up_n _ _ (by omega)⟩
  · rw [z_up_n _ _ (by omega)]; exact h.1
  · rw [z_up_n _ _ (by omega)]; exact h.2.2.1
  · rw [z_up_n _ _ (by omega)]; exact h.2.2.2
theorem EG.w2 (h : EG G e fe mn rg od bs) {j : Nat} (hj : j < 6) (v : Int32) : ∃ G', z_pi G (e + 2) (nI j) v = some G' ∧ EG G' e fe mn rg (upd od j v) bs ∧ FR e 4 G G' := by
  refine ⟨_, z_piI h.2.2.1 hj (by decide), ⟨?_, ?_, z_up_s _ _ _, ?_⟩, fun q hq => z_up_n _ _ (by omega)⟩
  · rw [z_up_n _ _ (by omega)]; exact h.1
  · rw [z_up_n _ _ (by omega)]; exact h.2.1
  · rw [z_up_n _ _ (by omega)]; exact h.2.2.2
theorem EG.w3 (h : EG G e fe mn rg od bs) {j : Nat} (hj : j < 6) (v : Int32) : ∃ G', z_pi G (e + 3) (nI j) v = some G' ∧ EG G' e fe mn rg od (upd bs j v) ∧ FR e 4 G G' := by
  refine ⟨_, z_piI h.2.2.2 hj (by decide), ⟨?_, ?_, ?_, z_up_s _ _ _⟩, fun q hq => z_up_n _ _ (by omega)⟩
  · rw [z_up_n _ _ (by omega)]; exact h.1
  · rw [z_up_n _ _ (by omega)]; exact h.2.1
  · rw [z_up_n _ _ (by omega)]; exact h.2.2.1
theorem EG.r1 (h : EG G e fe mn rg od bs) {j : Nat} (hj : j < 144) : z_ai E G (e + 1) (nI j) = some (rg j) := z_aiI h.2.1 hj (by decide)
theorem EG.r2 (h : EG G e fe mn rg od bs) {j : Nat} (hj : j < 6) : z_ai E G (e + 2) (nI j) = some (od j) := z_aiI h.2.2.1 hj (by decide)
theorem EG.r3 (h : EG G e fe mn rg od bs) {j : Nat} (hj : j < 6) : z_ai E G (e + 3) (nI j) = some (bs j) := z_aiI h.2.2.2 hj (by decide)
theorem EG.n1 (h : EG G e fe mn rg od bs) : z_an E G (e + 1) = some (nI 144) := z_anI h.2.1
theorem sE_way {p : Nat} (hp : p < 1000) : z_evM E i_E_wayHours lv [.int (nI p)] N k G = some (some (.int (nI ((p + 9) / 10))), N, k, G) := by
  have q10 : ¬ nI 10 = 0 := nI_ne0 (by omega) (by omega)
  simp only [zm_E_wayHours, zr_E_wayHours_0, zr_E_wayHours_1, zr_E_wayHours_3, zr_E_wayHours_4, zr_E_wayHours_5, zr_E_wayHours_6, zr_E_wayHours_8, zr_E_wayHours_9, int_10, nI_add, pk_m1' (show 1 ≤ p + 10 by omega), q10, not_false_eq_true, show p + 10 - 1 = p + 9 by omega, pk_div (show p + 9 < 2 ^ 31 by omega) (show 0 < 10 by omega) (show 10 < 2 ^ 31 by omega)]
theorem oI_ne0 {o : Option Nat} (h : ∀ r, o = some r → 0 < r ∧ r < 2 ^ 31) : ¬ oI o = 0 := by
  rcases o with _ | r
  · decide
  · obtain ⟨a, b⟩ := h r rfl
    exact nI_ne0 (by omega) b
theorem sE_ringsFrom {a : Nat} (hM : MA G a s) (w : WF s) (ws : WS s) (hd : a + 9 ≤ e ∨ e + 4 ≤ a) {K i : Nat} {ln : Nat → Nat} {q : Nat × (Nat → Nat)} (hE : EI s G e K i ln q) {b t : Nat} (hb : b < s 0) (ht : t < 24) : ∃ G', z_evM E i_E_ringsFrom lv [.ref e, .ref a, .int (nI b), .int (nI t)] N k G = some (some (.int (oI (rto (fun i => sH s b (t + i)) (sW s b) 48 0 (sR s b)))), N, k, G') ∧ EI s G' e K i ln q ∧ FR e 4 G G' := by
  have w1 := w.1
  obtain ⟨mn, rg, od, bs, h, c1, c2, c3, c4, c5⟩ := hE
  have hlt : b * 24 + t < 144 := by omega
  have e1 : nI b * nI 24 + nI t = nI (b * 24 + t) := by rw [pk_mul, nI_add]
  have q1 : ¬ nI (b * 24 + t) < 0 := nI_pos (by omega)
  have q2 : nI (b * 24 + t) < nI 144 := nI_lt hlt (by omega)
  have hne : ¬ oI (rto (fun i => sH s b (t + i)) (sW s b) 48 0 (sR s b)) = 0 := oI_ne0 fun r hr => by have := rto_lt _ _ _ _ hr; omega
  by_cases h0 : rg (b * 24 + t) = 0
  · obtain ⟨G', p1, p2, p3⟩ := h.w1 hlt (oI (rto (fun i => sH s b (t + i)) (sW s b) 48 0 (sR s b)))
    refine ⟨G', ?_, ⟨mn, _, od, bs, p2, c1, c2, c3, c4, fun b' hb' t' ht' => ?_⟩, p3⟩
    · simp only [zm_E_ringsFrom, zr_E_ringsFrom_0, zr_E_ringsFrom_1, zr_E_ringsFrom_3, zr_E_ringsFrom_4, zr_E_ringsFrom_5, zr_E_ringsFrom_6, zr_E_ringsFrom_8, zr_E_ringsFrom_10, zr_E_ringsFrom_13, zr_E_ringsFrom_15, zr_E_ringsFrom_16, zr_E_ringsFrom_19, zr_E_ringsFrom_20, zr_E_ringsFrom_23, zr_E_ringsFrom_25, zr_E_ringsFrom_26, zr_E_ringsFrom_27, zr_E_ringsFrom_30, zr_E_ringsFrom_32, zr_E_ringsFrom_33, zr_E_ringsFrom_36, zr_E_ringsFrom_37, zr_E_ringsFrom_40, zr_E_ringsFrom_42, zr_E_ringsFrom_42n, zr_E_ringsFrom_43, zr_E_ringsFrom_44, zr_E_ringsFrom_45, zr_E_ringsFrom_48, zr_E_ringsFrom_49, zr_E_ringsFrom_50, zr_E_ringsFrom_53, zr_E_ringsFrom_55, zr_E_ringsFrom_56, int_24, e1, q1, q2, h.f0, h.n1, h.r1 hlt, h0, hM.cls, sM_ringsTillOpen _ _ _ hM w ws hb ht, p1, p2.f0, p2.r1 hlt, z_obs, z_pu_s, z_pu_n, z00, z10, ↓reduceIte, true_or, or_true, z_b_t, z_b_f, upd]
    · unfold upd
      by_cases e : b' * 24 + t' = b * 24 + t
      · have : b' = b := by omega
        have : t' = t := by omega
        subst b'; subst t'
        rw [if_pos rfl]; exact Or.inr rfl
      · rw [if_neg e]; exact c5 b' hb' t' ht'
  · have h1 : rg (b * 24 + t) = oI (rto (fun i => sH s b (t + i)) (sW s b) 48 0 (sR s b)) := by
      rcases c5 b hb t ht with q | q
      · exact absurd q h0
      · exact q
    refine ⟨G, ?_, ⟨mn, rg, od, bs, h, c1, c2, c3, c4, c5⟩, FR.rf⟩
    simp only [zm_E_ringsFrom, zr_E_ringsFrom_0, zr_E_ringsFrom_1, zr_E_ringsFrom_3, zr_E_ringsFrom_4, zr_E_ringsFrom_5, zr_E_ringsFrom_6, zr_E_ringsFrom_8, zr_E_ringsFrom_10, zr_E_ringsFrom_13, zr_E_ringsFrom_15, zr_E_ringsFrom_16, zr_E_ringsFrom_19, zr_E_ringsFrom_20, zr_E_ringsFrom_23, zr_E_ringsFrom_25, zr_E_ringsFrom_26, zr_E_ringsFrom_27, zr_E_ringsFrom_30, zr_E_ringsFrom_32, zr_E_ringsFrom_33, zr_E_ringsFrom_36, zr_E_ringsFrom_37, zr_E_ringsFrom_40, zr_E_ringsFrom_42, zr_E_ringsFrom_42n, zr_E_ringsFrom_43, zr_E_ringsFrom_44, zr_E_ringsFrom_45, zr_E_ringsFrom_48, zr_E_ringsFrom_49, zr_E_ringsFrom_50, zr_E_ringsFrom_53, zr_E_ringsFrom_55, zr_E_ringsFrom_56, int_24, e1, q1, q2, h.f0, h.n1, h.r1 hlt, h1, hne, z_obs, z_pu_s, z_pu_n, z00, z10, ↓reduceIte, true_or, or_true, z_b_t, z_b_f]
theorem sE_keepOrder {K i : Nat} {ln : Nat → Nat} {q : Nat × (Nat → Nat)} (hE : EI s G e K i ln q) (hi : i = K) (hK : K ≤ 6) {v : Nat} (hv : v < 201) : ∃ G', z_evM E i_E_keepOrder lv [.ref e, .int (nI v), .int (nI K)] N k G = some (none, N, k, G') ∧ EI s G' e K i ln (v, ln) ∧ FR e 4 G G' := by
  obtain ⟨mn, rg, od, bs, h, c1, c2, c3, c4, c5⟩ := hE
  obtain ⟨G1, p1, p2, p3⟩ := h.p3 v
  obtain ⟨G2, r1, r2, r3⟩ := p2.p4 K
  have key : ∀ m i G3 bs', i + m = 6 → EG G3 e v K rg od bs' → (∀ j, j < i → bs' j = od j) → ∃ G' bs', z_ev E i_E_keepOrder lv 12 [some (.ref e), some (.int (nI v)), some (.int (nI K)), some (.int (nI i))] [] N k G3 = some (none, N, k, G') ∧ EG G' e v K rg od bs' ∧ (∀ j, j < 6 → bs' j = od j) ∧ FR e 4 G3 G' := by
    intro m
    induction m with
    | zero =>
      intro i G3 bs' hi' h3 hb
      have : i = 6 := by omega
      subst this
      have c : nI 6 ≤ nI 6 := nI_le (Nat.le_refl _) (by omega)
      refine ⟨G3, bs', ?_, h3, hb, FR.rf⟩
      simp only [zr_E_keepOrder_12, zr_E_keepOrder_13, zr_E_keepOrder_15, zr_E_keepOrder_36, int_6, c, z_obs, z_pu_s, z_pu_n, z00, z10, ↓reduceIte, true_or, or_true, z_b_t, z_b_f]
    | succ m ih =>
      intro i G3 bs' hi' h3 hb
      have c : ¬ nI 6 ≤ nI i := nI_ge (by omega) (by omega)
      obtain ⟨G4, t1, t2, t3⟩ := h3.w3 (j := i) (by omega) (od i)
      obtain ⟨G', bs'', k1, k2, k3, k4⟩ := ih (i + 1) G4 _ (by omega) t2 (fun j hj => by
        unfold upd
        by_cases e : j = i
        · rw [if_pos e, e]
        · rw [if_neg e]; exact hb j (by omega))
      refine ⟨G', bs'', ?_, k2, k3, t3.tr k4⟩
      rw [← k1, zr_E_keepOrder_12]
      simp only [zr_E_keepOrder_13, zr_E_keepOrder_15, zr_E_keepOrder_18, zr_E_keepOrder_19, zr_E_keepOrder_22, zr_E_keepOrder_23, zr_E_keepOrder_24, zr_E_keepOrder_27, zr_E_keepOrder_28, zr_E_keepOrder_29, zr_E_keepOrder_30, zr_E_keepOrder_33, int_6, c, h3.f2, h3.f1, h3.r2 (show i < 6 by omega), t1, z_obs, z_pu_s, z_pu_n, z00, z10, ↓reduceIte, true_or, or_true, z_b_t, z_b_f, nI_1]
  obtain ⟨G', bs', k1, k2, k3, k4⟩ := key 6 0 G2 bs (by omega) r2 (fun j hj => absurd hj (Nat.not_lt_zero j))
  refine ⟨G', ?_, ⟨K, rg, od, bs', k2, by dsimp only; omega, fun hh => by dsimp only at hh; omega, fun _ => ⟨rfl, fun j hj => by rw [k3 j (by omega), c4 j (by omega)]⟩, c4, c5⟩, (p3.tr r3).tr k4⟩
  rw [← k1]
  simp only [zm_E_keepOrder, zr_E_keepOrder_0, zr_E_keepOrder_1, zr_E_keepOrder_2, zr_E_keepOrder_5, zr_E_keepOrder_6, zr_E_keepOrder_7, zr_E_keepOrder_10, zr_E_keepOrder_11, p1, r1, z_obs, z_pu_s, z_pu_n, z00, z10, ↓reduceIte, true_or, or_true, z_b_t, z_b_f]
  rfl
end
