/-! MARSH: a bell more, one bell held -/
def kord (k : Nat) : Nat := if k = 1 then 3 else if k = 2 then 1 else if k = 3 then 6 else if k = 4 then 4 else if k = 5 then 5 else if k = 6 then 2 else if k = 7 then 7 else 0
theorem kord_le (k : Nat) : kord k ≤ 7 := by unfold kord; (repeat' split) <;> omega
/-- a house: a KIND with a FIGURE -/
def BA (G : z_H) (q k f : Nat) : Prop := G q = some (.inl (kord k, [.int (nI k), .int (nI f), .int (hb k f), .int (nI (wt k f)), .int (nI (stp k f)), .int (nI (prc k f))]))
section
variable {G : z_H} {q k f : Nat}
theorem BA.f0 (h : BA G q k f) (t u : Nat) : z_gf G q [0, 0, 7, t, u] = some (.int (nI k)) := z_gfI h (Nat.zero_le _) (kord_le k) rfl
theorem BA.f1 (h : BA G q k f) (t u : Nat) : z_gf G q [1, 0, 7, t, u] = some (.int (nI f)) := z_gfI h (Nat.zero_le _) (kord_le k) rfl
theorem BA.f2 (h : BA G q k f) (t u : Nat) : z_gf G q [2, 0, 7, t, u] = some (.int (hb k f)) := z_gfI h (Nat.zero_le _) (kord_le k) rfl
theorem BA.f3 (h : BA G q k f) (t u : Nat) : z_gf G q [3, 0, 7, t, u] = some (.int (nI (wt k f))) := z_gfI h (Nat.zero_le _) (kord_le k) rfl
theorem BA.f4 (h : BA G q k f) (t u : Nat) : z_gf G q [4, 0, 7, t, u] = some (.int (nI (stp k f))) := z_gfI h (Nat.zero_le _) (kord_le k) rfl
theorem BA.f5 (h : BA G q k f) (t u : Nat) : z_gf G q [5, 0, 7, t, u] = some (.int (nI (prc k f))) := z_gfI h (Nat.zero_le _) (kord_le k) rfl
theorem BA.mono {G' : z_H} (h : BA G q k f) (hq : G' q = G q) : BA G' q k f := by unfold BA; rw [hq]; exact h
end
def adS (s : Nat → Nat) (k f p : Nat) : Nat → Nat := uN (uN (uN (uN (uN (uN s (3 + 5 * s 0) k) (4 + 5 * s 0) f) (5 + 5 * s 0) p) (6 + 5 * s 0) 0) (7 + 5 * s 0) 0) 0 (s 0 + 1)
section
variable {s : Nat → Nat} {k f p : Nat}
theorem adS_0 : adS s k f p 0 = s 0 + 1 := uN_s _ _ _
theorem adS_1 : adS s k f p 1 = s 1 := by unfold adS; rw [uN_n _ _ (by omega), uN_n _ _ (by omega), uN_n _ _ (by omega), uN_n _ _ (by omega), uN_n _ _ (by omega), uN_n _ _ (by omega)]
theorem adS_2 : adS s k f p 2 = s 2 := by unfold adS; rw [uN_n _ _ (by omega), uN_n _ _ (by omega), uN_n _ _ (by omega), uN_n _ _ (by omega), uN_n _ _ (by omega), uN_n _ _ (by omega)]
theorem adS_K (b : Nat) : sK (adS s k f p) b = if b = s 0 then k else sK s b := by
  unfold adS sK
  rw [uN_n _ _ (by omega), uN_n _ _ (by omega), uN_n _ _ (by omega), uN_n _ _ (by omega), uN_n _ _ (by omega)]
  by_cases h : b = s 0
  · rw [if_pos h, h, uN_s]
  · rw [if_neg h, uN_n _ _ (by omega)]
theorem adS_F (b : Nat) : sF (adS s k f p) b = if b = s 0 then f else sF s b := by
  unfold adS sF
  rw [uN_n _ _ (by omega), uN_n _ _ (by omega), uN_n _ _ (by omega), uN_n _ _ (by omega)]
  by_cases h : b = s 0
  · rw [if_pos h, h, uN_s]
  · rw [if_neg h, uN_n _ _ (by omega), uN_n _ _ (by omega)]
theorem adS_P (b : Nat) : sP (adS s k f p) b = if b = s 0 then p else sP s b := by
  unfold adS sP
  rw [uN_n _ _ (by omega), uN_n _ _ (by omega), uN_n _ _ (by omega)]
  by_cases h : b = s 0
  · rw [if_pos h, h, uN_s]
  · rw [if_neg h, uN_n _ _ (by omega), uN_n _ _ (by omega), uN_n _ _ (by omega)]
theorem adS_R (b : Nat) : sR (adS s k f p) b = if b = s 0 then 0 else sR s b := by
  unfold adS sR
  rw [uN_n _ _ (by omega), uN_n _ _ (by omega)]
  by_cases h : b = s 0
  · rw [if_pos h, h, uN_s]
  · rw [if_neg h, uN_n _ _ (by omega), uN_n _ _ (by omega), uN_n _ _ (by omega), uN_n _ _ (by omega)]
theorem adS_O (b : Nat) : sO (adS s k f p) b = if b = s 0 then 0 else sO s b := by
  unfold adS sO
  rw [uN_n _ _ (by omega)]
  by_cases h : b = s 0
  · rw [if_pos h, h, uN_s]
  · rw [if_neg h, uN_n _ _ (by omega), uN_n _ _ (by omega), uN_n _ _ (by omega), uN_n _ _ (by omega), uN_n _ _ (by omega)]
theorem adS_W (b : Nat) : sW (adS s k f p) b = if b = s 0 then wt k f else sW s b := by
  unfold sW
  rw [adS_K, adS_F]
  split <;> rfl
theorem adS_S (b : Nat) : sS (adS s k f p) b = if b = s 0 then stp k f else sS s b := by
  unfold sS
  rw [adS_K, adS_F]
  split <;> rfl
theorem adS_WF (w : WF s) (h6 : s 0 < 6) (hk : k < 8) (hf : f < 10) (hp : p < 31) : WF (adS s k f p) := by
  refine ⟨by rw [adS_0]; omega, by rw [adS_1]; exact w.2.1, by rw [adS_2]; exact w.2.2.1, fun b hb => ?_⟩
  rw [adS_0] at hb
  rw [adS_K, adS_F, adS_P, adS_R, adS_O]
  by_cases e : b = s 0
  · simp only [e, if_true]
    exact ⟨hk, hf, hp, by omega, by omega⟩
  · simp only [e, if_false]
    exact w.2.2.2 b (by omega)
end
theorem adS_WS {s : Nat → Nat} {k f p : Nat} (ws : WS s) (hk : k < 8) (hf : f < 10) : WS (adS s k f p) := by
  intro b hb
  rw [adS_0] at hb
  rw [adS_R, adS_W]
  have hw := (wt_le _ hk _ hf).1
  by_cases e : b = s 0
  · simp only [e, if_true]; omega
  · simp only [e, if_false]
    exact ws b (by omega)
/-- one bell alone -/
def hoS (s : Nat → Nat) (k f r t : Nat) : Nat → Nat := uN (uN (adS (uN s 0 0) k f 0) 6 r) 1 t
section
variable {s : Nat → Nat} {k f r t : Nat}
theorem hoS_0 : hoS s k f r t 0 = 1 := by unfold hoS; rw [uN_n _ _ (by omega), uN_n _ _ (by omega), adS_0, uN_s]
theorem hoS_1 : hoS s k f r t 1 = t := uN_s _ _ _
theorem hoS_2 : hoS s k f r t 2 = s 2 := by unfold hoS; rw [uN_n _ _ (by omega), uN_n _ _ (by omega), adS_2, uN_n _ _ (by omega)]
theorem hoS_K : sK (hoS s k f r t) 0 = k := by
  show hoS s k f r t 3 = k
  unfold hoS; rw [uN_n _ _ (by omega), uN_n _ _ (by omega)]
  have := adS_K (s := uN s 0 0) (k := k) (f := f) (p := 0) 0
  rw [uN_s, if_pos rfl] at this; exact this
theorem hoS_F : sF (hoS s k f r t) 0 = f := by
  show hoS s k f r t 4 = f
  unfold hoS; rw [uN_n _ _ (by omega), uN_n _ _ (by omega)]
  have := adS_F (s := uN s 0 0) (k := k) (f := f) (p := 0) 0
  rw [uN_s, if_pos rfl] at this; exact this
theorem hoS_P : sP (hoS s k f r t) 0 = 0 := by
  show hoS s k f r t 5 = 0
  unfold hoS; rw [uN_n _ _ (by omega), uN_n _ _ (by omega)]
  have := adS_P (s := uN s 0 0) (k := k) (f := f) (p := 0) 0
  rw [uN_s, if_pos rfl] at this; exact this
theorem hoS_R : sR (hoS s k f r t) 0 = r := by
  show hoS s k f r t 6 = r
  unfold hoS; rw [uN_n _ _ (by omega), uN_s]
theorem hoS_O : sO (hoS s k f r t) 0 = 0 := by
  show hoS s k f r t 7 = 0
  unfold hoS; rw [uN_n _ _ (by omega), uN_n _ _ (by omega)]
  have := adS_O (s := uN s 0 0) (k := k) (f := f) (p := 0) 0
  rw [uN_s, if_pos rfl] at this; exact this
theorem hoS_WF (hk : k < 8) (hf : f < 10) (hr : r < 10) (ht : t < 24) : WF (hoS s k f r t) := by
  refine ⟨by rw [hoS_0]; omega, by rw [hoS_1]; exact ht, Nat.zero_le _, fun b hb => ?_⟩
  rw [hoS_0] at hb
  have : b = 0 := by omega
  subst this
  rw [hoS_K, hoS_F, hoS_P, hoS_R, hoS_O]
  exact ⟨hk, hf, by omega, hr, by omega⟩
end
section
variable {E : z_E} (lv n k : Nat)
set_option maxHeartbeats 2000000 in
theorem sM_add {G : z_H} {a q kd f p : Nat} {s : Nat → Nat} (h : MA G a s) (hB : BA G q kd f) (hq : q < a ∨ a + 9 ≤ q) (h6 : s 0 < 6) : ∃ G', z_evM E i_M_add lv [.ref a, .ref q, .int (nI p)] n k G = some (some (.int (nI (s 0))), n, k, G') ∧ MA G' a (adS s kd f p) ∧ FR a 9 G G' := by
  obtain ⟨F, hF, t1, t2⟩ := h.toF
  have c : ¬ nI 6 ≤ nI (s 0) := nI_ge h6 (by omega)
  have c' : nI (s 0) < nI 6 := nI_lt h6 (by omega)
  have m1 : MO G a (s 0) (s 1) (s 2) := h.1
  have oB : ∀ (G2 : z_H), FR a 9 G G2 → BA G2 q kd f := fun G2 f2 => hB.mono (f2 q hq)
  obtain ⟨G2, p1, p2, p3⟩ := hF.wr (c := 1) (by omega) (by omega) h6 (nI kd)
  have f2 : FR a 9 G G2 := fun q hq => p3 q (by omega)
  obtain ⟨G3, p4, p5, p6⟩ := p2.wr (c := 2) (by omega) (by omega) h6 (nI f)
  have f3 : FR a 9 G G3 := f2.tr (fun q hq => p6 q (by omega))
  obtain ⟨G4, p7, p8, p9⟩ := p5.wr (c := 3) (by omega) (by omega) h6 (nI p)
  have f4 : FR a 9 G G4 := f3.tr (fun q hq => p9 q (by omega))
  obtain ⟨G5, r1, r2, r3⟩ := p8.wr (c := 4) (by omega) (by omega) h6 0
  have f5 : FR a 9 G G5 := f4.tr (fun q hq => r3 q (by omega))
  obtain ⟨G6, r4, r5, r6⟩ := r2.wr (c := 5) (by omega) (by omega) h6 0
  have f6 : FR a 9 G G6 := f5.tr (fun q hq => r6 q (by omega))
  obtain ⟨G7, r7, r8, r9⟩ := r5.wr (c := 6) (by omega) (by omega) h6 (hb kd f)
  have f7 : FR a 9 G G7 := f6.tr (fun q hq => r9 q (by omega))
  obtain ⟨G8, u1, u2, u3⟩ := r8.wr (c := 7) (by omega) (by omega) h6 (nI (wt kd f))
  have f8 : FR a 9 G G8 := f7.tr (fun q hq => u3 q (by omega))
  obtain ⟨G9, u4, u5, u6⟩ := u2.wr (c := 8) (by omega) (by omega) h6 (nI (stp kd f))
  have f9 : FR a 9 G G9 := f8.tr (fun q hq => u6 q (by omega))
  have m2 : MO G2 a (s 0) (s 1) (s 2) := m1.mono (p3 a (by omega))
  have m3 : MO G3 a (s 0) (s 1) (s 2) := m2.mono (p6 a (by omega))
  have m4 : MO G4 a (s 0) (s 1) (s 2) := m3.mono (p9 a (by omega))
  have m5 : MO G5 a (s 0) (s 1) (s 2) := m4.mono (r3 a (by omega))
  have m6 : MO G6 a (s 0) (s 1) (s 2) := m5.mono (r6 a (by omega))
  have m7 : MO G7 a (s 0) (s 1) (s 2) := m6.mono (r9 a (by omega))
  have m8 : MO G8 a (s 0) (s 1) (s 2) := m7.mono (u3 a (by omega))
  have m9 : MO G9 a (s 0) (s 1) (s 2) := m8.mono (u6 a (by omega))
  obtain ⟨G10, v1, v2, v3⟩ := m9.w8 (s 0 + 1) false
  have f10 : FR a 9 G G10 := f9.tr (fun q hq => v3 q (by omega))
  refine ⟨G10, ?_, MA.ofF (F := uF (uF (uF (uF (uF (uF (uF (uF F 1 (s 0) (nI kd)) 2 (s 0) (nI f)) 3 (s 0) (nI p)) 4 (s 0) 0) 5 (s 0) 0) 6 (s 0) (hb kd f)) 7 (s 0) (nI (wt kd f))) 8 (s 0) (nI (stp kd f))) ?_ (u5.mono (fun q q1 q2 => v3 q (by omega))) (fun b hb => ?_) (fun b hb => ?_), f10⟩
  · simp only [zm_M_add, zr_M_add_0, zr_M_add_1, zr_M_add_4, zr_M_add_6, zr_M_add_9, zr_M_add_11, zr_M_add_12, zr_M_add_13, zr_M_add_16, zr_M_add_17, zr_M_add_18, zr_M_add_21, zr_M_add_22, zr_M_add_22n, zr_M_add_23, zr_M_add_26, zr_M_add_27, zr_M_add_28, zr_M_add_31, zr_M_add_32, zr_M_add_32n, zr_M_add_33, zr_M_add_36, zr_M_add_37, zr_M_add_38, zr_M_add_41, zr_M_add_42, zr_M_add_43, zr_M_add_44, zr_M_add_45, zr_M_add_48, zr_M_add_49, zr_M_add_50, zr_M_add_51, zr_M_add_52, zr_M_add_55, zr_M_add_56, zr_M_add_57, zr_M_add_58, zr_M_add_59, zr_M_add_62, zr_M_add_63, zr_M_add_63n, zr_M_add_64, zr_M_add_67, zr_M_add_68, zr_M_add_69, zr_M_add_72, zr_M_add_73, zr_M_add_73n, zr_M_add_74, zr_M_add_77, zr_M_add_78, zr_M_add_79, zr_M_add_82, zr_M_add_83, zr_M_add_83n, zr_M_add_84, zr_M_add_87, zr_M_add_88, zr_M_add_89, zr_M_add_90, zr_M_add_93, zr_M_add_94, zr_M_add_95, zr_M_add_98, zr_M_add_99, int_6, c, c', ↓reduceIte, z_obs, m1.f0, m1.f8, hB.f0, p1, m2.f1, (oB _ f2).f1, p4, m3.f2, p7, m4.f3, r1, m5.f4, r4, m6.f5, (oB _ f6).f2, r7, m7.f6, (oB _ f7).f3, u1, m8.f7, (oB _ f8).f4, u4, m9.f8, nI_1, v1]
  · rw [adS_0, adS_1, adS_2]; exact v2
  · rw [adS_K, adS_F, adS_P, adS_R, adS_O]
    unfold uF
    by_cases e : b = s 0
    · simp [e, nI_0]
    · simp only [e, and_false, if_false]; exact t1 b hb
  · rw [adS_0] at hb
    rw [adS_K, adS_F, adS_W, adS_S]
    unfold uF
    by_cases e : b = s 0
    · simp [e]
    · simp only [e, and_false, if_false]; exact t2 b (by omega)
theorem sM_add_f {G : z_H} {a q : Nat} {s : Nat → Nat} {x : Int32} (h : MA G a s) (h6 : s 0 = 6) : z_evM E i_M_add lv [.ref a, .ref q, .int x] n k G = some (some (.int (-2)), n, k, G) := by
  have c : nI 6 ≤ nI (s 0) := nI_le (by omega) (by omega)
  have c' : ¬ nI (s 0) < nI 6 := nI_nlt (by omega) (by omega)
  simp only [zm_M_add, zr_M_add_0, zr_M_add_1, zr_M_add_4, zr_M_add_6, zr_M_add_9, zr_M_add_11, zr_M_add_12, zr_M_add_13, zr_M_add_16, zr_M_add_17, zr_M_add_18, zr_M_add_21, zr_M_add_22, zr_M_add_22n, zr_M_add_23, zr_M_add_26, zr_M_add_27, zr_M_add_28, zr_M_add_31, zr_M_add_32, zr_M_add_32n, zr_M_add_33, zr_M_add_36, zr_M_add_37, zr_M_add_38, zr_M_add_41, zr_M_add_42, zr_M_add_43, zr_M_add_44, zr_M_add_45, zr_M_add_48, zr_M_add_49, zr_M_add_50, zr_M_add_51, zr_M_add_52, zr_M_add_55, zr_M_add_56, zr_M_add_57, zr_M_add_58, zr_M_add_59, zr_M_add_62, zr_M_add_63, zr_M_add_63n, zr_M_add_64, zr_M_add_67, zr_M_add_68, zr_M_add_69, zr_M_add_72, zr_M_add_73, zr_M_add_73n, zr_M_add_74, zr_M_add_77, zr_M_add_78, zr_M_add_79, zr_M_add_82, zr_M_add_83, zr_M_add_83n, zr_M_add_84, zr_M_add_87, zr_M_add_88, zr_M_add_89, zr_M_add_90, zr_M_add_93, zr_M_add_94, zr_M_add_95, zr_M_add_98, zr_M_add_99, int_6, c, c', ↓reduceIte, z_obs, h.f8]
theorem sM_holdOnly {G : z_H} {a q kd f r t : Nat} {s : Nat → Nat} (h : MA G a s) (hB : BA G q kd f) (hq : q < a ∨ a + 9 ≤ q) : ∃ G', z_evM E i_M_holdOnly lv [.ref a, .ref q, .int (nI r), .int (nI t)] n k G = some (none, n, k, G') ∧ MA G' a (hoS s kd f r t) ∧ FR a 9 G G' := by
  obtain ⟨F, hF, t1, t2⟩ := h.toF
  have m1 : MO G a (s 0) (s 1) (s 2) := h.1
  obtain ⟨G1, p1, p2, p3⟩ := m1.w8 0 false
  have h1 : MA G1 a (uN s 0 0) := MA.ofF (F := F) (by rw [uN_s, uN_n _ _ (by omega), uN_n _ _ (by omega)]; exact p2) (hF.mono (fun q q1 q2 => p3 q (by omega))) (fun b hb => by
    unfold sK sF sP sR sO
    rw [uN_n _ _ (by omega), uN_n _ _ (by omega), uN_n _ _ (by omega), uN_n _ _ (by omega), uN_n _ _ (by omega)]
    exact t1 b hb) (fun b hb => by rw [uN_s] at hb; exact absurd hb (by omega))
  have f1 : FR a 9 G G1 := fun q hq => p3 q (by omega)
  obtain ⟨G2, r1, r2, r3⟩ := sM_add (E := E) 0 n k (p := 0) h1 (hB.mono (f1 q hq)) hq (by rw [uN_s]; omega)
  obtain ⟨G3, u1, u2, u3⟩ := r2.w4 (j := 0) (v := r) (by omega)
  obtain ⟨G4, v1, v2, v3⟩ := u2.wh (v := t) false 0 rfl
  refine ⟨G4, ?_, v2, ((f1.tr r3).tr u3).tr v3⟩
  rw [nI_0] at p1 r1 u1
  rw [uN_s] at r1
  simp only [zm_M_holdOnly, zr_M_holdOnly_0, zr_M_holdOnly_1, zr_M_holdOnly_2, zr_M_holdOnly_5, zr_M_holdOnly_6, zr_M_holdOnly_6n, zr_M_holdOnly_7, zr_M_holdOnly_8, zr_M_holdOnly_11, zr_M_holdOnly_12, zr_M_holdOnly_13, zr_M_holdOnly_16, zr_M_holdOnly_17, zr_M_holdOnly_18, zr_M_holdOnly_19, zr_M_holdOnly_20, zr_M_holdOnly_21, zr_M_holdOnly_24, z_obs, p1, h1.cls, r1, z_pu_s, r2.f3, u1, v1]
end
