/-! MARSH: whole states: taken over, a bell more, one bell held -/
/-- eight rows of six ints behind one another -/
def A8 (G : z_H) (a : Nat) (F : Nat → Nat → Int32) : Prop := ∀ c, 1 ≤ c → c ≤ 8 → G (a + c) = some (.inr (.int, 6, .inl (F c)))
def uF (F : Nat → Nat → Int32) (c i : Nat) (x : Int32) : Nat → Nat → Int32 := fun d b => if d = c ∧ b = i then x else F d b
section
variable {E : z_E} {G : z_H} {a : Nat} {F : Nat → Nat → Int32}
theorem A8.rd (h : A8 G a F) {c j : Nat} (h1 : 1 ≤ c) (h2 : c ≤ 8) (hj : j < 6) : z_ai E G (a + c) (nI j) = some (F c j) := z_aiI (h c h1 h2) hj (by decide)
theorem A8.wr (h : A8 G a F) {c j : Nat} (h1 : 1 ≤ c) (h2 : c ≤ 8) (hj : j < 6) (x : Int32) : ∃ G1, z_pi G (a + c) (nI j) x = some G1 ∧ A8 G1 a (uF F c j x) ∧ (∀ q, q ≠ a + c → G1 q = G q) := by
  refine ⟨_, z_piI (h c h1 h2) hj (by decide), fun d d1 d2 => ?_, fun q hq => z_up_n G _ hq⟩
  by_cases e : d = c
  · subst e
    rw [z_up_s]
    congr 5
    funext b
    unfold upd uF
    by_cases hb : b = j <;> simp [hb]
  · rw [z_up_n G _ (by omega), h d d1 d2]
    congr 5
    funext b
    unfold uF
    simp [e]
theorem A8.mono {G' : z_H} (h : A8 G a F) (hq : ∀ q, a < q → q ≤ a + 8 → G' q = G q) : A8 G' a F := fun c h1 h2 => by rw [hq _ (by omega) (by omega)]; exact h c h1 h2
end
theorem MA.toF {G : z_H} {a : Nat} {s : Nat → Nat} (h : MA G a s) : ∃ F, A8 G a F ∧ (∀ b, b < 6 → F 1 b = nI (sK s b) ∧ F 2 b = nI (sF s b) ∧ F 3 b = nI (sP s b) ∧ F 4 b = nI (sR s b) ∧ F 5 b = nI (sO s b)) ∧ ∀ b, b < s 0 → F 6 b = hb (sK s b) (sF s b) ∧ F 7 b = nI (sW s b) ∧ F 8 b = nI (sS s b) := by
  obtain ⟨h0, ⟨f1, e1, q1⟩, ⟨f2, e2, q2⟩, ⟨f3, e3, q3⟩, ⟨f4, e4, q4⟩, ⟨f5, e5, q5⟩, ⟨f6, e6, q6⟩, ⟨f7, e7, q7⟩, ⟨f8, e8, q8⟩⟩ := h
  refine ⟨fun c => if c = 1 then f1 else if c = 2 then f2 else if c = 3 then f3 else if c = 4 then f4 else if c = 5 then f5 else if c = 6 then f6 else if c = 7 then f7 else f8, fun c h1 h2 => ?_, fun b hb => ?_, fun b hb => ?_⟩
  · have hc : c = 1 ∨ c = 2 ∨ c = 3 ∨ c = 4 ∨ c = 5 ∨ c = 6 ∨ c = 7 ∨ c = 8 := by omega
    rcases hc with rfl | rfl | rfl | rfl | rfl | rfl | rfl | rfl <;> assumption
  · exact ⟨q1 b hb, q2 b hb, q3 b hb, q4 b hb, q5 b hb⟩
  · exact ⟨q6 b hb, q7 b hb, q8 b hb⟩
theorem MA.ofF {G : z_H} {a : Nat} {s : Nat → Nat} {F : Nat → Nat → Int32} (h0 : G a = some (.inl (8, [.ref (a + 1), .ref (a + 2), .ref (a + 3), .ref (a + 4), .ref (a + 5), .ref (a + 6), .ref (a + 7), .ref (a + 8), .int (nI (s 0)), .int (nI (s 1)), .int (nI (s 2))]))) (hF : A8 G a F)
    (h1 : ∀ b, b < 6 → F 1 b = nI (sK s b) ∧ F 2 b = nI (sF s b) ∧ F 3 b = nI (sP s b) ∧ F 4 b = nI (sR s b) ∧ F 5 b = nI (sO s b)) (h2 : ∀ b, b < s 0 → F 6 b = hb (sK s b) (sF s b) ∧ F 7 b = nI (sW s b) ∧ F 8 b = nI (sS s b)) : MA G a s :=
  ⟨h0, ⟨_, hF 1 (by omega) (by omega), fun b hb => (h1 b hb).1⟩, ⟨_, hF 2 (by omega) (by omega), fun b hb => (h1 b hb).2.1⟩, ⟨_, hF 3 (by omega) (by omega), fun b hb => (h1 b hb).2.2.1⟩, ⟨_, hF 4 (by omega) (by omega), fun b hb => (h1 b hb).2.2.2.1⟩, ⟨_, hF 5 (by omega) (by omega), fun b hb => (h1 b hb).2.2.2.2⟩, ⟨_, hF 6 (by omega) (by omega), fun b hb => (h2 b hb).1⟩, ⟨_, hF 7 (by omega) (by omega), fun b hb => (h2 b hb).2.1⟩, ⟨_, hF 8 (by omega) (by omega), fun b hb => (h2 b hb).2.2⟩⟩
/-- a Marsh object with any numbers -/
def MO (G : z_H) (a : Nat) (x y z : Nat) : Prop := G a = some (.inl (8, [.ref (a + 1), .ref (a + 2), .ref (a + 3), .ref (a + 4), .ref (a + 5), .ref (a + 6), .ref (a + 7), .ref (a + 8), .int (nI x), .int (nI y), .int (nI z)]))
section
variable {G : z_H} {a x y z : Nat}
theorem MO.f0 (h : MO G a x y z) (t f : Nat) : z_gf G a [0, 8, 8, t, f] = some (.ref (a + 1)) := z_gfI h (by decide) (by decide) rfl
theorem MO.f1 (h : MO G a x y z) (t f : Nat) : z_gf G a [1, 8, 8, t, f] = some (.ref (a + 2)) := z_gfI h (by decide) (by decide) rfl
theorem MO.f2 (h : MO G a x y z) (t f : Nat) : z_gf G a [2, 8, 8, t, f] = some (.ref (a + 3)) := z_gfI h (by decide) (by decide) rfl
theorem MO.f3 (h : MO G a x y z) (t f : Nat) : z_gf G a [3, 8, 8, t, f] = some (.ref (a + 4)) := z_gfI h (by decide) (by decide) rfl
theorem MO.f4 (h : MO G a x y z) (t f : Nat) : z_gf G a [4, 8, 8, t, f] = some (.ref (a + 5)) := z_gfI h (by decide) (by decide) rfl
theorem MO.f5 (h : MO G a x y z) (t f : Nat) : z_gf G a [5, 8, 8, t, f] = some (.ref (a + 6)) := z_gfI h (by decide) (by decide) rfl
theorem MO.f6 (h : MO G a x y z) (t f : Nat) : z_gf G a [6, 8, 8, t, f] = some (.ref (a + 7)) := z_gfI h (by decide) (by decide) rfl
theorem MO.f7 (h : MO G a x y z) (t f : Nat) : z_gf G a [7, 8, 8, t, f] = some (.ref (a + 8)) := z_gfI h (by decide) (by decide) rfl
theorem MO.f8 (h : MO G a x y z) (t f : Nat) : z_gf G a [8, 8, 8, t, f] = some (.int (nI x)) := z_gfI h (by decide) (by decide) rfl
theorem MO.f9 (h : MO G a x y z) (t f : Nat) : z_gf G a [9, 8, 8, t, f] = some (.int (nI y)) := z_gfI h (by decide) (by decide) rfl
theorem MO.f10 (h : MO G a x y z) (t f : Nat) : z_gf G a [10, 8, 8, t, f] = some (.int (nI z)) := z_gfI h (by decide) (by decide) rfl
theorem MO.cls (h : MO G a x y z) : z_clsOf G a = some 8 := z_clsI h
theorem MO.w8 (h : MO G a x y z) (v : Nat) (b : Bool) : ∃ G1, z_pf G a (.int (nI v)) b [8, 8, 8, 0, 0] = some G1 ∧ MO G1 a v y z ∧ ∀ q, q ≠ a → G1 q = G q := ⟨_, z_pfI (k := 8) (lo := 8) (hi := 8) (t := 0) (f := 0) h (Nat.le_refl _) (Nat.le_refl _) (Nat.le_of_ble_eq_true rfl) rfl (Or.inl rfl), z_up_s _ _ _, fun q hq => z_up_n G _ hq⟩
theorem MO.w9 (h : MO G a x y z) (v : Nat) (b : Bool) : ∃ G1, z_pf G a (.int (nI v)) b [9, 8, 8, 0, 0] = some G1 ∧ MO G1 a x v z ∧ ∀ q, q ≠ a → G1 q = G q := ⟨_, z_pfI (k := 9) (lo := 8) (hi := 8) (t := 0) (f := 0) h (Nat.le_refl _) (Nat.le_refl _) (Nat.le_of_ble_eq_true rfl) rfl (Or.inl rfl), z_up_s _ _ _, fun q hq => z_up_n G _ hq⟩
theorem MO.w10 (h : MO G a x y z) (v : Nat) (b : Bool) : ∃ G1, z_pf G a (.int (nI v)) b [10, 8, 8, 0, 0] = some G1 ∧ MO G1 a x y v ∧ ∀ q, q ≠ a → G1 q = G q := ⟨_, z_pfI (k := 10) (lo := 8) (hi := 8) (t := 0) (f := 0) h (Nat.le_refl _) (Nat.le_refl _) (Nat.le_of_ble_eq_true rfl) rfl (Or.inl rfl), z_up_s _ _ _, fun q hq => z_up_n G _ hq⟩
theorem MO.mono {G' : z_H} (h : MO G a x y z) (hq : G' a = G a) : MO G' a x y z := by unfold MO; rw [hq]; exact h
end
section
variable {E : z_E} (lv n k : Nat)
set_option maxHeartbeats 2000000 in
theorem sM_takeFrom {G : z_H} {a o : Nat} {s t : Nat → Nat} (h : MA G a s) (ho : MA G o t) (hd : a + 9 ≤ o ∨ o + 9 ≤ a) (hw : t 0 ≤ 6) : ∃ G', z_evM E i_M_takeFrom lv [.ref a, .ref o] n k G = some (none, n, k, G') ∧ MA G' a t ∧ FR a 9 G G' := by
  obtain ⟨F, hF, -, -⟩ := h.toF
  obtain ⟨T, hT, t1, t2⟩ := ho.toF
  have key : ∀ m i G1 F1, i + m = 6 → MO G1 a (s 0) (s 1) (s 2) → A8 G1 a F1 → FR a 9 G G1 → (∀ c b, 1 ≤ c → c ≤ 8 → b < i → F1 c b = T c b) →
      ∃ G', z_ev E i_M_takeFrom lv 2 [some (.ref a), some (.ref o), some (.int (nI i))] [] n k G1 = some (none, n, k, G') ∧ MA G' a t ∧ FR a 9 G G' := by
    intro m
    induction m with
    | zero =>
      intro i G1 F1 hi m1 a1 fr hc
      have : i = 6 := by omega
      subst this
      have c : nI 6 ≤ nI 6 := nI_le (Nat.le_refl _) (by omega)
      have o1 : MA G1 o t := ho.of_eq (fun q q1 q2 => fr q (by omega))
      obtain ⟨G2, p1, p2, p3⟩ := m1.w8 (t 0) false
      have o2 : MA G2 o t := o1.of_eq (fun q q1 q2 => p3 q (by omega))
      obtain ⟨G3, r1, r2, r3⟩ := p2.w9 (t 1) false
      have o3 : MA G3 o t := o2.of_eq (fun q q1 q2 => r3 q (by omega))
      obtain ⟨G4, u1, u2, u3⟩ := r2.w10 (t 2) false
      refine ⟨G4, ?_, MA.ofF (F := F1) u2 (a1.mono (fun q q1 q2 => by rw [u3 q (by omega), r3 q (by omega), p3 q (by omega)])) (fun b hb => ?_) (fun b hb => ?_), fun q hq => by rw [u3 q (by omega), r3 q (by omega), p3 q (by omega)]; exact fr q hq⟩
      · simp only [zr_M_takeFrom_0, zr_M_takeFrom_1, zr_M_takeFrom_2, zr_M_takeFrom_3, zr_M_takeFrom_5, zr_M_takeFrom_8, zr_M_takeFrom_9, zr_M_takeFrom_12, zr_M_takeFrom_13, zr_M_takeFrom_13n, zr_M_takeFrom_14, zr_M_takeFrom_17, zr_M_takeFrom_18, zr_M_takeFrom_19, zr_M_takeFrom_20, zr_M_takeFrom_21, zr_M_takeFrom_24, zr_M_takeFrom_25, zr_M_takeFrom_25n, zr_M_takeFrom_26, zr_M_takeFrom_29, zr_M_takeFrom_30, zr_M_takeFrom_31, zr_M_takeFrom_32, zr_M_takeFrom_33, zr_M_takeFrom_36, zr_M_takeFrom_37, zr_M_takeFrom_37n, zr_M_takeFrom_38, zr_M_takeFrom_41, zr_M_takeFrom_42, zr_M_takeFrom_43, zr_M_takeFrom_44, zr_M_takeFrom_45, zr_M_takeFrom_48, zr_M_takeFrom_49, zr_M_takeFrom_49n, zr_M_takeFrom_50, zr_M_takeFrom_53, zr_M_takeFrom_54, zr_M_takeFrom_55, zr_M_takeFrom_56, zr_M_takeFrom_57, zr_M_takeFrom_60, zr_M_takeFrom_61, zr_M_takeFrom_61n, zr_M_takeFrom_62, zr_M_takeFrom_65, zr_M_takeFrom_66, zr_M_takeFrom_67, zr_M_takeFrom_68, zr_M_takeFrom_69, zr_M_takeFrom_72, zr_M_takeFrom_73, zr_M_takeFrom_73n, zr_M_takeFrom_74, zr_M_takeFrom_77, zr_M_takeFrom_78, zr_M_takeFrom_79, zr_M_takeFrom_80, zr_M_takeFrom_81, zr_M_takeFrom_84, zr_M_takeFrom_85, zr_M_takeFrom_85n, zr_M_takeFrom_86, zr_M_takeFrom_89, zr_M_takeFrom_90, zr_M_takeFrom_91, zr_M_takeFrom_92, zr_M_takeFrom_93, zr_M_takeFrom_96, zr_M_takeFrom_97, zr_M_takeFrom_97n, zr_M_takeFrom_98, zr_M_takeFrom_101, zr_M_takeFrom_102, zr_M_takeFrom_103, zr_M_takeFrom_104, zr_M_takeFrom_107, zr_M_takeFrom_110, zr_M_takeFrom_111, zr_M_takeFrom_111n, zr_M_takeFrom_112, zr_M_takeFrom_115, zr_M_takeFrom_118, zr_M_takeFrom_119, zr_M_takeFrom_119n, zr_M_takeFrom_120, zr_M_takeFrom_123, zr_M_takeFrom_126, zr_M_takeFrom_127, zr_M_takeFrom_127n, zr_M_takeFrom_128, zr_M_takeFrom_131, zr_M_takeFrom_134, int_6, c, ↓reduceIte, o1.f8, z_obs, p1, o2.f9, r1, o3.f10, u1]
      · rw [hc 1 b (by omega) (by omega) hb, hc 2 b (by omega) (by omega) hb, hc 3 b (by omega) (by omega) hb, hc 4 b (by omega) (by omega) hb, hc 5 b (by omega) (by omega) hb]
        exact t1 b hb
      · have hb6 : b < 6 := Nat.lt_of_lt_of_le hb hw
        rw [hc 6 b (by omega) (by omega) hb6, hc 7 b (by omega) (by omega) hb6, hc 8 b (by omega) (by omega) hb6]
        exact t2 b hb
    | succ m ih =>
      intro i G1 F1 hi m1 a1 fr hc
      have c : ¬ nI 6 ≤ nI i := nI_ge (by omega) (by omega)
      have hi6 : i < 6 := by omega
      have oT : ∀ (G2 : z_H), FR a 9 G1 G2 → MA G2 o t ∧ A8 G2 o T := fun G2 f2 => ⟨ho.of_eq (fun q q1 q2 => (f2 q (by omega)).trans (fr q (by omega))), hT.mono (fun q q1 q2 => (f2 q (by omega)).trans (fr q (by omega)))⟩
      obtain ⟨G2, p1, p2, p3⟩ := a1.wr (c := 1) (by omega) (by omega) hi6 (T 1 i)
      have f2 : FR a 9 G1 G2 := fun q hq => p3 q (by omega)
      obtain ⟨G3, p4, p5, p6⟩ := p2.wr (c := 2) (by omega) (by omega) hi6 (T 2 i)
      have f3 : FR a 9 G1 G3 := f2.tr (fun q hq => p6 q (by omega))
      obtain ⟨G4, p7, p8, p9⟩ := p5.wr (c := 3) (by omega) (by omega) hi6 (T 3 i)
      have f4 : FR a 9 G1 G4 := f3.tr (fun q hq => p9 q (by omega))
      obtain ⟨G5, r1, r2, r3⟩ := p8.wr (c := 4) (by omega) (by omega) hi6 (T 4 i)
      have f5 : FR a 9 G1 G5 := f4.tr (fun q hq => r3 q (by omega))
      obtain ⟨G6, r4, r5, r6⟩ := r2.wr (c := 5) (by omega) (by omega) hi6 (T 5 i)
      have f6 : FR a 9 G1 G6 := f5.tr (fun q hq => r6 q (by omega))
      obtain ⟨G7, r7, r8, r9⟩ := r5.wr (c := 6) (by omega) (by omega) hi6 (T 6 i)
      have f7 : FR a 9 G1 G7 := f6.tr (fun q hq => r9 q (by omega))
      obtain ⟨G8, u1, u2, u3⟩ := r8.wr (c := 7) (by omega) (by omega) hi6 (T 7 i)
      have f8 : FR a 9 G1 G8 := f7.tr (fun q hq => u3 q (by omega))
      obtain ⟨G9, u4, u5, u6⟩ := u2.wr (c := 8) (by omega) (by omega) hi6 (T 8 i)
      have f9 : FR a 9 G1 G9 := f8.tr (fun q hq => u6 q (by omega))
      have m2 : MO G2 a (s 0) (s 1) (s 2) := m1.mono (p3 a (by omega))
      have m3 : MO G3 a (s 0) (s 1) (s 2) := m2.mono (p6 a (by omega))
      have m4 : MO G4 a (s 0) (s 1) (s 2) := m3.mono (p9 a (by omega))
      have m5 : MO G5 a (s 0) (s 1) (s 2) := m4.mono (r3 a (by omega))
      have m6 : MO G6 a (s 0) (s 1) (s 2) := m5.mono (r6 a (by omega))
      have m7 : MO G7 a (s 0) (s 1) (s 2) := m6.mono (r9 a (by omega))
      have m8 : MO G8 a (s 0) (s 1) (s 2) := m7.mono (u3 a (by omega))
      have m9 : MO G9 a (s 0) (s 1) (s 2) := m8.mono (u6 a (by omega))
      obtain ⟨G', g1, g2⟩ := ih (i + 1) G9 _ (by omega) m9 u5 (fr.tr f9) (fun c b c1 c2 hb => by
        unfold uF
        have hcc : c = 1 ∨ c = 2 ∨ c = 3 ∨ c = 4 ∨ c = 5 ∨ c = 6 ∨ c = 7 ∨ c = 8 := by omega
        by_cases e : b = i
        · subst e
          rcases hcc with rfl | rfl | rfl | rfl | rfl | rfl | rfl | rfl <;> simp
        · simp only [e, and_false, if_false]
          exact hc c b c1 c2 (by omega))
      have O1 := oT G1 FR.rf
      have O2 := oT G2 f2
      have O3 := oT G3 f3
      have O4 := oT G4 f4
      have O5 := oT G5 f5
      have O6 := oT G6 f6
      have O7 := oT G7 f7
      have O8 := oT G8 f8
      refine ⟨G', ?_, g2⟩
      rw [← g1, zr_M_takeFrom_2]
      simp only [zr_M_takeFrom_0, zr_M_takeFrom_1, zr_M_takeFrom_3, zr_M_takeFrom_5, zr_M_takeFrom_8, zr_M_takeFrom_9, zr_M_takeFrom_12, zr_M_takeFrom_13, zr_M_takeFrom_13n, zr_M_takeFrom_14, zr_M_takeFrom_17, zr_M_takeFrom_18, zr_M_takeFrom_19, zr_M_takeFrom_20, zr_M_takeFrom_21, zr_M_takeFrom_24, zr_M_takeFrom_25, zr_M_takeFrom_25n, zr_M_takeFrom_26, zr_M_takeFrom_29, zr_M_takeFrom_30, zr_M_takeFrom_31, zr_M_takeFrom_32, zr_M_takeFrom_33, zr_M_takeFrom_36, zr_M_takeFrom_37, zr_M_takeFrom_37n, zr_M_takeFrom_38, zr_M_takeFrom_41, zr_M_takeFrom_42, zr_M_takeFrom_43, zr_M_takeFrom_44, zr_M_takeFrom_45, zr_M_takeFrom_48, zr_M_takeFrom_49, zr_M_takeFrom_49n, zr_M_takeFrom_50, zr_M_takeFrom_53, zr_M_takeFrom_54, zr_M_takeFrom_55, zr_M_takeFrom_56, zr_M_takeFrom_57, zr_M_takeFrom_60, zr_M_takeFrom_61, zr_M_takeFrom_61n, zr_M_takeFrom_62, zr_M_takeFrom_65, zr_M_takeFrom_66, zr_M_takeFrom_67, zr_M_takeFrom_68, zr_M_takeFrom_69, zr_M_takeFrom_72, zr_M_takeFrom_73, zr_M_takeFrom_73n, zr_M_takeFrom_74, zr_M_takeFrom_77, zr_M_takeFrom_78, zr_M_takeFrom_79, zr_M_takeFrom_80, zr_M_takeFrom_81, zr_M_takeFrom_84, zr_M_takeFrom_85, zr_M_takeFrom_85n, zr_M_takeFrom_86, zr_M_takeFrom_89, zr_M_takeFrom_90, zr_M_takeFrom_91, zr_M_takeFrom_92, zr_M_takeFrom_93, zr_M_takeFrom_96, zr_M_takeFrom_97, zr_M_takeFrom_97n, zr_M_takeFrom_98, zr_M_takeFrom_101, zr_M_takeFrom_102, zr_M_takeFrom_103, zr_M_takeFrom_104, zr_M_takeFrom_107, zr_M_takeFrom_110, zr_M_takeFrom_111, zr_M_takeFrom_111n, zr_M_takeFrom_112, zr_M_takeFrom_115, zr_M_takeFrom_118, zr_M_takeFrom_119, zr_M_takeFrom_119n, zr_M_takeFrom_120, zr_M_takeFrom_123, zr_M_takeFrom_126, zr_M_takeFrom_127, zr_M_takeFrom_127n, zr_M_takeFrom_128, zr_M_takeFrom_131, zr_M_takeFrom_134, int_6, c, ↓reduceIte, z_obs, m1.f0, O1.1.f0, O1.2.rd (c := 1) (by omega) (by omega) hi6, p1, m2.f1, O2.1.f1, O2.2.rd (c := 2) (by omega) (by omega) hi6, p4, m3.f2, O3.1.f2, O3.2.rd (c := 3) (by omega) (by omega) hi6, p7, m4.f3, O4.1.f3, O4.2.rd (c := 4) (by omega) (by omega) hi6, r1, m5.f4, O5.1.f4, O5.2.rd (c := 5) (by omega) (by omega) hi6, r4,
        m6.f5, O6.1.f5, O6.2.rd (c := 6) (by omega) (by omega) hi6, r7, m7.f6, O7.1.f6, O7.2.rd (c := 7) (by omega) (by omega) hi6, u1, m8.f7, O8.1.f7, O8.2.rd (c := 8) (by omega) (by omega) hi6, u4, nI_1]
  simp only [zm_M_takeFrom, zr_M_takeFrom_0, zr_M_takeFrom_1]
  exact key 6 0 G F (by omega) h.1 hF FR.rf (fun c b _ _ hb => absurd hb (by omega))
end
