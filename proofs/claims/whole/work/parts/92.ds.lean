/-! THE MODEL, new; what the calls leave -/
theorem z_n33 : ¬ ((33 : Int32) < 0 ∨ 4096 < (33 : Int32).toNatClampNeg) := by decide
theorem z_c33 : (33 : Int32).toNatClampNeg = 33 := by decide
theorem z_n3 : ¬ ((3 : Int32) < 0 ∨ 4096 < (3 : Int32).toNatClampNeg) := by decide
theorem z_c3 : (3 : Int32).toNatClampNeg = 3 := by decide
theorem z_n100 : ¬ ((100 : Int32) < 0 ∨ 4096 < (100 : Int32).toNatClampNeg) := by decide
theorem z_c100 : (100 : Int32).toNatClampNeg = 100 := by decide
theorem z_n800 : ¬ ((800 : Int32) < 0 ∨ 4096 < (800 : Int32).toNatClampNeg) := by decide
theorem z_c800 : (800 : Int32).toNatClampNeg = 800 := by decide
theorem z_m3 : ¬ ((3 : Int32) < 0 ∨ 4096 < (3 : Nat)) := by decide
theorem z_m6 : ¬ ((6 : Int32) < 0 ∨ 4096 < (6 : Nat)) := by decide
theorem z_m8 : ¬ ((8 : Int32) < 0 ∨ 4096 < (8 : Nat)) := by decide
theorem z_m33 : ¬ ((33 : Int32) < 0 ∨ 4096 < (33 : Nat)) := by decide
theorem z_m100 : ¬ ((100 : Int32) < 0 ∨ 4096 < (100 : Nat)) := by decide
theorem z_m800 : ¬ ((800 : Int32) < 0 ∨ 4096 < (800 : Nat)) := by decide
def nwD (G : z_H) (a : Nat) : z_H := z_up (z_up (z_up (z_up (z_up (z_up (z_up (z_up (z_up (z_up (z_up (z_up (z_up (z_up (z_up G (a + 1) (i0 33)) (a + 2) (i0 33)) (a + 3) (i0 33)) (a + 4) (i0 33)) (a + 5) (i0 3)) (a + 6) (i0 6)) (a + 7) (i0 6)) (a + 8) (i0 100)) (a + 9) (i0 8)) (a + 10) (i0 8)) (a + 11) (i0 8)) (a + 12) (i0 8)) (a + 13) (i0 8)) (a + 14) (i0 800)) a (.inl (12, [.ref (a + 1), .ref (a + 2), .ref (a + 3), .ref (a + 4), .int 0, .int 0, .int 0, .int 0, .ref (a + 5), .ref (a + 6), .ref (a + 7), .int 0, .ref (a + 8), .int 0, .ref (a + 9), .ref (a + 10), .ref (a + 11), .ref (a + 12), .ref (a + 13), .ref (a + 14), .int 0]))
theorem nwD_o (G : z_H) (a : Nat) : nwD G a a = some (.inl (12, dFs a (z_b false) fun _ => 0)) := z_up_s _ _ _
theorem nwD_1 (G : z_H) (a : Nat) : nwD G a (a + 1) = some (i0 33) := by unfold nwD; rw [z_up_n _ _ (by omega), z_up_n _ _ (by omega), z_up_n _ _ (by omega), z_up_n _ _ (by omega), z_up_n _ _ (by omega), z_up_n _ _ (by omega), z_up_n _ _ (by omega), z_up_n _ _ (by omega), z_up_n _ _ (by omega), z_up_n _ _ (by omega), z_up_n _ _ (by omega), z_up_n _ _ (by omega), z_up_n _ _ (by omega), z_up_n _ _ (by omega), z_up_s]
theorem nwD_2 (G : z_H) (a : Nat) : nwD G a (a + 2) = some (i0 33) := by unfold nwD; rw [z_up_n _ _ (by omega), z_up_n _ _ (by omega), z_up_n _ _ (by omega), z_up_n _ _ (by omega), z_up_n _ _ (by omega), z_up_n _ _ (by omega), z_up_n _ _ (by omega), z_up_n _ _ (by omega), z_up_n _ _ (by omega), z_up_n _ _ (by omega), z_up_n _ _ (by omega), z_up_n _ _ (by omega), z_up_n _ _ (by omega), z_up_s]
theorem nwD_3 (G : z_H) (a : Nat) : nwD G a (a + 3) = some (i0 33) := by unfold nwD; rw [z_up_n _ _ (by omega), z_up_n _ _ (by omega), z_up_n _ _ (by omega), z_up_n _ _ (by omega), z_up_n _ _ (by omega), z_up_n _ _ (by omega), z_up_n _ _ (by omega), z_up_n _ _ (by omega), z_up_n _ _ (by omega), z_up_n _ _ (by omega), z_up_n _ _ (by omega), z_up_n _ _ (by omega), z_up_s]
theorem nwD_4 (G : z_H) (a : Nat) : nwD G a (a + 4) = some (i0 33) := by unfold nwD; rw [z_up_n _ _ (by omega), z_up_n _ _ (by omega), z_up_n _ _ (by omega), z_up_n _ _ (by omega), z_up_n _ _ (by omega), z_up_n _ _ (by omega), z_up_n _ _ (by omega), z_up_n _ _ (by omega), z_up_n _ _ (by omega), z_up_n _ _ (by omega), z_up_n _ _ (by omega), z_up_s]
theorem nwD_5 (G : z_H) (a : Nat) : nwD G a (a + 5) = some (i0 3) := by unfold nwD; rw [z_up_n _ _ (by omega), z_up_n _ _ (by omega), z_up_n _ _ (by omega), z_up_n _ _ (by omega), z_up_n _ _ (by omega), z_up_n _ _ (by omega), z_up_n _ _ (by omega), z_up_n _ _ (by omega), z_up_n _ _ (by omega), z_up_n _ _ (by omega), z_up_s]
theorem nwD_6 (G : z_H) (a : Nat) : nwD G a (a + 6) = some (i0 6) := by unfold nwD; rw [z_up_n _ _ (by omega), z_up_n _ _ (by omega), z_up_n _ _ (by omega), z_up_n _ _ (by omega), z_up_n _ _ (by omega), z_up_n _ _ (by omega), z_up_n _ _ (by omega), z_up_n _ _ (by omega), z_up_n _ _ (by omega), z_up_s]
theorem nwD_7 (G : z_H) (a : Nat) : nwD G a (a + 7) = some (i0 6) := by unfold nwD; rw [z_up_n _ _ (by omega), z_up_n _ _ (by omega), z_up_n _ _ (by omega), z_up_n _ _ (by omega), z_up_n _ _ (by omega), z_up_n _ _ (by omega), z_up_n _ _ (by omega), z_up_n _ _ (by omega), z_up_s]
theorem nwD_8 (G : z_H) (a : Nat) : nwD G a (a + 8) = some (i0 100) := by unfold nwD; rw [z_up_n _ _ (by omega), z_up_n _ _ (by omega), z_up_n _ _ (by omega), z_up_n _ _ (by omega), z_up_n _ _ (by omega), z_up_n _ _ (by omega), z_up_n _ _ (by omega), z_up_s]
theorem nwD_9 (G : z_H) (a : Nat) : nwD G a (a + 9) = some (i0 8) := by unfold nwD; rw [z_up_n _ _ (by omega), z_up_n _ _ (by omega), z_up_n _ _ (by omega), z_up_n _ _ (by omega), z_up_n _ _ (by omega), z_up_n _ _ (by omega), z_up_s]
theorem nwD_10 (G : z_H) (a : Nat) : nwD G a (a + 10) = some (i0 8) := by unfold nwD; rw [z_up_n _ _ (by omega), z_up_n _ _ (by omega), z_up_n _ _ (by omega), z_up_n _ _ (by omega), z_up_n _ _ (by omega), z_up_s]
theorem nwD_11 (G : z_H) (a : Nat) : nwD G a (a + 11) = some (i0 8) := by unfold nwD; rw [z_up_n _ _ (by omega), z_up_n _ _ (by omega), z_up_n _ _ (by omega), z_up_n _ _ (by omega), z_up_s]
theorem nwD_12 (G : z_H) (a : Nat) : nwD G a (a + 12) = some (i0 8) := by unfold nwD; rw [z_up_n _ _ (by omega), z_up_n _ _ (by omega), z_up_n _ _ (by omega), z_up_s]
theorem nwD_13 (G : z_H) (a : Nat) : nwD G a (a + 13) = some (i0 8) := by unfold nwD; rw [z_up_n _ _ (by omega), z_up_n _ _ (by omega), z_up_s]
theorem nwD_14 (G : z_H) (a : Nat) : nwD G a (a + 14) = some (i0 800) := by unfold nwD; rw [z_up_n _ _ (by omega), z_up_s]
theorem nwD_fr (G : z_H) (a : Nat) : FR a 15 G (nwD G a) := fun q hq => by unfold nwD; rw [z_up_n _ _ (by omega), z_up_n _ _ (by omega), z_up_n _ _ (by omega), z_up_n _ _ (by omega), z_up_n _ _ (by omega), z_up_n _ _ (by omega), z_up_n _ _ (by omega), z_up_n _ _ (by omega), z_up_n _ _ (by omega), z_up_n _ _ (by omega), z_up_n _ _ (by omega), z_up_n _ _ (by omega), z_up_n _ _ (by omega), z_up_n _ _ (by omega), z_up_n _ _ (by omega)]
section
variable {E : z_E} (lv k : Nat)
theorem dInit {G : z_H} {a : Nat} : ∃ G', z_evM E i_D_init lv [.ref a] (a + 1) k (z_up G a (.inl (12, [.null, .null, .null, .null, .int 0, .int 0, .int 0, .int 0, .null, .null, .null, .int 0, .null, .int 0, .null, .null, .null, .null, .null, .null, .int 0]))) = some (none, a + 15, k + 1087, G') ∧ DW G' a s00 false s00 (fun _ => Sh.no) ∧ FR a 15 G G' := by
  have g0 : z_gf (nwD G a) a [0, 12, 12, 3, 1] = some (.ref (a + 1)) := z_gfI (nwD_o G a) (by decide) (by decide) rfl
  have w1 : z_pi (nwD G a) (a + 1) 1 8 = some (z_up (nwD G a) (a + 1) (.inr (.int, 33, .inl (upd (fun _ => 0) 1 8)))) := z_piI (j := 1) (x := 8) (nwD_1 G a) (by decide) (by decide)
  refine ⟨z_up (nwD G a) (a + 1) (.inr (.int, 33, .inl (upd (fun _ => 0) 1 8))), ?_, ?_, fun q hq => by rw [z_up_n _ _ (by omega)]; exact nwD_fr G a q hq⟩
  · have g0' : z_gf (z_up (z_up (z_up (z_up (z_up (z_up (z_up (z_up (z_up (z_up (z_up (z_up (z_up (z_up (z_up G (a + 1) (i0 33)) (a + 2) (i0 33)) (a + 3) (i0 33)) (a + 4) (i0 33)) (a + 5) (i0 3)) (a + 6) (i0 6)) (a + 7) (i0 6)) (a + 8) (i0 100)) (a + 9) (i0 8)) (a + 10) (i0 8)) (a + 11) (i0 8)) (a + 12) (i0 8)) (a + 13) (i0 8)) (a + 14) (i0 800)) a (.inl (12, [.ref (a + 1), .ref (a + 2), .ref (a + 3), .ref (a + 4), .int 0, .int 0, .int 0, .int 0, .ref (a + 5), .ref (a + 6), .ref (a + 7), .int 0, .ref (a + 8), .int 0, .ref (a + 9), .ref (a + 10), .ref (a + 11), .ref (a + 12), .ref (a + 13), .ref (a + 14), .int 0]))) a [0, 12, 12, 3, 1] = some (.ref (a + 1)) := g0
    have w1' : z_pi (z_up (z_up (z_up (z_up (z_up (z_up (z_up (z_up (z_up (z_up (z_up (z_up (z_up (z_up (z_up G (a + 1) (i0 33)) (a + 2) (i0 33)) (a + 3) (i0 33)) (a + 4) (i0 33)) (a + 5) (i0 3)) (a + 6) (i0 6)) (a + 7) (i0 6)) (a + 8) (i0 100)) (a + 9) (i0 8)) (a + 10) (i0 8)) (a + 11) (i0 8)) (a + 12) (i0 8)) (a + 13) (i0 8)) (a + 14) (i0 800)) a (.inl (12, [.ref (a + 1), .ref (a + 2), .ref (a + 3), .ref (a + 4), .int 0, .int 0, .int 0, .int 0, .ref (a + 5), .ref (a + 6), .ref (a + 7), .int 0, .ref (a + 8), .int 0, .ref (a + 9), .ref (a + 10), .ref (a + 11), .ref (a + 12), .ref (a + 13), .ref (a + 14), .int 0]))) (a + 1) 1 8 = some (z_up (nwD G a) (a + 1) (.inr (.int, 33, .inl (upd (fun _ => 0) 1 8)))) := w1
    unfold i0 at g0' w1'
    simp only [zm_D_init, zr_D_init_0, zr_D_init_1, zr_D_init_4, zr_D_init_5, zr_D_init_7, zr_D_init_9, zr_D_init_12, zr_D_init_13, zr_D_init_15, zr_D_init_17, zr_D_init_20, zr_D_init_21, zr_D_init_23, zr_D_init_25, zr_D_init_28, zr_D_init_29, zr_D_init_31, zr_D_init_33, zr_D_init_36, zr_D_init_37, zr_D_init_38, zr_D_init_40, zr_D_init_43, zr_D_init_44, zr_D_init_46, zr_D_init_48, zr_D_init_51, zr_D_init_52, zr_D_init_54, zr_D_init_56, zr_D_init_59, zr_D_init_60, zr_D_init_62, zr_D_init_64, zr_D_init_67, zr_D_init_68, zr_D_init_70, zr_D_init_72, zr_D_init_75, zr_D_init_76, zr_D_init_78, zr_D_init_80, zr_D_init_83, zr_D_init_84, zr_D_init_86, zr_D_init_88, zr_D_init_91, zr_D_init_92, zr_D_init_94, zr_D_init_96, zr_D_init_99, zr_D_init_100, zr_D_init_102, zr_D_init_104, zr_D_init_107, zr_D_init_108, zr_D_init_111, zr_D_init_113, zr_D_init_116, zr_D_init_117, zr_D_init_120, zr_D_init_121, zr_D_init_123, zr_D_init_124, z_n33, z_c33, z_n3, z_c3, z_n6, z_c6, z_n100, z_c100, z_n8, z_c8, z_n800, z_c800, z_m3, z_m6, z_m8, z_m33, z_m100, z_m800, ↓reduceIte, z_obs, Nat.add_assoc, Nat.reduceAdd, zn12_0_3 (show a ≠ a + 1 by omega), zn12_1_3 (show a ≠ a + 2 by omega), zn12_2_3 (show a ≠ a + 3 by omega), zn12_3_3 (show a ≠ a + 4 by omega), zn12_8_3 (show a ≠ a + 5 by omega), zn12_9_3 (show a ≠ a + 6 by omega), zn12_10_3 (show a ≠ a + 7 by omega), zn12_12_3 (show a ≠ a + 8 by omega), zn12_14_3 (show a ≠ a + 9 by omega), zn12_15_3 (show a ≠ a + 10 by omega), zn12_16_3 (show a ≠ a + 11 by omega), zn12_17_3 (show a ≠ a + 12 by omega), zn12_18_3 (show a ≠ a + 13 by omega), zn12_19_3 (show a ≠ a + 14 by omega), g0', w1']
  · have e : ∀ q, q ≠ a + 1 → z_up (nwD G a) (a + 1) (.inr (.int, 33, .inl (upd (fun _ => 0) 1 8))) q = nwD G a q := fun q hq => z_up_n _ _ hq
    refine ⟨⟨fun _ => 0, by rw [e _ (by omega)]; exact nwD_o G a⟩, ⟨_, z_up_s _ _ _, fun j hj => ?_⟩, ⟨_, by rw [e _ (by omega)]; exact nwD_2 G a⟩, ⟨fun _ => 0, ⟨_, by rw [e _ (by omega)]; exact nwD_3 G a, fun _ _ => rfl⟩, fun h => by cases h⟩, ⟨_, by rw [e _ (by omega)]; exact nwD_4 G a⟩, ⟨_, by rw [e _ (by omega)]; exact nwD_5 G a⟩, ⟨_, by rw [e _ (by omega)]; exact nwD_6 G a⟩, ⟨_, by rw [e _ (by omega)]; exact nwD_7 G a⟩, ⟨_, by rw [e _ (by omega)]; exact nwD_8 G a⟩, ⟨fun _ _ => 0, ⟨by rw [e _ (by omega)]; exact nwD_9 G a, by rw [e _ (by omega)]; exact nwD_10 G a, by rw [e _ (by omega)]; exact nwD_11 G a, by rw [e _ (by omega)]; exact nwD_12 G a, by rw [e _ (by omega)]; exact nwD_13 G a⟩, by rw [e _ (by omega)]; exact nwD_14 G a, fun d _ => rfl⟩⟩
    unfold s00
    by_cases e1 : j = 1
    · subst e1; rw [pk_us]; rfl
    · rw [pk_un e1, if_neg e1]; rfl
end
theorem s00_SG : SG s00 := ⟨⟨by decide, by decide, by decide, fun b hb => absurd hb (Nat.not_lt_zero b)⟩, fun b hb => absurd hb (Nat.not_lt_zero b), by decide⟩
/-- the law's world: the class's object at x, the model's at x + 118, the row for the told element, the script at b -/
def LW (G : z_H) (x : Nat) (s : Nat → Nat) (ib : Bool) (u : Nat → Nat) (hs : Nat → Sh) (n b : Nat) : Prop :=
  XW G x s ib u hs n ∧ DW G (x + 118) s ib u hs ∧ (∃ g, G (x + 133) = some (.inr (.long, 1, .inr (.inl g)))) ∧ x + 134 ≤ n ∧ G b = none ∧ b < x ∧ SG s ∧ SG u ∧ okH hs
theorem LW.two {G G1 G2 : z_H} {x n b : Nat} {s u s' u' : Nat → Nat} {ib ib' : Bool} {hs hs' : Nat → Sh} (h : LW G x s ib u hs n b) (a2 : XW G1 x s' ib' u' hs' n) (a3 : XF x G G1) (b2 : DW G2 (x + 118) s' ib' u' hs') (b3 : FR (x + 118) 15 G1 G2) (g1 : SG s') (g2 : SG u') (g3 : okH hs') : LW G2 x s' ib' u' hs' n b := by
  obtain ⟨h1, h2, ⟨g, h3⟩, h4, h5, h6, h7, h8, h9⟩ := h
  exact ⟨a2.same (Nat.le_refl _) fun q hq => b3 q (by omega), b2, ⟨g, by rw [b3 _ (by omega), a3 _ (by omega)]; exact h3⟩, h4, by rw [b3 _ (by omega), a3 _ (by omega)]; exact h5, h6, g1, g2, g3⟩
theorem LW.d1 {G G1 : z_H} {x n b : Nat} {s u : Nat → Nat} {ib : Bool} {hs : Nat → Sh} (h : LW G x s ib u hs n b) (a3 : XF x G G1) : DW G1 (x + 118) s ib u hs := h.2.1.same fun q q1 q2 => a3 q (by omega)
theorem LW.b1 {G G1 : z_H} {x n b : Nat} {s u : Nat → Nat} {ib : Bool} {hs : Nat → Sh} (h : LW G x s ib u hs n b) (a3 : XF x G G1) : G1 b = none := by
  rw [a3 b (by have := h.2.2.2.2.2.1; omega)]; exact h.2.2.2.2.1
theorem z_ai_scr {E : z_E} {G : z_H} (h : G E.1 = none) (hL : E.2.1 < 2 ^ 31) {j : Nat} (hj : j < E.2.1) : z_ai E G E.1 (nI j) = some (E.2.2 j) := by
  unfold z_ai
  simp only [h, ↓reduceIte]
  rw [if_neg (by rw [z_out_nI hj hL]; decide), nI_clamp (by omega)]
theorem z_an_scr {E : z_E} {G : z_H} (h : G E.1 = none) : z_an E G E.1 = some (nI E.2.1) := by
  unfold z_an
  simp only [h, ↓reduceIte]
/-- states stay states -/
theorem aRings_SG {s : Nat → Nat} (g : SG s) (b : Int32) : SG (aRings s b).2 := by
  unfold aRings
  split
  · exact ⟨rgS_WF g.1 _, rgS_WS g.1 g.2.1 _, by dsimp only; rw [rgS_2]; exact g.2.2⟩
  · exact g
theorem aHours_SG {s : Nat → Nat} (g : SG s) (y : Int32) : SG (aHours s y).2 := by
  unfold aHours
  split
  · split
    · next h => exact ⟨psS_WF g.1 _, psS_WS g.2.1 _, by dsimp only; rw [psS_2]; exact h⟩
    · exact g
  · exact g
theorem aMoves_SG {s : Nat → Nat} (g : SG s) (b p : Int32) : SG (aMoves s b p).2 := by
  unfold aMoves
  split
  · next h =>
    obtain ⟨j, j1, e⟩ := inR_of (by decide) h.2
    refine ⟨mvS_WF g.1 ?_, mvS_WS g.2.1 _ _, ?_⟩
    · rw [e, jN_nI (by omega)]; exact j1
    · dsimp only; rw [uN_n _ _ (by omega)]; exact g.2.2
  · exact g
theorem DW.okB {G : z_H} {a : Nat} {s u : Nat → Nat} {ib : Bool} {hs : Nat → Sh} (h : DW G a s ib u hs) {d k f : Nat} (hd : d < 8) (e : hs d = Sh.be k f) : k < 8 ∧ f < 10 := by
  obtain ⟨c, -, -, h7⟩ := h.sh
  have q := h7 d hd
  rw [e] at q
  exact ⟨q.2.2.2.1, q.2.2.2.2⟩
theorem aComes_SG {G : z_H} {a : Nat} {s u : Nat → Nat} {ib : Bool} {hs : Nat → Sh} (h : DW G a s ib u hs) (g : SG s) (d p : Int32) : SG (aComes s hs d p).2 := by
  unfold aComes
  cases hp : inR p 31
  · exact g
  · simp only [Bool.true_eq_false, ↓reduceIte]
    by_cases hl : lkB hs d ≠ 0
    · rw [if_pos hl]; exact g
    · rw [if_neg hl]
      obtain ⟨d, kk, ff, hd, rfl, e⟩ := lkB_be hl
      rw [jN_nI (show d < 2 ^ 31 by omega), e]
      dsimp only
      split
      · exact g
      · next h6 =>
        obtain ⟨h8, h10⟩ := h.okB hd e
        obtain ⟨p, p1, rfl⟩ := inR_of (by decide) hp
        rw [jN_nI (show p < 2 ^ 31 by omega)]
        have w6 := g.1.1
        exact ⟨adS_WF g.1 (by omega) h8 h10 p1, adS_WS g.2.1 h8 h10, by dsimp only; rw [adS_2]; exact g.2.2⟩
theorem aMarsh_SG {s : Nat → Nat} {hs : Nat → Sh} (g : SG s) (hk : okH hs) (d : Int32) : SG (aMarsh s hs d).2 := by
  unfold aMarsh
  by_cases hl : lkR hs d ≠ 0
  · rw [if_pos hl]; exact g
  · rw [if_neg hl]
    obtain ⟨d, so, sz, el, hd, rfl, e⟩ := lkR_ro hl
    rw [jN_nI (show d < 2 ^ 31 by omega), e]
    dsimp only
    split
    · rcases es : stN sz (txN sz el) (sz + 1) 0 with _ | j
      · dsimp only
        rcases ed : doM sz (txN sz el) (sz + 1) 0 0 s with b | ⟨m, t⟩
        · exact g
        · exact doM_SG _ _ _ _ _ _ g (fun _ => es) ed
      · exact g
    · exact g
theorem okH_up {hs : Nat → Sh} (hk : okH hs) (d : Nat) {v : Sh} (hv : ∀ sz el, v = Sh.ro 0 sz el → okB sz el) : okH (upS hs d v) := by
  intro j hj sz el e
  by_cases ej : j = d
  · subst ej; rw [upS_s] at e; exact hv sz el e
  · rw [upS_n _ _ ej] at e; exact hk j hj sz el e
theorem aKeep_ok {hs : Nat → Sh} (hk : okH hs) (d y k f : Int32) : okH (aKeep hs d y k f).2 := by
  unfold aKeep
  split
  · refine okH_up hk _ fun sz el e => ?_
    split at e <;> cases e
  · exact hk
theorem aRow_ok {hs : Nat → Sh} (hk : okH hs) (d so m : Int32) : okH (aRow hs d so m).2 := by
  unfold aRow
  split
  · split
    · exact hk
    · refine okH_up hk _ fun sz el e i _ => ⟨0, by omega, ?_⟩
      injection e with e
      injection e with e
      injection e with e1 e
      injection e with e2 e
      rw [← e]
      rfl
  · exact hk
theorem aPut_ok {hs : Nat → Sh} (hk : okH hs) (d i v : Int32) : okH (aPut hs d i v).2 := by
  unfold aPut
  by_cases hl : lkR hs d ≠ 0
  · rw [if_pos hl]; exact hk
  · rw [if_neg hl]
    obtain ⟨d, so, sz, el, hd, rfl, e⟩ := lkR_ro hl
    rw [jN_nI (show d < 2 ^ 31 by omega), e]
    dsimp only
    split
    · refine okH_up hk _ fun sz' el' e' j hj => ?_
      injection e' with e'
      injection e' with e'
      injection e' with e1 e'
      injection e' with e2 e3
      subst e1
      subst e2
      rw [← e3]
      by_cases ej : j = jN i
      · rw [ej, pk_us]; exact by_8 v
      · rw [pk_un ej]; exact hk d hd sz el e j hj
    · exact hk
theorem aCopy_ok {G : z_H} {a : Nat} {s u : Nat → Nat} {ib : Bool} {hs : Nat → Sh} (h : DW G a s ib u hs) (hk : okH hs) (d i e j m : Int32) : okH (aCopy hs d i e j m).2 := by
  unfold aCopy
  cases hd : inR d 8
  · simp only [Bool.false_eq_true, false_and, ↓reduceIte]; exact hk
  · cases he : inR e 8
    · simp only [Bool.false_eq_true, and_false, ↓reduceIte]; exact hk
    · obtain ⟨d, hd8, rfl⟩ := inR_of (by decide) hd
      obtain ⟨e, he8, rfl⟩ := inR_of (by decide) he
      rw [jN_nI (show d < 2 ^ 31 by omega), jN_nI (show e < 2 ^ 31 by omega)]
      simp only [and_self, ↓reduceIte]
      split
      · exact hk
      · rcases ed : hs d with _ | ⟨kk, ff⟩ | ⟨so, sz, el⟩
        · exact hk
        · exact hk
        · rcases ee : hs e with _ | ⟨kk, ff⟩ | ⟨so', sz', el'⟩
          · exact hk
          · exact hk
          · dsimp only
            split
            · next hso =>
              split
              · next hb =>
                dsimp only
                refine okH_up hk _ fun sz2 el2 e2 q hq => ?_
                injection e2 with e2
                injection e2 with e2
                injection e2 with x1 e2
                injection e2 with x2 x3
                subst x1
                subst x2
                subst hso
                rw [← x3]
                unfold cpE
                split
                · next hin =>
                  have zs : sz ≤ 100 := (h.ro (E := (0, 0, fun _ => 0)) hd8 ed).2.2.2.2.1
                  have zs' := (h.ro (E := (0, 0, fun _ => 0)) he8 ee).2.2.2.2.1
                  obtain ⟨a1, b1, rfl, rfl, l1⟩ := haB_of zs hb.1
                  obtain ⟨a2, b2, rfl, e2', l2⟩ := haB_of zs' hb.2
                  rw [jN_nI (show a1 < 2 ^ 31 by omega), jN_nI (show a2 < 2 ^ 31 by omega)]
                  rw [jN_nI (show a2 < 2 ^ 31 by omega), jN_nI (show b1 < 2 ^ 31 by omega)] at hin
                  exact hk d hd8 sz el ed _ (by omega)
                · exact hk e he8 _ el' ee q hq
              · exact hk
            · exact hk
