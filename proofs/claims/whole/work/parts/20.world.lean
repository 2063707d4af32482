/-! WHAT A STATE IS, in numbers: s 0 BELLS, s 1 HOUR, s 2 DAY, s (3 + 5 b + ..) KIND, FIGURE, PLACE, RUNG, OPENED of bell b. -/
theorem nI_ltI' {a b : Nat} (ha : a < 2 ^ 31) (hb : b < 2 ^ 31) : (nI a < nI b) = (a < b) := propext (nI_ltI ha hb)
theorem nI_leI' {a b : Nat} (ha : a < 2 ^ 31) (hb : b < 2 ^ 31) : (nI a ≤ nI b) = (a ≤ b) := propext (nI_leI ha hb)
theorem nI_eqI' {a b : Nat} (ha : a < 2 ^ 31) (hb : b < 2 ^ 31) : (nI a = nI b) = (a = b) := propext (nI_eq ha hb)
theorem z_out_nI {j N : Nat} (hj : j < N) (hN : N < 2 ^ 31) : z_out (nI j) N = false := by
  have h := vp_in_nI hj hN
  unfold vp_in at h
  unfold z_out
  simp only [Bool.or_eq_false_iff, decide_eq_false_iff_not]
  exact ⟨fun z => h (Or.inl z), fun z => h (Or.inr z)⟩
theorem z_gfI {G : z_H} {a ci k lo hi t f : Nat} {fs : List Value} {v : Value} (h : G a = some (.inl (ci, fs))) (h1 : lo ≤ ci) (h2 : ci ≤ hi) (hv : fs[k]? = some v) : z_gf G a [k, lo, hi, t, f] = some v := by
  unfold z_gf
  simp only [h]
  rw [if_pos ⟨h1, h2⟩, hv]
theorem z_pfI {G : z_H} {a ci k lo hi t f : Nat} {fs : List Value} {v : Value} {b : Bool} (h : G a = some (.inl (ci, fs))) (h1 : lo ≤ ci) (h2 : ci ≤ hi) (hk : k < fs.length) (hf : z_fit t v = true) (hg : f = 0 ∨ (f = 1 ∧ b = true)) : z_pf G a v b [k, lo, hi, t, f] = some (z_up G a (.inl (ci, fs.set k v))) := by
  unfold z_pf
  simp only [h]
  rw [if_pos ⟨h1, h2, hk, hf, hg⟩]
theorem z_aiI {E : z_E} {G : z_H} {a N j : Nat} {f : Nat → Int32} (h : G a = some (.inr (.int, N, .inl f))) (hj : j < N) (hN : N < 2 ^ 31) : z_ai E G a (nI j) = some (f j) := by
  unfold z_ai
  simp only [h]
  rw [if_neg (by rw [z_out_nI hj hN]; decide), nI_clamp (by omega)]
theorem z_piI {G : z_H} {a N j : Nat} {f : Nat → Int32} {x : Int32} (h : G a = some (.inr (.int, N, .inl f))) (hj : j < N) (hN : N < 2 ^ 31) : z_pi G a (nI j) x = some (z_up G a (.inr (.int, N, .inl (upd f j x)))) := by
  unfold z_pi
  simp only [h]
  rw [if_neg (by rw [z_out_nI hj hN]; decide), nI_clamp (by omega)]
theorem z_clsI {G : z_H} {a ci : Nat} {fs : List Value} (h : G a = some (.inl (ci, fs))) : z_clsOf G a = some ci := by
  unfold z_clsOf
  simp only [h]
theorem z_up_s (G : z_H) (a : Nat) (c : z_C) : z_up G a c a = some c := if_pos rfl
theorem z_up_n (G : z_H) {a q : Nat} (c : z_C) (h : q ≠ a) : z_up G a c q = G q := if_neg h
theorem z_obs {α β : Type} (a : α) (f : α → Option β) : (some a).bind f = f a := rfl
def wt (k f : Nat) : Nat := if k = 1 ∨ k = 4 ∨ k = 5 then 2 else if k = 3 then 2 + f / 3 else if k = 6 then f / 2 + 1 else if k = 7 then 2 * (2 + f / 3) else 1
def stp (k f : Nat) : Nat := if k = 1 then f + 3 else if k = 2 then 0 else if k = 3 then 2 * (f + 3) else if k = 4 ∨ k = 5 then (f + 3) / 2 else if k = 6 then 9 - f else if k = 7 then 2 * (f + 3) + 1 else f + 1
def prc (k f : Nat) : Nat := if k = 1 then 3 + f else if k = 2 ∨ k = 6 then 1 else if k = 3 then 6 + 2 * f else if k = 4 then 7 + f else if k = 5 then (7 + f) / 2 else if k = 7 then 6 + 3 * f else 3
/-- is somebody HOME -/
def hm (k f h : Nat) : Bool :=
  let bell := decide ((h + 24 - f) % 24 < 12)
  let door := bell && decide (h ≠ 12) && decide (h ≠ 13)
  if k = 1 then door else if k = 2 then true else if k = 3 then !door else if k = 4 then door && decide (h % 2 = 0) else if k = 5 then false else if k = 6 then decide (h % (f + 1) = 0) else if k = 7 then !door || decide (h = 0) else bell
/-- HOURS as bits -/
def hbN (k f : Nat) : Nat → Nat
  | 0 => 0
  | h + 1 => hbN k f h + if hm k f h then 2 ^ h else 0
def hb (k f : Nat) : Int32 := nI (hbN k f 24)
def sK (s : Nat → Nat) (b : Nat) : Nat := s (3 + 5 * b)
def sF (s : Nat → Nat) (b : Nat) : Nat := s (4 + 5 * b)
def sP (s : Nat → Nat) (b : Nat) : Nat := s (5 + 5 * b)
def sR (s : Nat → Nat) (b : Nat) : Nat := s (6 + 5 * b)
def sO (s : Nat → Nat) (b : Nat) : Nat := s (7 + 5 * b)
def sW (s : Nat → Nat) (b : Nat) : Nat := wt (sK s b) (sF s b)
def sS (s : Nat → Nat) (b : Nat) : Nat := stp (sK s b) (sF s b)
def sH (s : Nat → Nat) (b h : Nat) : Bool := hm (sK s b) (sF s b) (h % 24)
def uN (s : Nat → Nat) (i v : Nat) : Nat → Nat := fun j => if j = i then v else s j
/-- a state as it can be -/
def WF (s : Nat → Nat) : Prop := s 0 ≤ 6 ∧ s 1 < 24 ∧ 0 ≤ s 2 ∧ ∀ b, b < s 0 → sK s b < 8 ∧ sF s b < 10 ∧ sP s b < 31 ∧ sR s b < 10 ∧ sO s b < 100
/-- no bell has been rung as often as it wants -/
def WS (s : Nat → Nat) : Prop := ∀ b, b < s 0 → sR s b < sW s b
theorem wt_le : ∀ k, k < 8 → ∀ f, f < 10 → 1 ≤ wt k f ∧ wt k f ≤ 10 ∧ stp k f ≤ 25 := by decide +kernel
theorem hb_bit : ∀ k, k < 8 → ∀ f, f < 10 → ∀ h, h < 24 → ((hb k f >>> (nI h &&& 31)) &&& 1) = if hm k f h then 1 else 0 := by decide +kernel
/-- the cells of a Marsh object, from a on, hold s -/
def MA (G : z_H) (a : Nat) (s : Nat → Nat) : Prop :=
  G a = some (.inl (8, [.ref (a + 1), .ref (a + 2), .ref (a + 3), .ref (a + 4), .ref (a + 5), .ref (a + 6), .ref (a + 7), .ref (a + 8), .int (nI (s 0)), .int (nI (s 1)), .int (nI (s 2))])) ∧
  (∃ f, G (a + 1) = some (.inr (.int, 6, .inl f)) ∧ ∀ b, b < 6 → f b = nI (sK s b)) ∧
  (∃ f, G (a + 2) = some (.inr (.int, 6, .inl f)) ∧ ∀ b, b < 6 → f b = nI (sF s b)) ∧
  (∃ f, G (a + 3) = some (.inr (.int, 6, .inl f)) ∧ ∀ b, b < 6 → f b = nI (sP s b)) ∧
  (∃ f, G (a + 4) = some (.inr (.int, 6, .inl f)) ∧ ∀ b, b < 6 → f b = nI (sR s b)) ∧
  (∃ f, G (a + 5) = some (.inr (.int, 6, .inl f)) ∧ ∀ b, b < 6 → f b = nI (sO s b)) ∧
  (∃ f, G (a + 6) = some (.inr (.int, 6, .inl f)) ∧ ∀ b, b < s 0 → f b = hb (sK s b) (sF s b)) ∧
  (∃ f, G (a + 7) = some (.inr (.int, 6, .inl f)) ∧ ∀ b, b < s 0 → f b = nI (sW s b)) ∧
  (∃ f, G (a + 8) = some (.inr (.int, 6, .inl f)) ∧ ∀ b, b < s 0 → f b = nI (sS s b))
theorem MA.of_eq {G G' : z_H} {a : Nat} {s : Nat → Nat} (h : MA G a s) (hq : ∀ q, a ≤ q → q < a + 9 → G' q = G q) : MA G' a s := by
  obtain ⟨h0, h1, h2, h3, h4, h5, h6, h7, h8⟩ := h
  refine ⟨by rw [hq _ (by omega) (by omega)]; exact h0, ?_, ?_, ?_, ?_, ?_, ?_, ?_, ?_⟩ <;> rw [hq _ (by omega) (by omega)] <;> assumption
section MRD
variable {E : z_E} {G : z_H} {a : Nat} {s : Nat → Nat}
theorem MA.cls (h : MA G a s) : z_clsOf G a = some 8 := z_clsI h.1
theorem MA.f0 (h : MA G a s) (t f : Nat) : z_gf G a [0, 8, 8, t, f] = some (.ref (a + 1)) := z_gfI h.1 (by decide) (by decide) rfl
theorem MA.f1 (h : MA G a s) (t f : Nat) : z_gf G a [1, 8, 8, t, f] = some (.ref (a + 2)) := z_gfI h.1 (by decide) (by decide) rfl
theorem MA.f2 (h : MA G a s) (t f : Nat) : z_gf G a [2, 8, 8, t, f] = some (.ref (a + 3)) := z_gfI h.1 (by decide) (by decide) rfl
theorem MA.f3 (h : MA G a s) (t f : Nat) : z_gf G a [3, 8, 8, t, f] = some (.ref (a + 4)) := z_gfI h.1 (by decide) (by decide) rfl
theorem MA.f4 (h : MA G a s) (t f : Nat) : z_gf G a [4, 8, 8, t, f] = some (.ref (a + 5)) := z_gfI h.1 (by decide) (by decide) rfl
theorem MA.f5 (h : MA G a s) (t f : Nat) : z_gf G a [5, 8, 8, t, f] = some (.ref (a + 6)) := z_gfI h.1 (by decide) (by decide) rfl
theorem MA.f6 (h : MA G a s) (t f : Nat) : z_gf G a [6, 8, 8, t, f] = some (.ref (a + 7)) := z_gfI h.1 (by decide) (by decide) rfl
theorem MA.f7 (h : MA G a s) (t f : Nat) : z_gf G a [7, 8, 8, t, f] = some (.ref (a + 8)) := z_gfI h.1 (by decide) (by decide) rfl
theorem MA.f8 (h : MA G a s) (t f : Nat) : z_gf G a [8, 8, 8, t, f] = some (.int (nI (s 0))) := z_gfI h.1 (by decide) (by decide) rfl
theorem MA.f9 (h : MA G a s) (t f : Nat) : z_gf G a [9, 8, 8, t, f] = some (.int (nI (s 1))) := z_gfI h.1 (by decide) (by decide) rfl
theorem MA.f10 (h : MA G a s) (t f : Nat) : z_gf G a [10, 8, 8, t, f] = some (.int (nI (s 2))) := z_gfI h.1 (by decide) (by decide) rfl
theorem MA.a1 (h : MA G a s) {j : Nat} (hj : j < 6) : z_ai E G (a + 1) (nI j) = some (nI (sK s j)) := by obtain ⟨f, e, q⟩ := h.2.1; rw [z_aiI e hj (by decide), q j hj]
theorem MA.a2 (h : MA G a s) {j : Nat} (hj : j < 6) : z_ai E G (a + 2) (nI j) = some (nI (sF s j)) := by obtain ⟨f, e, q⟩ := h.2.2.1; rw [z_aiI e hj (by decide), q j hj]
theorem MA.a3 (h : MA G a s) {j : Nat} (hj : j < 6) : z_ai E G (a + 3) (nI j) = some (nI (sP s j)) := by obtain ⟨f, e, q⟩ := h.2.2.2.1; rw [z_aiI e hj (by decide), q j hj]
theorem MA.a4 (h : MA G a s) {j : Nat} (hj : j < 6) : z_ai E G (a + 4) (nI j) = some (nI (sR s j)) := by obtain ⟨f, e, q⟩ := h.2.2.2.2.1; rw [z_aiI e hj (by decide), q j hj]
theorem MA.a5 (h : MA G a s) {j : Nat} (hj : j < 6) : z_ai E G (a + 5) (nI j) = some (nI (sO s j)) := by obtain ⟨f, e, q⟩ := h.2.2.2.2.2.1; rw [z_aiI e hj (by decide), q j hj]
theorem MA.a6 (h : MA G a s) (w : WF s) {j : Nat} (hj : j < s 0) : z_ai E G (a + 6) (nI j) = some (hb (sK s j) (sF s j)) := by obtain ⟨f, e, q⟩ := h.2.2.2.2.2.2.1; rw [z_aiI e (Nat.lt_of_lt_of_le hj w.1) (by decide), q j hj]
theorem MA.a7 (h : MA G a s) (w : WF s) {j : Nat} (hj : j < s 0) : z_ai E G (a + 7) (nI j) = some (nI (sW s j)) := by obtain ⟨f, e, q⟩ := h.2.2.2.2.2.2.2.1; rw [z_aiI e (Nat.lt_of_lt_of_le hj w.1) (by decide), q j hj]
theorem MA.a8 (h : MA G a s) (w : WF s) {j : Nat} (hj : j < s 0) : z_ai E G (a + 8) (nI j) = some (nI (sS s j)) := by obtain ⟨f, e, q⟩ := h.2.2.2.2.2.2.2.2; rw [z_aiI e (Nat.lt_of_lt_of_le hj w.1) (by decide), q j hj]
end MRD
/-- a number that is a bell's -/
def isB (s : Nat → Nat) (x : Int32) : Bool := decide (0 ≤ x) && decide (x < nI (s 0))
theorem isB_of {s : Nat → Nat} (w : WF s) {x : Int32} (h : isB s x = true) : ∃ j, j < s 0 ∧ x = nI j := by
  have h6 := w.1
  unfold isB at h
  simp only [Bool.and_eq_true, decide_eq_true_eq] at h
  obtain ⟨j, h1, rfl⟩ := nI_of (Int32.not_lt.mpr h.1)
  exact ⟨j, (nI_ltI h1 (by omega)).mp h.2, rfl⟩
theorem isB_nI {s : Nat → Nat} (w : WF s) {j : Nat} (h : j < s 0) : isB s (nI j) = true := by
  have h6 := w.1
  unfold isB
  simp only [Bool.and_eq_true, decide_eq_true_eq]
  exact ⟨nI_pos' (by omega), (nI_ltI (by omega) (by omega)).mpr h⟩
def z_b (b : Bool) : Int32 := if b = true then 1 else 0
theorem z_b_t : z_b true = 1 := rfl
theorem z_b_f : z_b false = 0 := rfl
theorem z01a : ((0 : Int32) = 0 ∨ (0 : Int32) = 1) := Or.inl rfl
theorem z01b : ((1 : Int32) = 0 ∨ (1 : Int32) = 1) := Or.inr rfl
theorem z01c (b : Bool) : (z_b b = 0 ∨ z_b b = 1) := by cases b <;> simp [z_b]
theorem z10 : ((1 : Int32) = 0) = False := by simp
theorem z00 : ((0 : Int32) = 0) = True := by simp
theorem z_bz (b : Bool) : (z_b b = 0) = (b = false) := by cases b <;> simp [z_b]
theorem uN_s (s : Nat → Nat) (i v : Nat) : uN s i v i = v := if_pos rfl
theorem uN_n (s : Nat → Nat) {i j : Nat} (v : Nat) (h : j ≠ i) : uN s i v j = s j := if_neg h
/-- what lies outside of a stretch stays -/
def FR (a w : Nat) (G G' : z_H) : Prop := ∀ q, (q < a ∨ a + w ≤ q) → G' q = G q
theorem FR.rf {a w : Nat} {G : z_H} : FR a w G G := fun _ _ => rfl
theorem FR.tr {a w : Nat} {G G' G'' : z_H} (h : FR a w G G') (h' : FR a w G' G'') : FR a w G G'' := fun q hq => (h' q hq).trans (h q hq)
theorem FR.up {a w i : Nat} {G : z_H} (c : z_C) (h : i < w) : FR a w G (z_up G (a + i) c) := fun q hq => z_up_n G c (by omega)
section MWR
variable {G : z_H} {a : Nat} {s : Nat → Nat}
theorem MA.w3 (h : MA G a s) {j v : Nat} (hj : j < 6) : ∃ G1, z_pi G (a + 3) (nI j) (nI v) = some G1 ∧ MA G1 a (uN s (5 + 5 * j) v) ∧ FR a 9 G G1 := by
  obtain ⟨h0, h1, h2, ⟨f, e, q⟩, h4, h5, h6, h7, h8⟩ := h
  have k1 : ∀ b, sK (uN s (5 + 5 * j) v) b = sK s b := fun b => uN_n _ _ (by omega)
  have k2 : ∀ b, sF (uN s (5 + 5 * j) v) b = sF s b := fun b => uN_n _ _ (by omega)
  have k4 : ∀ b, sR (uN s (5 + 5 * j) v) b = sR s b := fun b => uN_n _ _ (by omega)
  have k5 : ∀ b, sO (uN s (5 + 5 * j) v) b = sO s b := fun b => uN_n _ _ (by omega)
  have e0 : uN s (5 + 5 * j) v 0 = s 0 := uN_n _ _ (by omega)
  have e1 : uN s (5 + 5 * j) v 1 = s 1 := uN_n _ _ (by omega)
  have e2 : uN s (5 + 5 * j) v 2 = s 2 := uN_n _ _ (by omega)
  refine ⟨_, z_piI e hj (by decide), ?_, FR.up _ (by decide)⟩
  unfold MA sW sS
  simp only [k1, k2, k4, k5, e0, e1, e2]
  refine ⟨by rw [z_up_n _ _ (by omega)]; exact h0, by rw [z_up_n _ _ (by omega)]; exact h1, by rw [z_up_n _ _ (by omega)]; exact h2, ⟨_, z_up_s _ _ _, fun b hb => ?_⟩, by rw [z_up_n _ _ (by omega)]; exact h4, by rw [z_up_n _ _ (by omega)]; exact h5, by rw [z_up_n _ _ (by omega)]; exact h6, by rw [z_up_n _ _ (by omega)]; exact h7, by rw [z_up_n _ _ (by omega)]; exact h8⟩
  unfold upd
  by_cases hbj : b = j
  · subst hbj
    rw [if_pos rfl]; unfold sP; rw [uN_s]
  · rw [if_neg hbj, q b hb]; unfold sP; rw [uN_n _ _ (by omega)]
theorem MA.w4 (h : MA G a s) {j v : Nat} (hj : j < 6) : ∃ G1, z_pi G (a + 4) (nI j) (nI v) = some G1 ∧ MA G1 a (uN s (6 + 5 * j) v) ∧ FR a 9 G G1 := by
  obtain ⟨h0, h1, h2, h3, ⟨f, e, q⟩, h5, h6, h7, h8⟩ := h
  have k1 : ∀ b, sK (uN s (6 + 5 * j) v) b = sK s b := fun b => uN_n _ _ (by omega)
  have k2 : ∀ b, sF (uN s (6 + 5 * j) v) b = sF s b := fun b => uN_n _ _ (by omega)
  have k3 : ∀ b, sP (uN s (6 + 5 * j) v) b = sP s b := fun b => uN_n _ _ (by omega)
  have k5 : ∀ b, sO (uN s (6 + 5 * j) v) b = sO s b := fun b => uN_n _ _ (by omega)
  have e0 : uN s (6 + 5 * j) v 0 = s 0 := uN_n _ _ (by omega)
  have e1 : uN s (6 + 5 * j) v 1 = s 1 := uN_n _ _ (by omega)
  have e2 : uN s (6 + 5 * j) v 2 = s 2 := uN_n _ _ (by omega)
  refine ⟨_, z_piI e hj (by decide), ?_, FR.up _ (by decide)⟩
  unfold MA sW sS
  simp only [k1, k2, k3, k5, e0, e1, e2]
  refine ⟨by rw [z_up_n _ _ (by omega)]; exact h0, by rw [z_up_n _ _ (by omega)]; exact h1, by rw [z_up_n _ _ (by omega)]; exact h2, by rw [z_up_n _ _ (by omega)]; exact h3, ⟨_, z_up_s _ _ _, fun b hb => ?_⟩, by rw [z_up_n _ _ (by omega)]; exact h5, by rw [z_up_n _ _ (by omega)]; exact h6, by rw [z_up_n _ _ (by omega)]; exact h7, by rw [z_up_n _ _ (by omega)]; exact h8⟩
  unfold upd
  by_cases hbj : b = j
  · subst hbj
    rw [if_pos rfl]; unfold sR; rw [uN_s]
  · rw [if_neg hbj, q b hb]; unfold sR; rw [uN_n _ _ (by omega)]
theorem MA.w5 (h : MA G a s) {j v : Nat} (hj : j < 6) : ∃ G1, z_pi G (a + 5) (nI j) (nI v) = some G1 ∧ MA G1 a (uN s (7 + 5 * j) v) ∧ FR a 9 G G1 := by
  obtain ⟨h0, h1, h2, h3, h4, ⟨f, e, q⟩, h6, h7, h8⟩ := h
  have k1 : ∀ b, sK (uN s (7 + 5 * j) v) b = sK s b := fun b => uN_n _ _ (by omega)
  have k2 : ∀ b, sF (uN s (7 + 5 * j) v) b = sF s b := fun b => uN_n _ _ (by omega)
  have k3 : ∀ b, sP (uN s (7 + 5 * j) v) b = sP s b := fun b => uN_n _ _ (by omega)
  have k4 : ∀ b, sR (uN s (7 + 5 * j) v) b = sR s b := fun b => uN_n _ _ (by omega)
  have e0 : uN s (7 + 5 * j) v 0 = s 0 := uN_n _ _ (by omega)
  have e1 : uN s (7 + 5 * j) v 1 = s 1 := uN_n _ _ (by omega)
  have e2 : uN s (7 + 5 * j) v 2 = s 2 := uN_n _ _ (by omega)
  refine ⟨_, z_piI e hj (by decide), ?_, FR.up _ (by decide)⟩
  unfold MA sW sS
  simp only [k1, k2, k3, k4, e0, e1, e2]
  refine ⟨by rw [z_up_n _ _ (by omega)]; exact h0, by rw [z_up_n _ _ (by omega)]; exact h1, by rw [z_up_n _ _ (by omega)]; exact h2, by rw [z_up_n _ _ (by omega)]; exact h3, by rw [z_up_n _ _ (by omega)]; exact h4, ⟨_, z_up_s _ _ _, fun b hb => ?_⟩, by rw [z_up_n _ _ (by omega)]; exact h6, by rw [z_up_n _ _ (by omega)]; exact h7, by rw [z_up_n _ _ (by omega)]; exact h8⟩
  unfold upd
  by_cases hbj : b = j
  · subst hbj
    rw [if_pos rfl]; unfold sO; rw [uN_s]
  · rw [if_neg hbj, q b hb]; unfold sO; rw [uN_n _ _ (by omega)]
/-- HOUR, DAY put -/
theorem MA.wh (h : MA G a s) {v : Nat} (b : Bool) (f : Nat) (hf : f = 0) : ∃ G1, z_pf G a (.int (nI v)) b [9, 8, 8, 0, f] = some G1 ∧ MA G1 a (uN s 1 v) ∧ FR a 9 G G1 := by
  subst hf
  obtain ⟨h0, hr⟩ := h
  refine ⟨_, z_pfI (k := 9) (lo := 8) (hi := 8) (t := 0) (f := 0) h0 (Nat.le_refl _) (Nat.le_refl _) (Nat.le_of_ble_eq_true rfl) rfl (Or.inl rfl), ⟨?_, ?_⟩, fun q hq => z_up_n G _ (by omega)⟩
  · rw [z_up_s]
    rw [uN_s, uN_n s v (by decide : (0 : Nat) ≠ 1), uN_n s v (by decide : (2 : Nat) ≠ 1)]
    rfl
  · have k1 : ∀ b, sK (uN s 1 v) b = sK s b := fun b => uN_n _ _ (by omega)
    have k2 : ∀ b, sF (uN s 1 v) b = sF s b := fun b => uN_n _ _ (by omega)
    have k3 : ∀ b, sP (uN s 1 v) b = sP s b := fun b => uN_n _ _ (by omega)
    have k4 : ∀ b, sR (uN s 1 v) b = sR s b := fun b => uN_n _ _ (by omega)
    have k5 : ∀ b, sO (uN s 1 v) b = sO s b := fun b => uN_n _ _ (by omega)
    have e0 : uN s 1 v 0 = s 0 := uN_n _ _ (by omega)
    unfold sW sS at hr ⊢
    simp only [k1, k2, k3, k4, k5, e0, z_up_n G _ (show a + 1 ≠ a by omega), z_up_n G _ (show a + 2 ≠ a by omega), z_up_n G _ (show a + 3 ≠ a by omega), z_up_n G _ (show a + 4 ≠ a by omega), z_up_n G _ (show a + 5 ≠ a by omega), z_up_n G _ (show a + 6 ≠ a by omega), z_up_n G _ (show a + 7 ≠ a by omega), z_up_n G _ (show a + 8 ≠ a by omega)]
    exact hr
theorem MA.wd (h : MA G a s) {v : Nat} (b : Bool) (f : Nat) (hf : f = 0) : ∃ G1, z_pf G a (.int (nI v)) b [10, 8, 8, 0, f] = some G1 ∧ MA G1 a (uN s 2 v) ∧ FR a 9 G G1 := by
  subst hf
  obtain ⟨h0, hr⟩ := h
  refine ⟨_, z_pfI (k := 10) (lo := 8) (hi := 8) (t := 0) (f := 0) h0 (Nat.le_refl _) (Nat.le_refl _) (Nat.le_of_ble_eq_true rfl) rfl (Or.inl rfl), ⟨?_, ?_⟩, fun q hq => z_up_n G _ (by omega)⟩
  · rw [z_up_s]
    rw [uN_s, uN_n s v (by decide : (0 : Nat) ≠ 2), uN_n s v (by decide : (1 : Nat) ≠ 2)]
    rfl
  · have k1 : ∀ b, sK (uN s 2 v) b = sK s b := fun b => uN_n _ _ (by omega)
    have k2 : ∀ b, sF (uN s 2 v) b = sF s b := fun b => uN_n _ _ (by omega)
    have k3 : ∀ b, sP (uN s 2 v) b = sP s b := fun b => uN_n _ _ (by omega)
    have k4 : ∀ b, sR (uN s 2 v) b = sR s b := fun b => uN_n _ _ (by omega)
    have k5 : ∀ b, sO (uN s 2 v) b = sO s b := fun b => uN_n _ _ (by omega)
    have e0 : uN s 2 v 0 = s 0 := uN_n _ _ (by omega)
    unfold sW sS at hr ⊢
    simp only [k1, k2, k3, k4, k5, e0, z_up_n G _ (show a + 1 ≠ a by omega), z_up_n G _ (show a + 2 ≠ a by omega), z_up_n G _ (show a + 3 ≠ a by omega), z_up_n G _ (show a + 4 ≠ a by omega), z_up_n G _ (show a + 5 ≠ a by omega), z_up_n G _ (show a + 6 ≠ a by omega), z_up_n G _ (show a + 7 ≠ a by omega), z_up_n G _ (show a + 8 ≠ a by omega)]
    exact hr
end MWR
/-- a ring of bell b: what is heard, what is then -/
def rgH (s : Nat → Nat) (b : Nat) : Nat := if sH s b (s 1) = true then (if sW s b ≤ sR s b + 1 then sS s b + 100 else sS s b * (sR s b + 1) / sW s b) else 0
def rgS (s : Nat → Nat) (b : Nat) : Nat → Nat := if sH s b (s 1) = true then (if sW s b ≤ sR s b + 1 then uN (uN s (6 + 5 * b) 0) (7 + 5 * b) (min 99 (sO s b + 1)) else uN s (6 + 5 * b) (sR s b + 1)) else uN s (6 + 5 * b) 0
/-- an hour goes by -/
def hrS (s : Nat → Nat) : Nat → Nat := if s 1 + 1 < 24 then uN s 1 (s 1 + 1) else uN (uN s 1 0) 2 (s 2 + 1)
theorem int_0 : (0 : Int32) = nI 0 := rfl
theorem int_1 : (1 : Int32) = nI 1 := rfl
