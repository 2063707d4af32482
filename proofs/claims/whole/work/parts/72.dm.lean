/-! THE MODEL: the least hours at which all are home -/
theorem nn_iff (x : Int32) : 0 ≤ x ↔ x.toBitVec.msb = false := by
  rw [Int32.le_iff_toInt_le, show (0 : Int32).toInt = 0 by decide, show x.toInt = x.toBitVec.toInt from rfl, BitVec.toInt_eq_msb_cond]
  have h1 := x.toBitVec.isLt
  cases h : x.toBitVec.msb
  · simp only [Bool.false_eq_true, ↓reduceIte, iff_true]; omega
  · simp only [↓reduceIte, Bool.true_eq_false, iff_false]; omega
theorem or_nn {x y : Int32} (hx : 0 ≤ x) (hy : 0 ≤ y) : 0 ≤ x ||| y := by
  rw [nn_iff] at hx hy ⊢
  rw [Int32.toBitVec_or, BitVec.msb_or, hx, hy]; rfl
theorem and_or3 (x y z : Int32) : x &&& (y ||| z) = (x &&& y) ||| (x &&& z) := by
  apply Int32.toBitVec_inj.mp
  rw [Int32.toBitVec_and, Int32.toBitVec_or, Int32.toBitVec_or, Int32.toBitVec_and, Int32.toBitVec_and, BitVec.and_or_distrib_left]
theorem hb_and1 : ∀ k, k < 8 → ∀ f, f < 10 → ∀ a, a < 24 → ((hb k f &&& ((1 : Int32) <<< (nI a &&& 31)) = 0) ↔ hm k f a = false) := by decide +kernel
theorem sh_nn : ∀ a, a < 24 → (0 : Int32) ≤ (1 : Int32) <<< (nI a &&& 31) := by decide +kernel
def srch {β : Type} (g : Nat → Option β) : Nat → Nat → Option (Nat × β)
  | 0, _ => none
  | m + 1, i => match g i with
    | some x => some (i, x)
    | none => srch g m (i + 1)
theorem srch_congr {β : Type} {g g' : Nat → Option β} : ∀ m i, (∀ j, i ≤ j → j < i + m → g j = g' j) → srch g m i = srch g' m i := by
  intro m
  induction m with
  | zero => intro i h; rfl
  | succ m ih =>
    intro i h
    unfold srch
    rw [h i (Nat.le_refl _) (by omega), ih (i + 1) fun j h1 h2 => h j (by omega) (by omega)]
theorem z_srch {β γ : Type} (V : Nat → γ → Option z_R) (g : Nat → Option β) (M : Nat) (R : Option (Nat × β) → γ → Option z_R) (hx : ∀ j, V M j = R none j) (hs : ∀ i j x, i < M → g i = some x → V i j = R (some (i, x)) j) (hn : ∀ i j, i < M → g i = none → ∃ j', V i j = V (i + 1) j') : ∀ m i j, i + m = M → ∃ j', V i j = R (srch g m i) j' := by
  intro m
  induction m with
  | zero => intro i j h; have e : i = M := by omega
            subst e; exact ⟨j, hx j⟩
  | succ m ih =>
    intro i j h
    unfold srch
    rcases hp : g i with _ | x
    · obtain ⟨j', e⟩ := hn i j (by omega) hp
      rw [e]; exact ih (i + 1) j' (by omega)
    · exact ⟨j, hs i j x (by omega) hp⟩
theorem lhS_srch {β : Type} {f : Nat → Int32} {g : Nat → Option β} {v : Nat → β → Int32} (hf : ∀ i, i < 24 → f i = (match g i with
  | some x => v i x
  | none => -4)) (hv : ∀ i x, i < 24 → g i = some x → 0 ≤ v i x) : ∀ m i, i + m ≤ 24 → lhS f m i = (match srch g m i with
  | some (t, x) => v t x ||| ((1 : Int32) <<< (nI t &&& 31))
  | none => -4) := by
  intro m
  induction m with
  | zero => intro i _; rfl
  | succ m ih =>
    intro i hi
    unfold lhS srch
    rcases hg : g i with _ | x
    · have e : f i = -4 := by rw [hf i (by omega), hg]
      rw [e, if_neg (by decide), ih (i + 1) (by omega)]
    · have e : f i = v i x := by rw [hf i (by omega), hg]
      rw [e, if_pos (hv i x (by omega) hg)]
theorem srch_lt {β : Type} {g : Nat → Option β} : ∀ m i t x, srch g m i = some (t, x) → i ≤ t ∧ t < i + m ∧ g t = some x := by
  intro m
  induction m with
  | zero => intro i t x h; cases h
  | succ m ih =>
    intro i t x h
    unfold srch at h
    rcases hg : g i with _ | y
    · rw [hg] at h
      obtain ⟨a, b, c⟩ := ih (i + 1) t x h
      exact ⟨by omega, by omega, c⟩
    · rw [hg] at h
      injection h with h
      injection h with h1 h2
      subst h1; subst h2
      exact ⟨Nat.le_refl _, by omega, hg⟩
/-- all who are wanted have been met -/
def faQ (s : Nat → Nat) (U : Nat → Bool) : Bool := !(exB U (s 0))
def fm (s : Nat → Nat) (t : Nat) (U : Nat → Bool) : Nat → Bool := fun b => U b && !(hm (sK s b) (sF s b) t)
def fa1 (s : Nat → Nat) (U : Nat → Bool) (t : Nat) : Option Unit := if faQ s (fm s t U) = true then some () else none
def fa2 (s : Nat → Nat) (U : Nat → Bool) (t : Nat) : Option (Nat × Unit) := srch (fa1 s (fm s t U)) t 0
def fa3 (s : Nat → Nat) (U : Nat → Bool) (t : Nat) : Option (Nat × (Nat × Unit)) := srch (fa2 s (fm s t U)) t 0
def sh1 (t : Nat) : Int32 := (1 : Int32) <<< (nI t &&& 31)
theorem sh1_nn (t : Nat) (h : t < 24) : (0 : Int32) ≤ sh1 t := sh_nn t h
theorem lhP_0 (s : Nat → Nat) (U : Nat → Bool) (m : Nat) : lhP s 0 U m = if faQ s U = true then 0 else -4 := by
  unfold lhP faQ
  cases exB U (s 0) <;> rfl
theorem lhP_1 (s : Nat → Nat) (U : Nat → Bool) {m : Nat} (hm : m ≤ 24) : lhP s 1 U m = (match srch (fa1 s U) m 0 with
  | some (t, _) => sh1 t
  | none => -4) := by
  have := lhS_srch (f := fun top => lhP s 0 (fm s top U) top) (g := fa1 s U) (v := fun _ _ => 0) (fun i _ => by
    rw [lhP_0]
    unfold fa1
    by_cases h : faQ s (fm s i U) = true
    · rw [if_pos h, if_pos h]
    · rw [if_neg h, if_neg h]) (fun _ _ _ _ => Int32.le_refl _) m 0 (by omega)
  show lhS (fun top => lhP s 0 (fm s top U) top) m 0 = _
  rw [this]
  rcases srch (fa1 s U) m 0 with _ | ⟨t, x⟩
  · rfl
  · dsimp only; rw [Int32.zero_or]; rfl
theorem lhP_2 (s : Nat → Nat) (U : Nat → Bool) {m : Nat} (hm : m ≤ 24) : lhP s 2 U m = (match srch (fa2 s U) m 0 with
  | some (t, (t2, _)) => sh1 t2 ||| sh1 t
  | none => -4) := by
  have := lhS_srch (f := fun top => lhP s 1 (fm s top U) top) (g := fa2 s U) (v := fun _ x => sh1 x.1) (fun i hi => by
    rw [lhP_1 s _ (by omega)]
    unfold fa2
    rcases srch (fa1 s (fm s i U)) i 0 with _ | ⟨t, x⟩ <;> rfl) (fun i x hi hx => by
    obtain ⟨t, y⟩ := x
    exact sh_nn t (by have := srch_lt _ _ _ _ hx; omega)) m 0 (by omega)
  show lhS (fun top => lhP s 1 (fm s top U) top) m 0 = _
  rw [this]
  rcases srch (fa2 s U) m 0 with _ | ⟨t, ⟨t2, x⟩⟩
  · rfl
  · rfl
theorem lhP_3 (s : Nat → Nat) (U : Nat → Bool) {m : Nat} (hm : m ≤ 24) : lhP s 3 U m = (match srch (fa3 s U) m 0 with
  | some (t, (t2, (t3, _))) => (sh1 t3 ||| sh1 t2) ||| sh1 t
  | none => -4) := by
  have := lhS_srch (f := fun top => lhP s 2 (fm s top U) top) (g := fa3 s U) (v := fun _ x => sh1 x.2.1 ||| sh1 x.1) (fun i hi => by
    rw [lhP_2 s _ (by omega)]
    unfold fa3
    rcases srch (fa2 s (fm s i U)) i 0 with _ | ⟨t, ⟨t2, x⟩⟩ <;> rfl) (fun i x hi hx => by
    obtain ⟨t, ⟨t2, y⟩⟩ := x
    obtain ⟨a1, a2, a3⟩ := srch_lt _ _ _ _ hx
    obtain ⟨b1, b2, b3⟩ := srch_lt _ _ _ _ a3
    exact or_nn (sh_nn t2 (by omega)) (sh_nn t (by omega))) m 0 (by omega)
  show lhS (fun top => lhP s 2 (fm s top U) top) m 0 = _
  rw [this]
  rcases srch (fa3 s U) m 0 with _ | ⟨t, ⟨t2, ⟨t3, x⟩⟩⟩
  · rfl
  · rfl
def faT : Nat → Bool := fun _ => true
theorem fa_eq (s : Nat → Nat) : aForAll s = if faQ s faT = true then 0 else (match srch (fa1 s faT) 24 0 with
  | some (t, _) => sh1 t
  | none => (match srch (fa2 s faT) 24 0 with
    | some (t, (t2, _)) => sh1 t2 ||| sh1 t
    | none => (match srch (fa3 s faT) 24 0 with
      | some (t, (t2, (t3, _))) => (sh1 t3 ||| sh1 t2) ||| sh1 t
      | none => -4))) := by
  have e0 := lhP_0 s faT 24
  have e1 := lhP_1 s faT (Nat.le_refl 24)
  have e2 := lhP_2 s faT (Nat.le_refl 24)
  have e3 := lhP_3 s faT (Nat.le_refl 24)
  show (if 0 ≤ lhP s 0 faT 24 then lhP s 0 faT 24 else if 0 ≤ lhP s 1 faT 24 then lhP s 1 faT 24 else if 0 ≤ lhP s 2 faT 24 then lhP s 2 faT 24 else lhP s 3 faT 24) = _
  rw [e0, e1, e2, e3]
  by_cases h0 : faQ s faT = true
  · rw [if_pos h0, if_pos (by decide)]
    rw [if_pos h0]
  · rw [if_neg h0, if_neg (by decide), if_neg h0]
    rcases h1 : srch (fa1 s faT) 24 0 with _ | ⟨t, x⟩
    · dsimp only
      rw [if_neg (by decide)]
      rcases h2 : srch (fa2 s faT) 24 0 with _ | ⟨t, ⟨t2, x⟩⟩
      · dsimp only
        rw [if_neg (by decide)]
      · dsimp only
        obtain ⟨a1, a2, a3⟩ := srch_lt _ _ _ _ h2
        obtain ⟨b1, b2, b3⟩ := srch_lt _ _ _ _ a3
        rw [if_pos (or_nn (sh1_nn t2 (by omega)) (sh1_nn t (by omega)))]
    · dsimp only
      obtain ⟨a1, a2, a3⟩ := srch_lt _ _ _ _ h1
      rw [if_pos (sh1_nn t (by omega))]
section
variable {E : z_E} {G : z_H} {a : Nat} {s u : Nat → Nat} {ib : Bool} {hs : Nat → Sh} (lv N k : Nat)
theorem sD_areHome (h : DW G a s ib u hs) (w : WF s) {M : Int32} {U : Nat → Bool} (hM : ∀ b, b < s 0 → ((hb (sK s b) (sF s b) &&& M = 0) ↔ U b = true)) : z_evM E i_D_areHome lv [.ref a, .int M] N k G = some (some (.int (z_b (faQ s U))), N, k, G) := by
  have w1 := w.1
  unfold faQ exB
  simp only [zm_D_areHome, zr_D_areHome_0, zr_D_areHome_1]
  refine z_find (fun i (_ : Unit) => z_ev E i_D_areHome lv 2 [some (.ref a), some (.int M), some (.int (nI i))] [] N k G) U (s 0) (fun o => some (some (.int (z_b (!o.isSome))), N, k, G)) ?_ ?_ ?_ (s 0) 0 () (by omega)
  · intro _
    have c : nI (s 0) ≤ nI (s 0) := nI_le (Nat.le_refl _) (by omega)
    simp only [zr_D_areHome_2, zr_D_areHome_3, zr_D_areHome_4, zr_D_areHome_7, zr_D_areHome_8, zr_D_areHome_9, zr_D_areHome_30, zr_D_areHome_31, h.f0, h.st.r0, c, z_obs, z_pu_s, z_pu_n, z00, z10, ↓reduceIte, true_or, or_true, z_b_t, z_b_f, Option.isSome_none, Bool.not_false]
  · intro i _ hi hp
    have c : ¬ nI (s 0) ≤ nI i := nI_ge hi (by omega)
    have hz := (hM i hi).mpr hp
    rw [zr_D_areHome_2]
    simp only [zr_D_areHome_3, zr_D_areHome_4, zr_D_areHome_7, zr_D_areHome_8, zr_D_areHome_9, zr_D_areHome_12, zr_D_areHome_13, zr_D_areHome_14, zr_D_areHome_17, zr_D_areHome_18, zr_D_areHome_19, zr_D_areHome_22, zr_D_areHome_23, h.f0, h.st.r0, h.cls, c, sD_hoursHome _ _ _ h w hi, hz, z_obs, z_pu_s, z_pu_n, z00, z10, ↓reduceIte, true_or, or_true, z_b_t, z_b_f, Option.isSome_some, Bool.not_true]
  · intro i _ hi hp
    have c : ¬ nI (s 0) ≤ nI i := nI_ge hi (by omega)
    have hz : ¬ hb (sK s i) (sF s i) &&& M = 0 := fun z => by have := (hM i hi).mp z; rw [hp] at this; cases this
    refine ⟨(), ?_⟩
    rw [zr_D_areHome_2]
    simp only [zr_D_areHome_3, zr_D_areHome_4, zr_D_areHome_7, zr_D_areHome_8, zr_D_areHome_9, zr_D_areHome_12, zr_D_areHome_13, zr_D_areHome_14, zr_D_areHome_17, zr_D_areHome_18, zr_D_areHome_19, zr_D_areHome_22, zr_D_areHome_23, zr_D_areHome_24, zr_D_areHome_27, h.f0, h.st.r0, h.cls, c, sD_hoursHome _ _ _ h w hi, hz, z_obs, z_pu_s, z_pu_n, z00, z10, ↓reduceIte, true_or, or_true, z_b_t, z_b_f, nI_1]
theorem dForAll (h : DW G a s ib u hs) (w : WF s) : z_evM E i_D_forAll lv [.ref a] N k G = some (some (.int (aForAll s)), N, k, G) := by
  have hk := fun b hb => w.2.2.2 b hb
  have h0 := sD_areHome (E := E) 0 N k h w (M := 0) (U := faT) (fun b hb => ⟨fun _ => rfl, fun _ => Int32.and_zero⟩)
  have h1 : ∀ t, t < 24 → z_evM E i_D_areHome 0 [.ref a, .int ((1 : Int32) <<< (nI t &&& 31))] N k G = some (some (.int (z_b (faQ s (fm s t faT)))), N, k, G) := fun t ht => sD_areHome 0 N k h w (fun b hb => by
    have q := hk b hb
    rw [hb_and1 _ q.1 _ q.2.1 _ ht]
    unfold fm faT
    cases hm (sK s b) (sF s b) t <;> simp)
  have h2 : ∀ t t2, t < 24 → t2 < 24 → z_evM E i_D_areHome 0 [.ref a, .int ((1 : Int32) <<< (nI t &&& 31) ||| (1 : Int32) <<< (nI t2 &&& 31))] N k G = some (some (.int (z_b (faQ s (fm s t2 (fm s t faT))))), N, k, G) := fun t t2 ht ht2 => sD_areHome 0 N k h w (fun b hb => by
    have q := hk b hb
    rw [and_or3, Int32.or_eq_zero_iff, hb_and1 _ q.1 _ q.2.1 _ ht, hb_and1 _ q.1 _ q.2.1 _ ht2]
    unfold fm faT
    cases hm (sK s b) (sF s b) t <;> cases hm (sK s b) (sF s b) t2 <;> simp)
  have h3 : ∀ t t2 t3, t < 24 → t2 < 24 → t3 < 24 → z_evM E i_D_areHome 0 [.ref a, .int ((1 : Int32) <<< (nI t &&& 31) ||| (1 : Int32) <<< (nI t2 &&& 31) ||| (1 : Int32) <<< (nI t3 &&& 31))] N k G = some (some (.int (z_b (faQ s (fm s t3 (fm s t2 (fm s t faT)))))), N, k, G) := fun t t2 t3 ht ht2 ht3 => sD_areHome 0 N k h w (fun b hb => by
    have q := hk b hb
    rw [and_or3, and_or3, Int32.or_eq_zero_iff, Int32.or_eq_zero_iff, hb_and1 _ q.1 _ q.2.1 _ ht, hb_and1 _ q.1 _ q.2.1 _ ht2, hb_and1 _ q.1 _ q.2.1 _ ht3]
    unfold fm faT
    cases hm (sK s b) (sF s b) t <;> cases hm (sK s b) (sF s b) t2 <;> cases hm (sK s b) (sF s b) t3 <;> simp)
  rw [fa_eq]
  cases q0 : faQ s faT
  · rw [q0] at h0
    simp only [Bool.false_eq_true, ↓reduceIte]
    have s1 := z_srch (fun i (jk : Option Value × Option Value) => z_ev E i_D_forAll lv 12 [some (.ref a), some (.int (nI i)), jk.1, jk.2] [] N k G) (fa1 s faT) 24 (fun o jk => match o with
      | some (t, _) => some (some (.int (sh1 t)), N, k, G)
      | none => z_ev E i_D_forAll lv 40 [some (.ref a), some (.int (nI 0)), jk.1, jk.2] [] N k G) (fun jk => by
        have c : nI 24 ≤ nI 24 := nI_le (Nat.le_refl _) (by omega)
        simp only [zr_D_forAll_12, zr_D_forAll_13, zr_D_forAll_15, zr_D_forAll_38, zr_D_forAll_39, int_24, c, z_obs, z_pu_s, z_pu_n, z00, z10, ↓reduceIte, true_or, or_true, z_b_t, z_b_f]
        rfl) (fun i jk x hi hg => by
        have c : ¬ nI 24 ≤ nI i := nI_ge hi (by omega)
        have hq : faQ s (fm s i faT) = true := by
          unfold fa1 at hg
          split at hg
          · assumption
          · cases hg
        have hh := h1 i hi
        rw [hq] at hh
        rw [zr_D_forAll_12]
        simp only [zr_D_forAll_13, zr_D_forAll_15, zr_D_forAll_18, zr_D_forAll_19, zr_D_forAll_20, zr_D_forAll_21, zr_D_forAll_22, zr_D_forAll_25, zr_D_forAll_28, zr_D_forAll_29, zr_D_forAll_30, zr_D_forAll_31, int_24, c, h.cls, hh, z_obs, z_pu_s, z_pu_n, z00, z10, ↓reduceIte, true_or, or_true, z_b_t, z_b_f, sh1]) (fun i jk hi hg => by
        have c : ¬ nI 24 ≤ nI i := nI_ge hi (by omega)
        have hq : faQ s (fm s i faT) = false := by
          unfold fa1 at hg
          split at hg
          · cases hg
          · next z => simpa using z
        have hh := h1 i hi
        rw [hq] at hh
        refine ⟨jk, ?_⟩
        rw [zr_D_forAll_12]
        simp only [zr_D_forAll_13, zr_D_forAll_15, zr_D_forAll_18, zr_D_forAll_19, zr_D_forAll_20, zr_D_forAll_21, zr_D_forAll_22, zr_D_forAll_25, zr_D_forAll_28, zr_D_forAll_29, zr_D_forAll_30, zr_D_forAll_31, zr_D_forAll_32, zr_D_forAll_35, int_24, c, h.cls, hh, z_obs, z_pu_s, z_pu_n, z00, z10, ↓reduceIte, true_or, or_true, z_b_t, z_b_f, nI_1]) 24 0 (none, none) (by omega)
    obtain ⟨jk1, s1⟩ := s1
    have pre : z_evM E i_D_forAll lv [.ref a] N k G = z_ev E i_D_forAll lv 12 [some (.ref a), some (.int (nI 0)), none, none] [] N k G := by
      simp only [zm_D_forAll, zr_D_forAll_0, zr_D_forAll_1, zr_D_forAll_2, zr_D_forAll_5, zr_D_forAll_8, zr_D_forAll_9, zr_D_forAll_10, zr_D_forAll_11, h.cls, h0, z_obs, z_pu_s, z_pu_n, z00, z10, ↓reduceIte, true_or, or_true, z_b_t, z_b_f]
      rfl
    rw [pre, s1]
    rcases e1 : srch (fa1 s faT) 24 0 with _ | ⟨t, x⟩
    · dsimp only
      have s2 := z_srch (fun i (jk : Option Value × Option Value) => z_ev E i_D_forAll lv 40 [some (.ref a), some (.int (nI i)), jk.1, jk.2] [] N k G) (fa2 s faT) 24 (fun o jk => match o with
        | some (t, (t2, _)) => some (some (.int (sh1 t2 ||| sh1 t)), N, k, G)
        | none => z_ev E i_D_forAll lv 89 [some (.ref a), some (.int (nI 0)), jk.1, jk.2] [] N k G) (fun jk => by
          have c : nI 24 ≤ nI 24 := nI_le (Nat.le_refl _) (by omega)
          simp only [zr_D_forAll_40, zr_D_forAll_41, zr_D_forAll_43, zr_D_forAll_87, zr_D_forAll_88, int_24, c, z_obs, z_pu_s, z_pu_n, z00, z10, ↓reduceIte, true_or, or_true, z_b_t, z_b_f]
          rfl) (fun i jk x hi hg => by
          have c : ¬ nI 24 ≤ nI i := nI_ge hi (by omega)
          obtain ⟨t2, y⟩ := x
          have inn := z_srch (fun b (jk : Option Value) => z_ev E i_D_forAll lv 48 [some (.ref a), some (.int (nI i)), some (.int (nI b)), jk] [] N k G) (fa1 s (fm s i faT)) i (fun o jk => match o with
            | some (t2, _) => some (some (.int (sh1 t2 ||| sh1 i)), N, k, G)
            | none => z_ev E i_D_forAll lv 40 [some (.ref a), some (.int (nI (i + 1))), some (.int (nI i)), jk] [] N k G) (fun jk => by
              have c2 : nI i ≤ nI i := nI_le (Nat.le_refl _) (by omega)
              simp only [zr_D_forAll_48, zr_D_forAll_49, zr_D_forAll_50, zr_D_forAll_81, zr_D_forAll_84, c2, z_obs, z_pu_s, z_pu_n, z00, z10, ↓reduceIte, true_or, or_true, z_b_t, z_b_f, nI_1]) (fun b jk x hb hg => by
              have c2 : ¬ nI i ≤ nI b := nI_ge hb (by omega)
              have hq : faQ s (fm s b (fm s i faT)) = true := by
                unfold fa1 at hg
                split at hg
                · assumption
                · cases hg
              have hh := h2 i b hi (by omega)
              rw [hq] at hh
              rw [zr_D_forAll_48]
              simp only [zr_D_forAll_49, zr_D_forAll_50, zr_D_forAll_53, zr_D_forAll_54, zr_D_forAll_55, zr_D_forAll_56, zr_D_forAll_57, zr_D_forAll_58, zr_D_forAll_59, zr_D_forAll_60, zr_D_forAll_61, zr_D_forAll_64, zr_D_forAll_67, zr_D_forAll_68, zr_D_forAll_69, zr_D_forAll_70, zr_D_forAll_71, zr_D_forAll_72, zr_D_forAll_73, zr_D_forAll_74, c2, h.cls, hh, z_obs, z_pu_s, z_pu_n, z00, z10, ↓reduceIte, true_or, or_true, z_b_t, z_b_f]
              rw [Int32.or_comm]; rfl) (fun b jk hb hg => by
              have c2 : ¬ nI i ≤ nI b := nI_ge hb (by omega)
              have hq : faQ s (fm s b (fm s i faT)) = false := by
                unfold fa1 at hg
                split at hg
                · cases hg
                · next z => simpa using z
              have hh := h2 i b hi (by omega)
              rw [hq] at hh
              refine ⟨jk, ?_⟩
              rw [zr_D_forAll_48]
              simp only [zr_D_forAll_49, zr_D_forAll_50, zr_D_forAll_53, zr_D_forAll_54, zr_D_forAll_55, zr_D_forAll_56, zr_D_forAll_57, zr_D_forAll_58, zr_D_forAll_59, zr_D_forAll_60, zr_D_forAll_61, zr_D_forAll_64, zr_D_forAll_67, zr_D_forAll_68, zr_D_forAll_69, zr_D_forAll_70, zr_D_forAll_71, zr_D_forAll_72, zr_D_forAll_73, zr_D_forAll_74, zr_D_forAll_75, zr_D_forAll_78, c2, h.cls, hh, z_obs, z_pu_s, z_pu_n, z00, z10, ↓reduceIte, true_or, or_true, z_b_t, z_b_f, nI_1]) i 0 jk.2 (by omega)
          obtain ⟨jk', inn⟩ := inn
          rw [show srch (fa1 s (fm s i faT)) i 0 = some (t2, y) from hg] at inn
          rw [zr_D_forAll_40]
          simp only [zr_D_forAll_41, zr_D_forAll_43, zr_D_forAll_46, zr_D_forAll_47, int_24, c, z_obs, z_pu_s, z_pu_n, z00, z10, ↓reduceIte, true_or, or_true, z_b_t, z_b_f]
          exact inn) (fun i jk hi hg => by
          have c : ¬ nI 24 ≤ nI i := nI_ge hi (by omega)
          have inn := z_srch (fun b (jk : Option Value) => z_ev E i_D_forAll lv 48 [some (.ref a), some (.int (nI i)), some (.int (nI b)), jk] [] N k G) (fa1 s (fm s i faT)) i (fun o jk => match o with
            | some (t2, _) => some (some (.int (sh1 t2 ||| sh1 i)), N, k, G)
            | none => z_ev E i_D_forAll lv 40 [some (.ref a), some (.int (nI (i + 1))), some (.int (nI i)), jk] [] N k G) (fun jk => by
              have c2 : nI i ≤ nI i := nI_le (Nat.le_refl _) (by omega)
              simp only [zr_D_forAll_48, zr_D_forAll_49, zr_D_forAll_50, zr_D_forAll_81, zr_D_forAll_84, c2, z_obs, z_pu_s, z_pu_n, z00, z10, ↓reduceIte, true_or, or_true, z_b_t, z_b_f, nI_1]) (fun b jk x hb hg => by
              have c2 : ¬ nI i ≤ nI b := nI_ge hb (by omega)
              have hq : faQ s (fm s b (fm s i faT)) = true := by
                unfold fa1 at hg
                split at hg
                · assumption
                · cases hg
              have hh := h2 i b hi (by omega)
              rw [hq] at hh
              rw [zr_D_forAll_48]
              simp only [zr_D_forAll_49, zr_D_forAll_50, zr_D_forAll_53, zr_D_forAll_54, zr_D_forAll_55, zr_D_forAll_56, zr_D_forAll_57, zr_D_forAll_58, zr_D_forAll_59, zr_D_forAll_60, zr_D_forAll_61, zr_D_forAll_64, zr_D_forAll_67, zr_D_forAll_68, zr_D_forAll_69, zr_D_forAll_70, zr_D_forAll_71, zr_D_forAll_72, zr_D_forAll_73, zr_D_forAll_74, c2, h.cls, hh, z_obs, z_pu_s, z_pu_n, z00, z10, ↓reduceIte, true_or, or_true, z_b_t, z_b_f]
              rw [Int32.or_comm]; rfl) (fun b jk hb hg => by
              have c2 : ¬ nI i ≤ nI b := nI_ge hb (by omega)
              have hq : faQ s (fm s b (fm s i faT)) = false := by
                unfold fa1 at hg
                split at hg
                · cases hg
                · next z => simpa using z
              have hh := h2 i b hi (by omega)
              rw [hq] at hh
              refine ⟨jk, ?_⟩
              rw [zr_D_forAll_48]
              simp only [zr_D_forAll_49, zr_D_forAll_50, zr_D_forAll_53, zr_D_forAll_54, zr_D_forAll_55, zr_D_forAll_56, zr_D_forAll_57, zr_D_forAll_58, zr_D_forAll_59, zr_D_forAll_60, zr_D_forAll_61, zr_D_forAll_64, zr_D_forAll_67, zr_D_forAll_68, zr_D_forAll_69, zr_D_forAll_70, zr_D_forAll_71, zr_D_forAll_72, zr_D_forAll_73, zr_D_forAll_74, zr_D_forAll_75, zr_D_forAll_78, c2, h.cls, hh, z_obs, z_pu_s, z_pu_n, z00, z10, ↓reduceIte, true_or, or_true, z_b_t, z_b_f, nI_1]) i 0 jk.2 (by omega)
          obtain ⟨jk', inn⟩ := inn
          rw [show srch (fa1 s (fm s i faT)) i 0 = none from hg] at inn
          refine ⟨(some (.int (nI i)), jk'), ?_⟩
          rw [zr_D_forAll_40]
          simp only [zr_D_forAll_41, zr_D_forAll_43, zr_D_forAll_46, zr_D_forAll_47, int_24, c, z_obs, z_pu_s, z_pu_n, z00, z10, ↓reduceIte, true_or, or_true, z_b_t, z_b_f]
          exact inn) 24 0 jk1 (by omega)
      obtain ⟨jk2, s2⟩ := s2
      rw [s2]
      rcases e2 : srch (fa2 s faT) 24 0 with _ | ⟨t, ⟨t2, x⟩⟩
      · dsimp only
        have mid : ∀ i, i < 24 → ∀ b, b < i → ∀ jk : Option Value, ∃ jk', z_ev E i_D_forAll lv 97 [some (.ref a), some (.int (nI i)), some (.int (nI b)), jk] [] N k G = (match fa2 s (fm s i faT) b with
          | some (t3, _) => some (some (.int ((sh1 t3 ||| sh1 b) ||| sh1 i)), N, k, G)
          | none => z_ev E i_D_forAll lv 97 [some (.ref a), some (.int (nI i)), some (.int (nI (b + 1))), jk'] [] N k G) := by
          intro i hi b hb jk
          have cb : ¬ nI i ≤ nI b := nI_ge hb (by omega)
          have inn := z_srch (fun c (_ : Unit) => z_ev E i_D_forAll lv 104 [some (.ref a), some (.int (nI i)), some (.int (nI b)), some (.int (nI c))] [] N k G) (fa1 s (fm s b (fm s i faT))) b (fun o _ => match o with
            | some (t3, _) => some (some (.int ((sh1 t3 ||| sh1 b) ||| sh1 i)), N, k, G)
            | none => z_ev E i_D_forAll lv 97 [some (.ref a), some (.int (nI i)), some (.int (nI (b + 1))), some (.int (nI b))] [] N k G) (fun _ => by
              have c2 : nI b ≤ nI b := nI_le (Nat.le_refl _) (by omega)
              simp only [zr_D_forAll_104, zr_D_forAll_105, zr_D_forAll_106, zr_D_forAll_145, zr_D_forAll_148, c2, z_obs, z_pu_s, z_pu_n, z00, z10, ↓reduceIte, true_or, or_true, z_b_t, z_b_f, nI_1]) (fun c _ x hc hg => by
              have c2 : ¬ nI b ≤ nI c := nI_ge hc (by omega)
              have hq : faQ s (fm s c (fm s b (fm s i faT))) = true := by
                unfold fa1 at hg
                split at hg
                · assumption
                · cases hg
              have hh := h3 i b c hi (by omega) (by omega)
              rw [hq] at hh
              rw [zr_D_forAll_104]
              simp only [zr_D_forAll_105, zr_D_forAll_106, zr_D_forAll_109, zr_D_forAll_110, zr_D_forAll_111, zr_D_forAll_112, zr_D_forAll_113, zr_D_forAll_114, zr_D_forAll_115, zr_D_forAll_116, zr_D_forAll_117, zr_D_forAll_118, zr_D_forAll_119, zr_D_forAll_120, zr_D_forAll_121, zr_D_forAll_124, zr_D_forAll_127, zr_D_forAll_128, zr_D_forAll_129, zr_D_forAll_130, zr_D_forAll_131, zr_D_forAll_132, zr_D_forAll_133, zr_D_forAll_134, zr_D_forAll_135, zr_D_forAll_136, zr_D_forAll_137, zr_D_forAll_138, c2, h.cls, hh, z_obs, z_pu_s, z_pu_n, z00, z10, ↓reduceIte, true_or, or_true, z_b_t, z_b_f]
              have e : (1 : Int32) <<< (nI i &&& 31) ||| (1 : Int32) <<< (nI b &&& 31) ||| (1 : Int32) <<< (nI c &&& 31) = (sh1 c ||| sh1 b) ||| sh1 i := by
                unfold sh1
                rw [Int32.or_comm, Int32.or_comm ((1 : Int32) <<< (nI i &&& 31)), ← Int32.or_assoc]
              rw [e]) (fun c _ hc hg => by
              have c2 : ¬ nI b ≤ nI c := nI_ge hc (by omega)
              have hq : faQ s (fm s c (fm s b (fm s i faT))) = false := by
                unfold fa1 at hg
                split at hg
                · cases hg
                · next z => simpa using z
              have hh := h3 i b c hi (by omega) (by omega)
              rw [hq] at hh
              refine ⟨(), ?_⟩
              rw [zr_D_forAll_104]
              simp only [zr_D_forAll_105, zr_D_forAll_106, zr_D_forAll_109, zr_D_forAll_110, zr_D_forAll_111, zr_D_forAll_112, zr_D_forAll_113, zr_D_forAll_114, zr_D_forAll_115, zr_D_forAll_116, zr_D_forAll_117, zr_D_forAll_118, zr_D_forAll_119, zr_D_forAll_120, zr_D_forAll_121, zr_D_forAll_124, zr_D_forAll_127, zr_D_forAll_128, zr_D_forAll_129, zr_D_forAll_130, zr_D_forAll_131, zr_D_forAll_132, zr_D_forAll_133, zr_D_forAll_134, zr_D_forAll_135, zr_D_forAll_136, zr_D_forAll_137, zr_D_forAll_138, zr_D_forAll_139, zr_D_forAll_142, c2, h.cls, hh, z_obs, z_pu_s, z_pu_n, z00, z10, ↓reduceIte, true_or, or_true, z_b_t, z_b_f, nI_1]) b 0 () (by omega)
          obtain ⟨_, inn⟩ := inn
          refine ⟨some (.int (nI b)), ?_⟩
          rw [zr_D_forAll_97]
          simp only [zr_D_forAll_98, zr_D_forAll_99, zr_D_forAll_102, zr_D_forAll_103, cb, z_obs, z_pu_s, z_pu_n, z00, z10, ↓reduceIte, true_or, or_true, z_b_t, z_b_f]
          exact inn
        have mid2 : ∀ i, i < 24 → ∀ jk : Option Value, ∃ jk', z_ev E i_D_forAll lv 97 [some (.ref a), some (.int (nI i)), some (.int (nI 0)), jk] [] N k G = (match fa3 s faT i with
          | some (t2, (t3, _)) => some (some (.int ((sh1 t3 ||| sh1 t2) ||| sh1 i)), N, k, G)
          | none => z_ev E i_D_forAll lv 89 [some (.ref a), some (.int (nI (i + 1))), some (.int (nI i)), jk'] [] N k G) := by
          intro i hi jk
          have inn := z_srch (fun b (jk : Option Value) => z_ev E i_D_forAll lv 97 [some (.ref a), some (.int (nI i)), some (.int (nI b)), jk] [] N k G) (fa2 s (fm s i faT)) i (fun o jk => match o with
            | some (t2, (t3, _)) => some (some (.int ((sh1 t3 ||| sh1 t2) ||| sh1 i)), N, k, G)
            | none => z_ev E i_D_forAll lv 89 [some (.ref a), some (.int (nI (i + 1))), some (.int (nI i)), jk] [] N k G) (fun jk => by
              have c2 : nI i ≤ nI i := nI_le (Nat.le_refl _) (by omega)
              simp only [zr_D_forAll_97, zr_D_forAll_98, zr_D_forAll_99, zr_D_forAll_151, zr_D_forAll_154, c2, z_obs, z_pu_s, z_pu_n, z00, z10, ↓reduceIte, true_or, or_true, z_b_t, z_b_f, nI_1]) (fun b jk x hb hg => by
              obtain ⟨jk', e⟩ := mid i hi b hb jk
              rw [hg] at e
              obtain ⟨t3, y⟩ := x
              exact e) (fun b jk hb hg => by
              obtain ⟨jk', e⟩ := mid i hi b hb jk
              rw [hg] at e
              exact ⟨jk', e⟩) i 0 jk (by omega)
          exact inn
        have s3 := z_srch (fun i (jk : Option Value × Option Value) => z_ev E i_D_forAll lv 89 [some (.ref a), some (.int (nI i)), jk.1, jk.2] [] N k G) (fa3 s faT) 24 (fun o jk => match o with
          | some (t, (t2, (t3, _))) => some (some (.int ((sh1 t3 ||| sh1 t2) ||| sh1 t)), N, k, G)
          | none => some (some (.int (-4)), N, k, G)) (fun jk => by
            have c : nI 24 ≤ nI 24 := nI_le (Nat.le_refl _) (by omega)
            simp only [zr_D_forAll_89, zr_D_forAll_90, zr_D_forAll_92, zr_D_forAll_157, zr_D_forAll_159, int_24, c, z_obs, z_pu_s, z_pu_n, z00, z10, ↓reduceIte, true_or, or_true, z_b_t, z_b_f]) (fun i jk x hi hg => by
            have c : ¬ nI 24 ≤ nI i := nI_ge hi (by omega)
            obtain ⟨jk', e⟩ := mid2 i hi jk.2
            rw [hg] at e
            obtain ⟨t2, ⟨t3, y⟩⟩ := x
            rw [zr_D_forAll_89]
            simp only [zr_D_forAll_90, zr_D_forAll_92, zr_D_forAll_95, zr_D_forAll_96, int_24, c, z_obs, z_pu_s, z_pu_n, z00, z10, ↓reduceIte, true_or, or_true, z_b_t, z_b_f]
            exact e) (fun i jk hi hg => by
            have c : ¬ nI 24 ≤ nI i := nI_ge hi (by omega)
            obtain ⟨jk', e⟩ := mid2 i hi jk.2
            rw [hg] at e
            refine ⟨(some (.int (nI i)), jk'), ?_⟩
            rw [zr_D_forAll_89]
            simp only [zr_D_forAll_90, zr_D_forAll_92, zr_D_forAll_95, zr_D_forAll_96, int_24, c, z_obs, z_pu_s, z_pu_n, z00, z10, ↓reduceIte, true_or, or_true, z_b_t, z_b_f]
            exact e) 24 0 jk2 (by omega)
        obtain ⟨jk3, s3⟩ := s3
        rw [s3]
        rcases e3 : srch (fa3 s faT) 24 0 with _ | ⟨t, ⟨t2, ⟨t3, x⟩⟩⟩ <;> rfl
      · rfl
    · rfl
  · rw [q0] at h0
    simp only [zm_D_forAll, zr_D_forAll_0, zr_D_forAll_1, zr_D_forAll_2, zr_D_forAll_5, zr_D_forAll_8, zr_D_forAll_9, h.cls, h0, z_obs, z_pu_s, z_pu_n, z00, z10, ↓reduceIte, true_or, or_true, z_b_t, z_b_f]
end
