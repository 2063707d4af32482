/-! THE CLASS: where a text strays -/
/-- the place of the first byte with which no MARSH can go on -/
def stN (sz : Nat) (tx : Nat → Nat) : Nat → Nat → Option Nat
  | 0, _ => none
  | f + 1, a => match dgN (tx a) with
    | none => some a
    | some d => match fnd (fun i => !(isDg (tx i))) d (a + 1) with
      | some j => some j
      | none => if tx (a + 1 + d) = 59 then (if a + 2 + d < sz then stN sz tx f (a + 2 + d) else none) else some (a + 1 + d)
theorem dgN_le {c d : Nat} (h : dgN c = some d) : 1 ≤ d ∧ d ≤ 4 := by
  unfold dgN at h
  repeat' split at h
  all_goals first | (injection h with h; omega) | cases h
def stI (o : Option Nat) : Int32 := match o with
  | some j => nI j
  | none => -1
section
variable {E : z_E} {G : z_H} (lv N k : Nat) {r so sz : Nat} {el : Nat → Int32}
theorem sX_stray (h : RA G r so sz el) (hz : sz ≤ 100) (ho : okB sz el) : z_evM E i_X_strayPlace lv [.ref r] N k G = some (some (.int (stI (stN sz (txN sz el) (sz + 1) 0))), N, k, G) := by
  have key : ∀ f a (j1 j2 : Option Value), a ≤ 200 → 1 ≤ f → sz ≤ a + f → z_ev E i_X_strayPlace lv 2 [some (.ref r), some (.int (nI a)), j1, j2] [] N k G = some (some (.int (stI (stN sz (txN sz el) f a))), N, k, G) := by
    intro f
    induction f with
    | zero => intro a j1 j2 _ h1; omega
    | succ f ih =>
      intro a j1 j2 ha _ hf
      have hb := (txN_by ho a).1
      unfold stN
      rcases e : dgN (txN sz el a) with _ | d
      · have hd := sX_digitsBehind (E := E) (G := G) 0 N k hb
        rw [e] at hd
        rw [zr_X_strayPlace_2]
        simp only [zr_X_strayPlace_3, zr_X_strayPlace_4, zr_X_strayPlace_7, zr_X_strayPlace_10, zr_X_strayPlace_11, zr_X_strayPlace_12, zr_X_strayPlace_15, zr_X_strayPlace_16, h.cls, sR_atB _ _ _ h hz ho (show a < 2 ^ 31 by omega), hd, show ¬ (0 : Int32) ≤ -1 by decide, z_obs, z_pu_s, z_pu_n, z00, z10, ↓reduceIte, true_or, or_true, z_b_t, z_b_f]
        rfl
      · have hd := sX_digitsBehind (E := E) (G := G) 0 N k hb
        rw [e] at hd
        obtain ⟨d1, d2⟩ := dgN_le e
        have inner := z_find (fun i (_ : Unit) => z_ev E i_X_strayPlace lv 26 [some (.ref r), some (.int (nI i)), some (.int (nI d)), some (.int (nI (a + 1 + d)))] [] N k G) (fun i => !(isDg (txN sz el i))) (a + 1 + d) (fun o => match o with
          | some j => some (some (.int (nI j)), N, k, G)
          | none => z_ev E i_X_strayPlace lv 50 [some (.ref r), some (.int (nI (a + 1 + d))), some (.int (nI d)), some (.int (nI (a + 1 + d)))] [] N k G) (fun _ => by
            have c : nI (a + 1 + d) ≤ nI (a + 1 + d) := nI_le (Nat.le_refl _) (by omega)
            simp only [zr_X_strayPlace_26, zr_X_strayPlace_27, zr_X_strayPlace_28, c, z_obs, z_pu_s, z_pu_n, z00, z10, ↓reduceIte, true_or, or_true, z_b_t, z_b_f]) (fun i _ hi hp => by
            have c : ¬ nI (a + 1 + d) ≤ nI i := nI_ge hi (by omega)
            have hp' : isDg (txN sz el i) = false := by simpa using hp
            simp only [zr_X_strayPlace_26, zr_X_strayPlace_27, zr_X_strayPlace_28, zr_X_strayPlace_31, zr_X_strayPlace_31n, zr_X_strayPlace_32, zr_X_strayPlace_33, zr_X_strayPlace_36, zr_X_strayPlace_39, zr_X_strayPlace_42, zr_X_strayPlace_43, c, h.cls, sR_atB _ _ _ h hz ho (show i < 2 ^ 31 by omega), sX_isDigit _ _ _ (txN_by ho i).1, hp', z_obs, z_pu_s, z_pu_n, z00, z10, ↓reduceIte, true_or, or_true, z_b_t, z_b_f]) (fun i _ hi hp => by
            have c : ¬ nI (a + 1 + d) ≤ nI i := nI_ge hi (by omega)
            have hp' : isDg (txN sz el i) = true := by simpa using hp
            refine ⟨(), ?_⟩
            rw [zr_X_strayPlace_26]
            simp only [zr_X_strayPlace_27, zr_X_strayPlace_28, zr_X_strayPlace_31, zr_X_strayPlace_31n, zr_X_strayPlace_32, zr_X_strayPlace_33, zr_X_strayPlace_36, zr_X_strayPlace_39, zr_X_strayPlace_42, zr_X_strayPlace_43, zr_X_strayPlace_44, zr_X_strayPlace_47, c, h.cls, sR_atB _ _ _ h hz ho (show i < 2 ^ 31 by omega), sX_isDigit _ _ _ (txN_by ho i).1, hp', z_obs, z_pu_s, z_pu_n, z00, z10, ↓reduceIte, true_or, or_true, z_b_t, z_b_f, nI_1]) d (a + 1) () (by omega)
        rw [zr_X_strayPlace_2]
        simp only [zr_X_strayPlace_3, zr_X_strayPlace_4, zr_X_strayPlace_7, zr_X_strayPlace_10, zr_X_strayPlace_11, zr_X_strayPlace_12, zr_X_strayPlace_15, zr_X_strayPlace_16, zr_X_strayPlace_17, zr_X_strayPlace_18, zr_X_strayPlace_19, zr_X_strayPlace_20, zr_X_strayPlace_21, zr_X_strayPlace_22, zr_X_strayPlace_23, h.cls, sR_atB _ _ _ h hz ho (show a < 2 ^ 31 by omega), hd, nI_pos' (show d < 2 ^ 31 by omega), nI_1, nI_add, z_obs, z_pu_s, z_pu_n, z00, z10, ↓reduceIte, true_or, or_true, z_b_t, z_b_f]
        refine Eq.trans inner ?_
        rcases e2 : fnd (fun i => !(isDg (txN sz el i))) d (a + 1) with _ | j
        · dsimp only
          have hb2 := txN_by ho (a + 1 + d)
          have h59 := (by_n _ hb2.1).2.2.2.2.1
          by_cases q : txN sz el (a + 1 + d) = 59
          · rw [if_pos q]
            have c59 := h59.mpr q
            by_cases hlt : a + 2 + d < sz
            · have c : nI (a + 1 + d + 1) < nI sz := nI_lt (by omega) (by omega)
              rw [if_pos hlt, ← ih (a + 2 + d) (some (.int (nI d))) (some (.int (nI (a + 1 + d)))) (by omega) (by omega) (by omega), show a + 2 + d = a + 1 + d + 1 by omega]
              simp only [zr_X_strayPlace_50, zr_X_strayPlace_50n, zr_X_strayPlace_51, zr_X_strayPlace_52, zr_X_strayPlace_55, zr_X_strayPlace_57, zr_X_strayPlace_60, zr_X_strayPlace_61, zr_X_strayPlace_62, zr_X_strayPlace_65, zr_X_strayPlace_66, zr_X_strayPlace_66n, zr_X_strayPlace_67, zr_X_strayPlace_70, h.cls, sR_atB _ _ _ h hz ho (show a + 1 + d < 2 ^ 31 by omega), c59, c, sR_length _ _ _ h, nI_1, z_obs, z_pu_s, z_pu_n, z00, z10, ↓reduceIte, true_or, or_true, z_b_t, z_b_f]
            · have c : ¬ nI (a + 1 + d + 1) < nI sz := nI_nlt (by omega) (by omega)
              rw [if_neg hlt]
              simp only [zr_X_strayPlace_50, zr_X_strayPlace_50n, zr_X_strayPlace_51, zr_X_strayPlace_52, zr_X_strayPlace_55, zr_X_strayPlace_57, zr_X_strayPlace_60, zr_X_strayPlace_61, zr_X_strayPlace_62, zr_X_strayPlace_65, zr_X_strayPlace_66, zr_X_strayPlace_66n, zr_X_strayPlace_67, zr_X_strayPlace_70, zr_X_strayPlace_73, zr_X_strayPlace_74, h.cls, sR_atB _ _ _ h hz ho (show a + 1 + d < 2 ^ 31 by omega), c59, c, sR_length _ _ _ h, nI_1, z_obs, z_pu_s, z_pu_n, z00, z10, ↓reduceIte, true_or, or_true, z_b_t, z_b_f]
              rfl
          · rw [if_neg q]
            have c59 : ¬ byI (txN sz el (a + 1 + d)) = 59 := fun z => q (h59.mp z)
            simp only [zr_X_strayPlace_50, zr_X_strayPlace_50n, zr_X_strayPlace_51, zr_X_strayPlace_52, zr_X_strayPlace_55, zr_X_strayPlace_57, zr_X_strayPlace_60, zr_X_strayPlace_61, h.cls, sR_atB _ _ _ h hz ho (show a + 1 + d < 2 ^ 31 by omega), c59, z_obs, z_pu_s, z_pu_n, z00, z10, ↓reduceIte, true_or, or_true, z_b_t, z_b_f]
            rfl
        · rfl
  simp only [zm_X_strayPlace, zr_X_strayPlace_0, zr_X_strayPlace_1]
  exact key (sz + 1) 0 none none (by omega) (by omega) (by omega)
end
