/-! THE PRIMITIVE element -/
theorem e_is {E : z_E} {n k : Nat} {G : z_H} (d : Int32) : z_evM E i_X_isShelf 0 [.int d] n k G = some (some (.int (if d < 0 ∨ 8 ≤ d then 0 else 1)), n, k, G) := by
  have o1 : (1 : Int32) = 0 ∨ (1 : Int32) = 1 := Or.inr rfl
  have o0 : (0 : Int32) = 0 ∨ (0 : Int32) = 1 := Or.inl rfl
  by_cases h1 : d < 0
  · simp only [zm_X_isShelf, zr_X_isShelf_0, zr_X_isShelf_1, zr_X_isShelf_4, zr_X_isShelf_5, zr_X_isShelf_7, zr_X_isShelf_10, zr_X_isShelf_11, zr_X_isShelf_14, zr_X_isShelf_15, h1, eq_self, true_or, or_true, ↓reduceIte]
  · by_cases h2 : 8 ≤ d
    · simp only [zm_X_isShelf, zr_X_isShelf_0, zr_X_isShelf_1, zr_X_isShelf_4, zr_X_isShelf_5, zr_X_isShelf_7, zr_X_isShelf_10, zr_X_isShelf_11, zr_X_isShelf_14, zr_X_isShelf_15, h1, h2, eq_self, true_or, or_true, ↓reduceIte]
    · simp only [zm_X_isShelf, zr_X_isShelf_0, zr_X_isShelf_1, zr_X_isShelf_4, zr_X_isShelf_5, zr_X_isShelf_7, zr_X_isShelf_10, zr_X_isShelf_11, zr_X_isShelf_14, zr_X_isShelf_15, h1, h2, eq_self, true_or, or_true, or_self, ↓reduceIte]
theorem e_row {E : z_E} {n k x t : Nat} {G : z_H} {d : Int32} {rv : Value} (hd : ¬ (d < 0 ∨ 8 ≤ d)) (h1 : z_gf G x [6, 11, 11, 0, 0] = some (.ref t)) (h2 : z_aq G t d = some rv) (hr : rv = .null ∨ ∃ r, rv = .ref r) : z_evM E i_X_rowOn 0 [.ref x, .int d] n k G = some (some rv, n, k, G) := by
  have h1' : z_gf G x [6, 11, 11, 3, 1] = some (.ref t) := h1
  have c : ¬ (1 : Int32) = 0 := by decide
  rcases hr with rfl | ⟨r, rfl⟩ <;> simp only [zm_X_rowOn, zr_X_rowOn_0, zr_X_rowOn_1, zr_X_rowOn_4, zr_X_rowOn_7, zr_X_rowOn_8, zr_X_rowOn_11, zr_X_rowOn_12, zr_X_rowOn_13, zr_X_rowOn_16, zr_X_rowOn_17, zr_X_rowOn_17n, e_is, hd, h1', h2, c, Option.bind_some, z_pu_s, z_pu_n, ↓reduceIte]
theorem e_has {E : z_E} {n k r e N : Nat} {G : z_H} {i : Int32} {f : Nat → Int32} (h1 : z_gf G r [1, 9, 9, 0, 0] = some (.ref e)) (h2 : G e = some (.inr (.int, N, .inl f))) (hN : N < 2 ^ 31) : z_evM E i_R_has 0 [.ref r, .int i] n k G = some (some (.int (if z_out i N = true then 0 else 1)), n, k, G) := by
  have o1 : (1 : Int32) = 0 ∨ (1 : Int32) = 1 := Or.inr rfl
  have o0 : (0 : Int32) = 0 ∨ (0 : Int32) = 1 := Or.inl rfl
  have h1' : z_gf G r [1, 9, 9, 3, 1] = some (.ref e) := h1
  have ha : z_an E G e = some (nI N) := by unfold z_an; simp only [h2]
  by_cases c1 : i < 0
  · have ho : z_out i N = true := by unfold z_out; simp only [c1, decide_true, Bool.true_or]
    simp only [zm_R_has, zr_R_has_0, zr_R_has_1, zr_R_has_4, zr_R_has_5, zr_R_has_6, zr_R_has_9, zr_R_has_10, zr_R_has_13, zr_R_has_14, zr_R_has_17, zr_R_has_18, c1, ho, eq_self, true_or, or_true, ↓reduceIte]
  · obtain ⟨j, j1, rfl⟩ := nI_of c1
    by_cases c2 : N ≤ j
    · have ho : z_out (nI j) N = true := by unfold z_out; rw [nI_clamp j1]; simp only [c2, decide_true, Bool.or_true]
      have c3 : (nI N ≤ nI j) = True := eq_true ((nI_leI hN j1).mpr c2)
      simp only [zm_R_has, zr_R_has_0, zr_R_has_1, zr_R_has_4, zr_R_has_5, zr_R_has_6, zr_R_has_9, zr_R_has_10, zr_R_has_13, zr_R_has_14, zr_R_has_17, zr_R_has_18, c1, c3, ho, h1', ha, eq_self, true_or, or_true, Option.bind_some, ↓reduceIte]
    · have ho : z_out (nI j) N = false := by unfold z_out; rw [nI_clamp j1]; simp only [c1, c2, decide_false, Bool.or_false]
      have c3 : (nI N ≤ nI j) = False := eq_false (fun z => c2 ((nI_leI hN j1).mp z))
      simp only [zm_R_has, zr_R_has_0, zr_R_has_1, zr_R_has_4, zr_R_has_5, zr_R_has_6, zr_R_has_9, zr_R_has_10, zr_R_has_13, zr_R_has_14, zr_R_has_17, zr_R_has_18, c1, c3, ho, h1', ha, eq_self, true_or, or_true, Option.bind_some, ↓reduceIte, Bool.false_eq_true]
theorem e_at {E : z_E} {n k r e N : Nat} {G : z_H} {i : Int32} {f : Nat → Int32} (hc9 : z_clsOf G r = some 9) (h1 : z_gf G r [1, 9, 9, 0, 0] = some (.ref e)) (h2 : G e = some (.inr (.int, N, .inl f))) (hN : N < 2 ^ 31) (ho : z_out i N = false) : z_evM E i_R_at 0 [.ref r, .int i] n k G = some (some (.int (f i.toNatClampNeg)), n, k, G) := by
  have h1' : z_gf G r [1, 9, 9, 3, 1] = some (.ref e) := h1
  have ha : z_ai E G e i = some (f i.toNatClampNeg) := by unfold z_ai; simp only [h2, ho, Bool.false_eq_true, ↓reduceIte]
  have c : ¬ (1 : Int32) = 0 := by decide
  simp only [zm_R_at, zr_R_at_0, zr_R_at_1, zr_R_at_2, zr_R_at_5, zr_R_at_8, zr_R_at_9, zr_R_at_12, zr_R_at_13, zr_R_at_14, zr_R_at_17, zr_R_at_18, hc9, e_has h1 h2 hN, ho, h1', ha, c, Option.bind_some, z_pu_s, z_pu_n, ↓reduceIte, Bool.false_eq_true]
theorem z_p1001 (OK : z_OKall) {X : z_X} {mid lev pc : Nat} {ls : z_L} {st : List Value} {n k : Nat} {G : z_H} {as rest : List Value} {v : Option Value} {n1 k1 : Nat} {G1 : z_H} (C : z_Cx X mid lev) (hg : z_Gd z_Gd0 X) (hcls : (z_nm mid).cls = "BellThatIsADoorLaw") (hi : z_ins mid pc = some (.invokestatic 164, 3)) (h8 : 8 ≤ z_rk mid + lev) (hst : st = as.reverse ++ rest) (hl4 : rest.length ≤ 4)
    (hp : z_prim 1001 as n k G = some (v, n1, k1, G1)) (hL : z_Lim X n1 k1) (kk : z_WW X (pc + 3) mid ls (z_pu v rest) n1 k1 G1) : z_WW X pc mid ls st n k G := by
  have key : ∃ x d i o, as = [.ref x, .int d, .int i, .ref o] ∧ ∀ (l : Launch) (Amb : State → Heap → Prop) (n0 : Nat) (D : va_G), z_AmbOK n0 Amb → z_Gd0 l n0 Amb → z_MetH l (z_Ex X) Amb n0 D i_L_element z_hL [.ref x, .int d, .int i, .ref o] n k G v n1 k1 G1 := by
    have hp2 := hp
    unfold z_prim at hp2
    rw [if_neg (by decide), if_pos rfl] at hp2
    split at hp2
    · next x d i o =>
      refine ⟨x, d, i, o, rfl, ?_⟩
      by_cases hci : z_clsOf G x = some 11
      · rw [if_pos hci] at hp2
        by_cases hd : d < 0 ∨ 8 ≤ d
        · rw [if_pos hd] at hp2
          cases hp2
          exact l_1 OK hci (fun l Amb n0 D hA hg => t_x1 OK (by rw [e_is, if_pos hd]) l Amb n0 D hA hg)
        · rw [if_neg hd] at hp2
          have his : ∀ k, z_evM (z_Ex X) i_X_isShelf 0 [.int d] n k G = some (some (.int 1), n, k, G) := fun k => by rw [e_is, if_neg hd]
          split at hp2
          · next t ht =>
            split at hp2
            · next hq =>
              cases hp2
              exact l_2 OK hci (fun l Amb n0 D hA hg => t_x2 OK hci (his 0) (e_row hd ht hq (Or.inl rfl)) l Amb n0 D hA hg)
            · next r hq =>
              split at hp2
              · next e he =>
                split at hp2
                · next N f hf =>
                  have h9 : z_clsOf G r = some 9 := by
                    have he2 := he
                    unfold z_gf at he2
                    unfold z_clsOf
                    dsimp only at he2
                    rcases hr : G r with _ | ⟨⟨ci, fs⟩ | c⟩
                    · simp [hr] at he2
                    · simp only [hr] at he2 ⊢
                      split at he2
                      · next hc => rw [show ci = 9 by omega]
                      · cases he2
                    · simp [hr] at he2
                  by_cases hN : N < 2147483648
                  · rw [if_pos hN] at hp2
                    have hrow : ∀ k, z_evM (z_Ex X) i_X_rowOn 0 [.ref x, .int d] n k G = some (some (.ref r), n, k, G) := fun k => e_row hd ht hq (Or.inr ⟨r, rfl⟩)
                    by_cases ho : z_out i N = true
                    · rw [if_pos ho] at hp2
                      cases hp2
                      exact l_2 OK hci (fun l Amb n0 D hA hg => t_x3 OK hci h9 (his 0) (hrow 0) (by rw [e_has he hf hN, if_pos ho]) l Amb n0 D hA hg)
                    · rw [if_neg ho] at hp2
                      have ho' : z_out i N = false := by simpa using ho
                      split at hp2
                      · next G2 hpl =>
                        cases hp2
                        exact l_0 OK hci hpl (fun l Amb n0 D hA hg => t_x4 OK hci h9 (his k) (hrow k) (by rw [e_has he hf hN, if_neg ho]) (e_at h9 he hf hN ho') l Amb n0 D hA hg)
                      · cases hp2
                  · rw [if_neg hN] at hp2; cases hp2
                · cases hp2
              · cases hp2
            · cases hp2
          · cases hp2
      · rw [if_neg hci] at hp2; cases hp2
    · cases hp2
  obtain ⟨hn, hk⟩ := z_prim_mono hp
  obtain ⟨x, d, i, o, rfl, hM⟩ := key
  obtain ⟨p, l, e, R, s, m, args, below, meth, c, Q, D, n0, nst, kst, E, Amb⟩ := X
  obtain ⟨hx, hb, hr, hml, hown, hts, hin, hfr, hlo, hrk1, hNw, hA⟩ := C
  obtain ⟨hL1, hL2⟩ : n1 ≤ nst + R.cells ∧ k1 ≤ kst + R.slots := hL
  have hM := hM l Amb n0 D hA hg
  have hr7 : z_rk i_L_element = 7 := by decide +kernel
  have hm2 : z_ml i_L_element = 5 := by decide +kernel
  intro H locs lsA cells slots hl hR hq hc hs
  rw [hcls] at hown
  have S : CallFix p m c (z_by mid) (z_ml mid) s args z_T "BellThatIsADoorLaw" := ⟨hx, hb, hml, hown, hts⟩
  have hpre : ∀ U : State, U.heap = H → s.WarmedH U.vm → z_Pc E Amb n0 D [.ref x, .int d, .int i, .ref o] n G #[Value.ref x, .int d, .int i, .ref o] U := fun U hU hW => ⟨rfl, by rw [hU]; exact z_Rel.moved hA hW.alike hR, z_Nw.warm hW hNw⟩
  refine z_after (av := #[Value.ref x, .int d, .int i, .ref o]) (v := v) (rest := rest) hA hn hk kk hl hq hc hs (vx_toRun ?_)
  have hG : GoodIn z_T (va_wsS "BellThatIsADoorLaw" 164 (z_nm i_L_element) (z_wdH i_L_element z_hL)) := fun w h => (List.mem_append.mp (show w ∈ _ ++ _ from h)).elim (goodIn_of _ (by decide +kernel) w) (z_goodH (z_inT 964 (by decide +kernel) rfl) w)
  refine vx_runSX (As := [.ref x, .int d, .int i, .ref o]) S hM (vx_cwSW 4 hts hG rfl rfl rfl ⟨by decide +kernel, by decide +kernel, by decide +kernel⟩ ⟨?_, ?_⟩) ⟨z_blind hA, hpre⟩ rfl rfl hl.1.1 hst (lv_room (z_cat8 hl4)) (z_insd hi).1 ⟨by omega, by omega⟩
  · show z_rk i_L_element + 1 ≤ R.frames
    omega
  · show 8 + (z_ml i_L_element + 11) + 40 * z_rk i_L_element ≤ R.locals
    omega
