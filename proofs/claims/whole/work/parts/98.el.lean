/-! THE LAW'S ELEMENT -/
theorem z_metX (OK : z_OKall) {X : z_X} {mid lev y : Nat} {as : List Value} {n k : Nat} {G : z_H} {v : Option Value} (C : z_Cx X mid lev) (hg : z_Gd z_Gd0 X) (hr : z_rk y + 0 ≤ 7) (hY : z_OKY y) (hp : z_prm y = false) (h : z_evM (z_Ex X) y 0 as n k G = some (v, n, k, G)) : z_MetX X y 0 as n k G v n k G := by
  obtain ⟨p, l, e, R, s, m, args, below, meth, c, Q, D, n0, nst, kst, E, Amb⟩ := X
  obtain ⟨-, -, -, -, -, -, -, -, -, -, -, hA⟩ := C
  exact z_met_ev (Gd := z_Gd0) OK z_prim_low hr hY hp h l Amb n0 D hA hg
theorem z_xc (OK : z_OKall) {X : z_X} {mid lev pc j kind y na ci : Nat} {ls : z_L} {st as rest : List Value} {n k : Nat} {G : z_H} {i : Instr} {v : Option Value} (C : z_Cx X mid lev) (hg : z_Gd z_Gd0 X) (hi : z_ins mid pc = some (i, 3)) (hik : (i = .invokevirtual j ∧ (kind = 0 ∨ kind = 3)) ∨ (i = .invokestatic j ∧ (kind = 1 ∨ kind = 4)) ∨ (i = .invokespecial j ∧ (kind = 2 ∨ kind = 5)))
    (he : z_me mid j = [kind, y, na, 0, 0, ci]) (hst : st = as.reverse ++ rest) (hna : as.length = na) (hr4 : z_dp kind y rest.length = true) (hrc : z_rcv kind G as ci = true) (hrk : z_rk y + 0 < z_rk mid + lev) (hr : z_rk y + 0 ≤ 7) (hY : z_OKY y) (hp : z_prm y = false)
    (h : z_evM (z_Ex X) y 0 as n k G = some (v, n, k, G)) (hL : z_Lim X n k) (kk : z_WW X (pc + 3) mid ls (z_pu v rest) n k G) : z_WW X pc mid ls st n k G :=
  zs_call C (OK.2.2.2.2.2.2.2.1 mid j) hi hik he hp hst hna hr4 hrc hrk (Nat.le_refl _) (Nat.le_refl _) (z_metX OK C hg hr hY hp h) hL kk
theorem z_OKY_is : z_OKY i_X_isShelf := ⟨by decide +kernel, by decide +kernel, by decide +kernel, fun h => absurd h (by decide +kernel)⟩
theorem z_OKY_rowOn : z_OKY i_X_rowOn := ⟨by decide +kernel, by decide +kernel, by decide +kernel, fun _ => ⟨_, rfl, Or.inl ⟨_, rfl⟩⟩⟩
theorem z_OKY_has : z_OKY i_R_has := ⟨by decide +kernel, by decide +kernel, by decide +kernel, fun h => absurd h (by decide +kernel)⟩
theorem z_OKY_at : z_OKY i_R_at := ⟨by decide +kernel, by decide +kernel, by decide +kernel, fun h => absurd h (by decide +kernel)⟩
theorem z_OKY_xel : z_OKY i_X_element := ⟨by decide +kernel, by decide +kernel, by decide +kernel, fun h => absurd h (by decide +kernel)⟩
section
variable {X : z_X} {x n k : Nat} {G : z_H} {d i : Int32}
/-- up to the shelf's test -/
theorem x_e1 (OK : z_OKall) (C : z_Cx X i_X_element 0) (hg : z_Gd z_Gd0 X) (hL : z_Lim X n k) {b : Int32} (h1 : z_evM (z_Ex X) i_X_isShelf 0 [.int d] n k G = some (some (.int b), n, k, G)) (kk : z_WW X 4 i_X_element [some (.ref x), some (.int d), some (.int i), none] [.int b] n k G) : z_WW X 0 i_X_element [some (.ref x), some (.int d), some (.int i), none] [] n k G := by
  refine z_go OK C (i := .iload_n 1) (len := 1) (pc' := 1) (ls' := [some (.ref x), some (.int d), some (.int i), none]) (st' := [.int d]) (n' := n) (k' := k) (G' := G) (by decide +kernel) rfl hL ?_
  exact z_xc OK C hg (i := .invokestatic 239) (j := 239) (kind := 1) (y := i_X_isShelf) (na := 1) (ci := 11) (as := [.int d]) (rest := []) (by decide +kernel) (Or.inr (Or.inl ⟨rfl, Or.inl rfl⟩)) (by decide +kernel) rfl rfl (by decide +kernel) rfl (by decide +kernel) (by decide +kernel) z_OKY_is (by decide +kernel) h1 hL kk
theorem x_e2 (OK : z_OKall) (C : z_Cx X i_X_element 0) (hg : z_Gd z_Gd0 X) (hL : z_Lim X n k) (hc : z_clsOf G x = some 11) {rv : Value} (h1 : z_evM (z_Ex X) i_X_isShelf 0 [.int d] n k G = some (some (.int 1), n, k, G)) (h2 : z_evM (z_Ex X) i_X_rowOn 0 [.ref x, .int d] n k G = some (some rv, n, k, G)) (kk : z_WW X 22 i_X_element [some (.ref x), some (.int d), some (.int i), none] [rv] n k G) : z_WW X 0 i_X_element [some (.ref x), some (.int d), some (.int i), none] [] n k G := by
  refine x_e1 OK C hg hL h1 ?_
  refine z_go OK C (i := .ifCond .ne 13) (len := 3) (pc' := 17) (ls' := [some (.ref x), some (.int d), some (.int i), none]) (st' := []) (n' := n) (k' := k) (G' := G) (by decide +kernel) rfl hL ?_
  refine z_go OK C (i := .aload_n 0) (len := 1) (pc' := 18) (ls' := [some (.ref x), some (.int d), some (.int i), none]) (st' := [.ref x]) (n' := n) (k' := k) (G' := G) (by decide +kernel) rfl hL ?_
  refine z_go OK C (i := .iload_n 1) (len := 1) (pc' := 19) (ls' := [some (.ref x), some (.int d), some (.int i), none]) (st' := [.int d, .ref x]) (n' := n) (k' := k) (G' := G) (by decide +kernel) rfl hL ?_
  exact z_xc OK C hg (i := .invokevirtual 59) (j := 59) (kind := 0) (y := i_X_rowOn) (na := 2) (ci := 11) (as := [.ref x, .int d]) (rest := []) (by decide +kernel) (Or.inl ⟨rfl, Or.inl rfl⟩) (by decide +kernel) rfl rfl (by decide +kernel) (decide_eq_true hc) (by decide +kernel) (by decide +kernel) z_OKY_rowOn (by decide +kernel) h2 hL kk
theorem x_e3 (OK : z_OKall) (C : z_Cx X i_X_element 0) (hg : z_Gd z_Gd0 X) (hL : z_Lim X n k) (hc : z_clsOf G x = some 11) {r : Nat} (hc9 : z_clsOf G r = some 9) {b : Int32} (h1 : z_evM (z_Ex X) i_X_isShelf 0 [.int d] n k G = some (some (.int 1), n, k, G)) (h2 : z_evM (z_Ex X) i_X_rowOn 0 [.ref x, .int d] n k G = some (some (.ref r), n, k, G)) (h3 : z_evM (z_Ex X) i_R_has 0 [.ref r, .int i] n k G = some (some (.int b), n, k, G)) (kk : z_WW X 32 i_X_element [some (.ref x), some (.int d), some (.int i), some (.ref r)] [.int b] n k G) : z_WW X 0 i_X_element [some (.ref x), some (.int d), some (.int i), none] [] n k G := by
  refine x_e2 OK C hg hL hc h1 h2 ?_
  refine z_go OK C (i := .astore_n 3) (len := 1) (pc' := 23) (ls' := [some (.ref x), some (.int d), some (.int i), some (.ref r)]) (st' := []) (n' := n) (k' := k) (G' := G) (by decide +kernel) rfl hL ?_
  refine z_go OK C (i := .aload_n 3) (len := 1) (pc' := 24) (ls' := [some (.ref x), some (.int d), some (.int i), some (.ref r)]) (st' := [.ref r]) (n' := n) (k' := k) (G' := G) (by decide +kernel) rfl hL ?_
  refine z_go OK C (i := .ifnull 11) (len := 3) (pc' := 27) (ls' := [some (.ref x), some (.int d), some (.int i), some (.ref r)]) (st' := []) (n' := n) (k' := k) (G' := G) (by decide +kernel) rfl hL ?_
  refine z_go OK C (i := .aload_n 3) (len := 1) (pc' := 28) (ls' := [some (.ref x), some (.int d), some (.int i), some (.ref r)]) (st' := [.ref r]) (n' := n) (k' := k) (G' := G) (by decide +kernel) rfl hL ?_
  refine z_go OK C (i := .iload_n 2) (len := 1) (pc' := 29) (ls' := [some (.ref x), some (.int d), some (.int i), some (.ref r)]) (st' := [.int i, .ref r]) (n' := n) (k' := k) (G' := G) (by decide +kernel) rfl hL ?_
  exact z_xc OK C hg (i := .invokevirtual 248) (j := 248) (kind := 0) (y := i_R_has) (na := 2) (ci := 9) (as := [.ref r, .int i]) (rest := []) (by decide +kernel) (Or.inl ⟨rfl, Or.inl rfl⟩) (by decide +kernel) rfl rfl (by decide +kernel) (decide_eq_true hc9) (by decide +kernel) (by decide +kernel) z_OKY_has (by decide +kernel) h3 hL kk
end
theorem t_x1 (OK : z_OKall) {E : z_E} {x n : Nat} {G : z_H} {d i : Int32} (h1 : z_evM E i_X_isShelf 0 [.int d] n 0 G = some (some (.int 0), n, 0, G)) (l : Launch) (Amb : State → Heap → Prop) (n0 : Nat) (D : va_G) (hA : z_AmbOK n0 Amb) (hg : z_Gd0 l n0 Amb) : z_MetT l E Amb n0 D i_X_element 0 [.ref x, .int d, .int i] n G "java/lang/IllegalArgumentException" := by
  refine z_metT_of (k := 0) (le := [some (.ref x), some (.int d), some (.int i), none]) z_OKY_xel rfl ?_ l Amb n0 D hA hg
  intro X C hE hg hL hQ
  have hL0 := hL.le (n := n) (k := 0) (Nat.le_succ _) (Nat.zero_le _)
  subst hE
  refine x_e1 OK C hg hL0 h1 ?_
  refine z_go OK C (i := .ifCond .ne 13) (len := 3) (pc' := 7) (ls' := [some (.ref x), some (.int d), some (.int i), none]) (st' := []) (n' := n) (k' := 0) (G' := G) (by decide +kernel) rfl hL0 ?_
  exact z_throw C hg hL hQ (names := ["java/lang/RuntimeException", "java/lang/Exception"]) (ik := 252) (is := 254) (ic := 256) (i := 967) (text := "no such shelf") (by decide +kernel) (by decide +kernel) (z_inT 836 (by decide +kernel) rfl) (z_inT 62 (by decide +kernel) rfl) (by decide +kernel) (by decide +kernel) (by decide +kernel) (by decide +kernel) (by decide +kernel) (by decide +kernel) (by decide +kernel) (by decide +kernel) (by decide +kernel) (by decide +kernel) (by decide +kernel)
theorem t_x2 (OK : z_OKall) {E : z_E} {x n : Nat} {G : z_H} {d i : Int32} (hc : z_clsOf G x = some 11) (h1 : z_evM E i_X_isShelf 0 [.int d] n 0 G = some (some (.int 1), n, 0, G)) (h2 : z_evM E i_X_rowOn 0 [.ref x, .int d] n 0 G = some (some .null, n, 0, G)) (l : Launch) (Amb : State → Heap → Prop) (n0 : Nat) (D : va_G) (hA : z_AmbOK n0 Amb) (hg : z_Gd0 l n0 Amb) : z_MetT l E Amb n0 D i_X_element 0 [.ref x, .int d, .int i] n G "java/lang/IllegalStateException" := by
  refine z_metT_of (k := 0) (le := [some (.ref x), some (.int d), some (.int i), none]) z_OKY_xel rfl ?_ l Amb n0 D hA hg
  intro X C hE hg hL hQ
  have hL0 := hL.le (n := n) (k := 0) (Nat.le_succ _) (Nat.zero_le _)
  subst hE
  refine x_e2 OK C hg hL0 hc h1 h2 ?_
  refine z_go OK C (i := .astore_n 3) (len := 1) (pc' := 23) (ls' := [some (.ref x), some (.int d), some (.int i), some .null]) (st' := []) (n' := n) (k' := 0) (G' := G) (by decide +kernel) rfl hL0 ?_
  refine z_go OK C (i := .aload_n 3) (len := 1) (pc' := 24) (ls' := [some (.ref x), some (.int d), some (.int i), some .null]) (st' := [.null]) (n' := n) (k' := 0) (G' := G) (by decide +kernel) rfl hL0 ?_
  refine z_go OK C (i := .ifnull 11) (len := 3) (pc' := 35) (ls' := [some (.ref x), some (.int d), some (.int i), some .null]) (st' := []) (n' := n) (k' := 0) (G' := G) (by decide +kernel) rfl hL0 ?_
  exact z_throwW C hg hL hQ (names := ["java/lang/RuntimeException", "java/lang/Exception"]) (ik := 259) (is := 261) (ic := 263) (i := 969) (text := "no such element") (by decide +kernel) (by decide +kernel) (z_inT 835 (by decide +kernel) rfl) (z_inT 63 (by decide +kernel) rfl) (by decide +kernel) (by decide +kernel) (by decide +kernel) (by decide +kernel) (by decide +kernel) (by decide +kernel) (by decide +kernel) (by decide +kernel) (by decide +kernel) (by decide +kernel) (by decide +kernel)
theorem t_x3 (OK : z_OKall) {E : z_E} {x r n : Nat} {G : z_H} {d i : Int32} (hc : z_clsOf G x = some 11) (hc9 : z_clsOf G r = some 9) (h1 : z_evM E i_X_isShelf 0 [.int d] n 0 G = some (some (.int 1), n, 0, G)) (h2 : z_evM E i_X_rowOn 0 [.ref x, .int d] n 0 G = some (some (.ref r), n, 0, G)) (h3 : z_evM E i_R_has 0 [.ref r, .int i] n 0 G = some (some (.int 0), n, 0, G)) (l : Launch) (Amb : State → Heap → Prop) (n0 : Nat) (D : va_G) (hA : z_AmbOK n0 Amb) (hg : z_Gd0 l n0 Amb) : z_MetT l E Amb n0 D i_X_element 0 [.ref x, .int d, .int i] n G "java/lang/IllegalStateException" := by
  refine z_metT_of (k := 0) (le := [some (.ref x), some (.int d), some (.int i), none]) z_OKY_xel rfl ?_ l Amb n0 D hA hg
  intro X C hE hg hL hQ
  have hL0 := hL.le (n := n) (k := 0) (Nat.le_succ _) (Nat.zero_le _)
  subst hE
  refine x_e3 OK C hg hL0 hc hc9 h1 h2 h3 ?_
  refine z_go OK C (i := .ifCond .ne 14) (len := 3) (pc' := 35) (ls' := [some (.ref x), some (.int d), some (.int i), some (.ref r)]) (st' := []) (n' := n) (k' := 0) (G' := G) (by decide +kernel) rfl hL0 ?_
  exact z_throwW C hg hL hQ (names := ["java/lang/RuntimeException", "java/lang/Exception"]) (ik := 259) (is := 261) (ic := 263) (i := 969) (text := "no such element") (by decide +kernel) (by decide +kernel) (z_inT 835 (by decide +kernel) rfl) (z_inT 63 (by decide +kernel) rfl) (by decide +kernel) (by decide +kernel) (by decide +kernel) (by decide +kernel) (by decide +kernel) (by decide +kernel) (by decide +kernel) (by decide +kernel) (by decide +kernel) (by decide +kernel) (by decide +kernel)
theorem t_x4 (OK : z_OKall) {E : z_E} {x r n k : Nat} {G : z_H} {d i w : Int32} (hc : z_clsOf G x = some 11) (hc9 : z_clsOf G r = some 9) (h1 : z_evM E i_X_isShelf 0 [.int d] n k G = some (some (.int 1), n, k, G)) (h2 : z_evM E i_X_rowOn 0 [.ref x, .int d] n k G = some (some (.ref r), n, k, G)) (h3 : z_evM E i_R_has 0 [.ref r, .int i] n k G = some (some (.int 1), n, k, G)) (h4 : z_evM E i_R_at 0 [.ref r, .int i] n k G = some (some (.int w), n, k, G)) (l : Launch) (Amb : State → Heap → Prop) (n0 : Nat) (D : va_G) (hA : z_AmbOK n0 Amb) (hg : z_Gd0 l n0 Amb) : z_Met l E Amb n0 D i_X_element 0 [.ref x, .int d, .int i] n k G (some (.long w.toInt64)) n k G := by
  refine z_met_of (Gd := z_Gd0) (le := [some (.ref x), some (.int d), some (.int i), none]) z_OKY_xel rfl (Nat.le_refl _) (Nat.le_refl _) ?_ l Amb n0 D hA hg
  intro X C hE hg hL hRet
  subst hE
  refine x_e3 OK C hg hL hc hc9 h1 h2 h3 ?_
  refine z_go OK C (i := .ifCond .ne 14) (len := 3) (pc' := 46) (ls' := [some (.ref x), some (.int d), some (.int i), some (.ref r)]) (st' := []) (n' := n) (k' := k) (G' := G) (by decide +kernel) rfl hL ?_
  refine z_go OK C (i := .aload_n 3) (len := 1) (pc' := 47) (ls' := [some (.ref x), some (.int d), some (.int i), some (.ref r)]) (st' := [.ref r]) (n' := n) (k' := k) (G' := G) (by decide +kernel) rfl hL ?_
  refine z_go OK C (i := .iload_n 2) (len := 1) (pc' := 48) (ls' := [some (.ref x), some (.int d), some (.int i), some (.ref r)]) (st' := [.int i, .ref r]) (n' := n) (k' := k) (G' := G) (by decide +kernel) rfl hL ?_
  refine z_xc OK C hg (i := .invokevirtual 214) (j := 214) (kind := 0) (y := i_R_at) (na := 2) (ci := 9) (as := [.ref r, .int i]) (rest := []) (by decide +kernel) (Or.inl ⟨rfl, Or.inl rfl⟩) (by decide +kernel) rfl rfl (by decide +kernel) (decide_eq_true hc9) (by decide +kernel) (by decide +kernel) z_OKY_at (by decide +kernel) h4 hL ?_
  refine z_go OK C (i := .i2l) (len := 1) (pc' := 52) (ls' := [some (.ref x), some (.int d), some (.int i), some (.ref r)]) (st' := [.long w.toInt64]) (n' := n) (k' := k) (G' := G) (by decide +kernel) rfl hL ?_
  exact hRet 1 52 _ _ .lreturn (by decide +kernel) (show (if z_rt i_X_element = some .long then (some (.inl (some (.long w.toInt64))) : z_D) else none) = _ from if_pos (by decide +kernel))
/-! THE LAW'S ELEMENT: what it catches -/
theorem z_tcallL {X : z_X} {x o n k : Nat} {d i : Int32} {G : z_H} {cn : String} (C : z_Cx X i_L_element 0) (hg : z_Gd z_Gd0 X) (hL : z_Lim X (n + 1) (k + 6)) (hci : z_clsOf G x = some 11)
    (hM : ∀ (l : Launch) (Amb : State → Heap → Prop) (n0 : Nat) (D : va_G), z_AmbOK n0 Amb → z_Gd0 l n0 Amb → z_MetT l (z_Ex X) Amb n0 D i_X_element 0 [.ref x, .int d, .int i] n G cn) (K : z_KX X 5 i_L_element [some (.ref x), some (.int d), some (.int i), some (.ref o), none] [.int 0, .ref o] n k G cn) : z_WW X 5 i_L_element [some (.ref x), some (.int d), some (.int i), some (.ref o), none] [.int i, .int d, .ref x, .int 0, .ref o] n k G := by
  obtain ⟨p, l, e, R, s, m, args, below, meth, c, Q, D, n0, nst, kst, E, Amb⟩ := X
  obtain ⟨hx, hb, hr, hml, hown, hts, hin, hfr, hlo, hrk1, hNw, hA⟩ := C
  obtain ⟨hL1, hL2⟩ : n + 1 ≤ nst + R.cells ∧ k + 6 ≤ kst + R.slots := hL
  have hM := hM l Amb n0 D hA hg
  have hr7 : z_rk i_L_element = 7 := by decide +kernel
  intro H locs lsA cells slots hl hR hq hc hs
  have S : CallFix p m c (z_by i_L_element) (z_ml i_L_element) s args z_T (z_nm i_L_element).cls := ⟨hx, hb, hml, hown, hts⟩
  have hpre : ∀ U : State, U.heap = H → s.WarmedH U.vm → z_Pc E Amb n0 D [.ref x, .int d, .int i] n G #[Value.ref x, .int d, .int i] U := fun U hU hW => ⟨rfl, by rw [hU]; exact z_Rel.moved hA hW.alike hR, z_Nw.warm hW hNw⟩
  refine z_afterX (Qa := fun _ _ _ => False) (fun _ _ _ h => h) hA K hl hq hc hs ?_
  refine vx_runV (As := [.int d, .int i]) (rest := [.int 0, .ref o]) (C := (z_nm i_X_element).cls) S hM ⟨callB_of 2 hts (z_goodwd (z_inT 966 (by decide +kernel) rfl)) rfl rfl rfl (hts _ (z_inT 44 (by decide +kernel) rfl)) (hts _ (z_inT 963 (by decide +kernel) rfl)) ⟨by decide +kernel, by decide +kernel, by decide +kernel⟩ ⟨?_, ?_⟩, hts _ (z_inT 964 (by decide +kernel) rfl), hts _ (z_inT 965 (by decide +kernel) rfl)⟩ ⟨z_blind hA, z_recv hR (T := z_F11) (N := 11) (by rfl) hci, hpre⟩ rfl rfl hl.1.1 rfl (lv_room (z_cat8 (show ([.int 0, .ref o] : List Value).length ≤ 4 from (by decide : 2 ≤ 4)))) (show decode (z_by i_L_element) 5 = .ok (.invokevirtual 7, 3) by decide +kernel) ⟨by omega, by omega⟩
  · show z_rk i_X_element + 0 + 1 ≤ R.frames
    have : z_rk i_X_element = 6 := by decide +kernel
    omega
  · show 8 + (z_ml i_X_element + 11) + 40 * (z_rk i_X_element + 0) ≤ R.locals
    have : z_rk i_X_element = 6 := by decide +kernel
    have : z_ml i_X_element = 4 := by decide +kernel
    omega
theorem z_ncallL {X : z_X} {x o n k : Nat} {d i : Int32} {G : z_H} {w : Int64} (C : z_Cx X i_L_element 0) (hg : z_Gd z_Gd0 X) (hL : z_Lim X n k) (hci : z_clsOf G x = some 11)
    (hM : ∀ (l : Launch) (Amb : State → Heap → Prop) (n0 : Nat) (D : va_G), z_AmbOK n0 Amb → z_Gd0 l n0 Amb → z_Met l (z_Ex X) Amb n0 D i_X_element 0 [.ref x, .int d, .int i] n k G (some (.long w)) n k G) (K : z_WW X 8 i_L_element [some (.ref x), some (.int d), some (.int i), some (.ref o), none] (.long w :: [.int 0, .ref o]) n k G) : z_WW X 5 i_L_element [some (.ref x), some (.int d), some (.int i), some (.ref o), none] [.int i, .int d, .ref x, .int 0, .ref o] n k G := by
  obtain ⟨p, l, e, R, s, m, args, below, meth, c, Q, D, n0, nst, kst, E, Amb⟩ := X
  obtain ⟨hx, hb, hr, hml, hown, hts, hin, hfr, hlo, hrk1, hNw, hA⟩ := C
  obtain ⟨hL1, hL2⟩ : n ≤ nst + R.cells ∧ k ≤ kst + R.slots := hL
  have hM := hM l Amb n0 D hA hg
  have hr7 : z_rk i_L_element = 7 := by decide +kernel
  intro H locs lsA cells slots hl hR hq hc hs
  have S : CallFix p m c (z_by i_L_element) (z_ml i_L_element) s args z_T (z_nm i_L_element).cls := ⟨hx, hb, hml, hown, hts⟩
  have hpre : ∀ U : State, U.heap = H → s.WarmedH U.vm → z_Pc E Amb n0 D [.ref x, .int d, .int i] n G #[Value.ref x, .int d, .int i] U := fun U hU hW => ⟨rfl, by rw [hU]; exact z_Rel.moved hA hW.alike hR, z_Nw.warm hW hNw⟩
  refine z_after (av := #[Value.ref x, .int d, .int i]) (v := some (.long w)) (rest := [.int 0, .ref o]) hA (Nat.le_refl _) (Nat.le_refl _) K hl hq hc hs ?_
  refine va_runV (As := [.int d, .int i]) (rest := [.int 0, .ref o]) (C := (z_nm i_X_element).cls) S hM ⟨callB_of 2 hts (z_goodwd (z_inT 966 (by decide +kernel) rfl)) rfl rfl rfl (hts _ (z_inT 44 (by decide +kernel) rfl)) (hts _ (z_inT 963 (by decide +kernel) rfl)) ⟨by decide +kernel, by decide +kernel, by decide +kernel⟩ ⟨?_, ?_⟩, hts _ (z_inT 964 (by decide +kernel) rfl), hts _ (z_inT 965 (by decide +kernel) rfl)⟩ ⟨z_blind hA, z_recv hR (T := z_F11) (N := 11) (by rfl) hci, hpre⟩ rfl rfl hl.1.1 rfl (lv_room (z_cat8 (show ([.int 0, .ref o] : List Value).length ≤ 4 from (by decide : 2 ≤ 4)))) (show decode (z_by i_L_element) 5 = .ok (.invokevirtual 7, 3) by decide +kernel) ⟨by omega, by omega⟩
  · show z_rk i_X_element + 0 + 1 ≤ R.frames
    have : z_rk i_X_element = 6 := by decide +kernel
    omega
  · show 8 + (z_ml i_X_element + 11) + 40 * (z_rk i_X_element + 0) ≤ R.locals
    have : z_rk i_X_element = 6 := by decide +kernel
    have : z_ml i_X_element = 4 := by decide +kernel
    omega
def z_hL : List (Nat × Nat × Nat × Nat) := [(0, 9, 12, 13), (0, 9, 16, 15)]
theorem z_OKY_lel : z_OKY i_L_element := ⟨by decide +kernel, by decide +kernel, by decide +kernel, fun h => absurd h (by decide +kernel)⟩
theorem l_pre (OK : z_OKall) {X : z_X} {x o n k : Nat} {d i : Int32} {G : z_H} (C : z_Cx X i_L_element 0) (hL : z_Lim X n k) (kk : z_WW X 5 i_L_element [some (.ref x), some (.int d), some (.int i), some (.ref o), none] [.int i, .int d, .ref x, .int 0, .ref o] n k G) : z_WW X 0 i_L_element [some (.ref x), some (.int d), some (.int i), some (.ref o), none] [] n k G := by
  refine z_go OK C (i := .aload_n 3) (len := 1) (pc' := 1) (ls' := [some (.ref x), some (.int d), some (.int i), some (.ref o), none]) (st' := [.ref o]) (n' := n) (k' := k) (G' := G) (by decide +kernel) rfl hL ?_
  refine z_go OK C (i := .iconst 0) (len := 1) (pc' := 2) (ls' := [some (.ref x), some (.int d), some (.int i), some (.ref o), none]) (st' := [.int 0, .ref o]) (n' := n) (k' := k) (G' := G) (by decide +kernel) rfl hL ?_
  refine z_go OK C (i := .aload_n 0) (len := 1) (pc' := 3) (ls' := [some (.ref x), some (.int d), some (.int i), some (.ref o), none]) (st' := [.ref x, .int 0, .ref o]) (n' := n) (k' := k) (G' := G) (by decide +kernel) rfl hL ?_
  refine z_go OK C (i := .iload_n 1) (len := 1) (pc' := 4) (ls' := [some (.ref x), some (.int d), some (.int i), some (.ref o), none]) (st' := [.int d, .ref x, .int 0, .ref o]) (n' := n) (k' := k) (G' := G) (by decide +kernel) rfl hL ?_
  exact z_go OK C (i := .iload_n 2) (len := 1) (pc' := 5) (ls' := [some (.ref x), some (.int d), some (.int i), some (.ref o), none]) (st' := [.int i, .int d, .ref x, .int 0, .ref o]) (n' := n) (k' := k) (G' := G) (by decide +kernel) rfl hL kk
theorem l_1 (OK : z_OKall) {E : z_E} {x o n k : Nat} {d i : Int32} {G : z_H} (hci : z_clsOf G x = some 11) (hM : ∀ (l : Launch) (Amb : State → Heap → Prop) (n0 : Nat) (D : va_G), z_AmbOK n0 Amb → z_Gd0 l n0 Amb → z_MetT l E Amb n0 D i_X_element 0 [.ref x, .int d, .int i] n G "java/lang/IllegalArgumentException") (l : Launch) (Amb : State → Heap → Prop) (n0 : Nat) (D : va_G) (hA : z_AmbOK n0 Amb) (hg : z_Gd0 l n0 Amb) : z_MetH l E Amb n0 D i_L_element z_hL [.ref x, .int d, .int i, .ref o] n k G (some (.int 1)) (n + 1) (k + 6) G := by
  refine z_metH_of (le := [some (.ref x), some (.int d), some (.int i), some (.ref o), none]) z_OKY_lel (by decide +kernel) rfl (Nat.le_succ _) (Nat.le_add_right _ _) ?_ l Amb n0 D hA hg
  intro X C hE hg hL hQ
  obtain ⟨hret, htb⟩ := hQ
  subst hE
  refine l_pre OK C (hL.le (Nat.le_succ _) (Nat.le_add_right _ _)) ?_
  refine z_tcallL C hg hL hci hM (z_catch C hg htb [] (0, 9, 12, 13) [(0, 9, 16, 15)] rfl (fun z h => nomatch h) ⟨by decide, by decide⟩ (by decide) (z_inT 961 (by decide +kernel) rfl) (z_inN 847 (by decide +kernel) rfl) fun q => ?_)
  dsimp only
  refine z_go OK C (i := .astore 4) (len := 2) (pc' := 14) (ls' := [some (.ref x), some (.int d), some (.int i), some (.ref o), some (.ref q)]) (st' := []) (n' := n + 1) (k' := k + 6) (G' := G) (by decide +kernel) rfl hL ?_
  refine z_go OK C (i := .iconst 1) (len := 1) (pc' := 15) (ls' := [some (.ref x), some (.int d), some (.int i), some (.ref o), some (.ref q)]) (st' := [.int 1]) (n' := n + 1) (k' := k + 6) (G' := G) (by decide +kernel) rfl hL ?_
  exact hret 15 _ (by decide +kernel)
theorem l_2 (OK : z_OKall) {E : z_E} {x o n k : Nat} {d i : Int32} {G : z_H} (hci : z_clsOf G x = some 11) (hM : ∀ (l : Launch) (Amb : State → Heap → Prop) (n0 : Nat) (D : va_G), z_AmbOK n0 Amb → z_Gd0 l n0 Amb → z_MetT l E Amb n0 D i_X_element 0 [.ref x, .int d, .int i] n G "java/lang/IllegalStateException") (l : Launch) (Amb : State → Heap → Prop) (n0 : Nat) (D : va_G) (hA : z_AmbOK n0 Amb) (hg : z_Gd0 l n0 Amb) : z_MetH l E Amb n0 D i_L_element z_hL [.ref x, .int d, .int i, .ref o] n k G (some (.int 2)) (n + 1) (k + 6) G := by
  refine z_metH_of (le := [some (.ref x), some (.int d), some (.int i), some (.ref o), none]) z_OKY_lel (by decide +kernel) rfl (Nat.le_succ _) (Nat.le_add_right _ _) ?_ l Amb n0 D hA hg
  intro X C hE hg hL hQ
  obtain ⟨hret, htb⟩ := hQ
  subst hE
  refine l_pre OK C (hL.le (Nat.le_succ _) (Nat.le_add_right _ _)) ?_
  refine z_tcallL C hg hL hci hM (z_catch C hg htb [(0, 9, 12, 13)] (0, 9, 16, 15) [] rfl (fun z h => by
    rcases List.mem_cons.mp h with rfl | h
    · exact ⟨by decide, "java/lang/IllegalArgumentException", z_inT 961 (by decide +kernel) rfl, fun _ _ _ A => A.2.2.2.2.2⟩
    · exact nomatch h) ⟨by decide, by decide⟩ (by decide) (z_inT 962 (by decide +kernel) rfl) (z_inN 944 (by decide +kernel) rfl) fun q => ?_)
  dsimp only
  refine z_go OK C (i := .astore 4) (len := 2) (pc' := 18) (ls' := [some (.ref x), some (.int d), some (.int i), some (.ref o), some (.ref q)]) (st' := []) (n' := n + 1) (k' := k + 6) (G' := G) (by decide +kernel) rfl hL ?_
  refine z_go OK C (i := .iconst 2) (len := 1) (pc' := 19) (ls' := [some (.ref x), some (.int d), some (.int i), some (.ref o), some (.ref q)]) (st' := [.int 2]) (n' := n + 1) (k' := k + 6) (G' := G) (by decide +kernel) rfl hL ?_
  exact hret 19 _ (by decide +kernel)
theorem l_0 (OK : z_OKall) {E : z_E} {x o n k : Nat} {d i : Int32} {w : Int64} {G G1 : z_H} (hci : z_clsOf G x = some 11) (hpl : z_pl G o 0 w = some G1) (hM : ∀ (l : Launch) (Amb : State → Heap → Prop) (n0 : Nat) (D : va_G), z_AmbOK n0 Amb → z_Gd0 l n0 Amb → z_Met l E Amb n0 D i_X_element 0 [.ref x, .int d, .int i] n k G (some (.long w)) n k G) (l : Launch) (Amb : State → Heap → Prop) (n0 : Nat) (D : va_G) (hA : z_AmbOK n0 Amb) (hg : z_Gd0 l n0 Amb) : z_MetH l E Amb n0 D i_L_element z_hL [.ref x, .int d, .int i, .ref o] n k G (some (.int 0)) n k G1 := by
  refine z_metH_of (le := [some (.ref x), some (.int d), some (.int i), some (.ref o), none]) z_OKY_lel (by decide +kernel) rfl (Nat.le_refl _) (Nat.le_refl _) ?_ l Amb n0 D hA hg
  intro X C hE hg hL hQ
  obtain ⟨hret, htb⟩ := hQ
  subst hE
  refine l_pre OK C hL ?_
  refine z_ncallL C hg hL hci hM ?_
  refine z_go OK C (i := .lastore) (len := 1) (pc' := 9) (ls' := [some (.ref x), some (.int d), some (.int i), some (.ref o), none]) (st' := []) (n' := n) (k' := k) (G' := G1) (by decide +kernel) (show z_hp (z_pl G o 0 w) _ _ _ _ _ = _ by rw [hpl]; rfl) hL ?_
  refine z_go OK C (i := .goto 11) (len := 3) (pc' := 20) (ls' := [some (.ref x), some (.int d), some (.int i), some (.ref o), none]) (st' := []) (n' := n) (k' := k) (G' := G1) (by decide +kernel) rfl hL ?_
  refine z_go OK C (i := .iconst 0) (len := 1) (pc' := 21) (ls' := [some (.ref x), some (.int d), some (.int i), some (.ref o), none]) (st' := [.int 0]) (n' := n) (k' := k) (G' := G1) (by decide +kernel) rfl hL ?_
  exact hret 21 _ (by decide +kernel)
/-! THE PRIMITIVE element -/
theorem e_is {E : z_E} {n k : Nat} {G : z_H} (d : Int32) : z_evM E i_X_isShelf 0 [.int d] n k G = some (some (.int (if d < 0 ∨ 8 ≤ d then 0 else 1)), n, k, G) := by
  have o1 : (1 : Int32) = 0 ∨ (1 : Int32) = 1 := Or.inr rfl
  have o0 : (0 : Int32) = 0 ∨ (0 : Int32) = 1 := Or.inl rfl
  by_cases h1 : d < 0
  · simp only [zm_X_isShelf, zr_X_isShelf_0, zr_X_isShelf_1, zr_X_isShelf_4, zr_X_isShelf_5, zr_X_isShelf_7, zr_X_isShelf_10, zr_X_isShelf_11, zr_X_isShelf_14, zr_X_isShelf_15, h1, eq_self, true_or, or_true, ↓reduceIte]
  · by_cases h2 : 8 ≤ d
    · simp only [zm_X_isShelf, zr_X_isShelf_0, zr_X_isShelf_1, zr_X_isShelf_4, zr_X_isShelf_5, zr_X_isShelf_7, zr_X_isShelf_10, zr_X_isShelf_11, zr_X_isShelf_14, zr_X_isShelf_15, h1, h2, eq_self, true_or, or_true, ↓reduceIte]
    · simp only [zm_X_isShelf, zr_X_isShelf_0, zr_X_isShelf_1, zr_X_isShelf_4, zr_X_isShelf_5, zr_X_isShelf_7, zr_X_isShelf_10, zr_X_isShelf_11, zr_X_isShelf_14, zr_X_isShelf_15, h1, h2, eq_self, true_or, or_true, or_self, ↓reduceIte]
theorem e_row {E : z_E} {n k x t : Nat} {G : z_H} {d : Int32} {rv : Value} (hd : ¬ (d < 0 ∨ 8 ≤ d)) (h1 : z_gf G x [6, 11, 11, 0, 0] = some (.ref t)) (h2 : z_aq G t d = some rv) (hr : rv = .null ∨ ∃ r, rv = .ref r) : z_evM E i_X_rowOn 0 [.ref x, .int d] n k G = some (some rv, n, k, G) := by
  have h1' : z_gf G x [6, 11, 11, 3, 1] = some (.ref t) := h1
  have c : ¬ (1 : Int32) = 0 := by decide
  rcases hr with rfl | ⟨r, rfl⟩ <;> simp only [zm_X_rowOn, zr_X_rowOn_0, zr_X_rowOn_1, zr_X_rowOn_4, zr_X_rowOn_7, zr_X_rowOn_8, zr_X_rowOn_11, zr_X_rowOn_12, zr_X_rowOn_13, zr_X_rowOn_16, zr_X_rowOn_17, zr_X_rowOn_17n, e_is, hd, h1', h2, c, Option.bind_some, z_pu_s, z_pu_n, ↓reduceIte]
theorem e_has {E : z_E} {n k r e N : Nat} {G : z_H} {i : Int32} {f : Nat → Int32} (h1 : z_gf G r [1, 9, 9, 0, 0] = some (.ref e)) (h2 : G e = some (.inr (.int, N, .inl f))) (hN : N < 2 ^ 31) : z_evM E i_R_has 0 [.ref r, .int i] n k G = some (some (.int (if z_out i N = true then 0 else 1)), n, k, G) := by
  have o1 : (1 : Int32) = 0 ∨ (1 : Int32) = 1 := Or.inr rfl
  have o0 : (0 : Int32) = 0 ∨ (0 : Int32) = 1 := Or.inl rfl
  have h1' : z_gf G r [1, 9, 9, 3, 1] = some (.ref e) := h1
  have ha : z_an E G e = some (nI N) := by unfold z_an; simp only [h2]
  by_cases c1 : i < 0
  · have ho : z_out i N = true := by unfold z_out; simp only [c1, decide_true, Bool.true_or]
    simp only [zm_R_has, zr_R_has_0, zr_R_has_1, zr_R_has_4, zr_R_has_5, zr_R_has_6, zr_R_has_9, zr_R_has_10, zr_R_has_13, zr_R_has_14, zr_R_has_17, zr_R_has_18, c1, ho, eq_self, true_or, or_true, ↓reduceIte]
  · obtain ⟨j, j1, rfl⟩ := nI_of c1
    by_cases c2 : N ≤ j
    · have ho : z_out (nI j) N = true := by unfold z_out; rw [nI_clamp j1]; simp only [c2, decide_true, Bool.or_true]
      have c3 : (nI N ≤ nI j) = True := eq_true ((nI_leI hN j1).mpr c2)
      simp only [zm_R_has, zr_R_has_0, zr_R_has_1, zr_R_has_4, zr_R_has_5, zr_R_has_6, zr_R_has_9, zr_R_has_10, zr_R_has_13, zr_R_has_14, zr_R_has_17, zr_R_has_18, c1, c3, ho, h1', ha, eq_self, true_or, or_true, Option.bind_some, ↓reduceIte]
    · have ho : z_out (nI j) N = false := by unfold z_out; rw [nI_clamp j1]; simp only [c1, c2, decide_false, Bool.or_false]
      have c3 : (nI N ≤ nI j) = False := eq_false (fun z => c2 ((nI_leI hN j1).mp z))
      simp only [zm_R_has, zr_R_has_0, zr_R_has_1, zr_R_has_4, zr_R_has_5, zr_R_has_6, zr_R_has_9, zr_R_has_10, zr_R_has_13, zr_R_has_14, zr_R_has_17, zr_R_has_18, c1, c3, ho, h1', ha, eq_self, true_or, or_true, Option.bind_some, ↓reduceIte, Bool.false_eq_true]
theorem e_at {E : z_E} {n k r e N : Nat} {G : z_H} {i : Int32} {f : Nat → Int32} (hc9 : z_clsOf G r = some 9) (h1 : z_gf G r [1, 9, 9, 0, 0] = some (.ref e)) (h2 : G e = some (.inr (.int, N, .inl f))) (hN : N < 2 ^ 31) (ho : z_out i N = false) : z_evM E i_R_at 0 [.ref r, .int i] n k G = some (some (.int (f i.toNatClampNeg)), n, k, G) := by
  have h1' : z_gf G r [1, 9, 9, 3, 1] = some (.ref e) := h1
  have ha : z_ai E G e i = some (f i.toNatClampNeg) := by unfold z_ai; simp only [h2, ho, Bool.false_eq_true, ↓reduceIte]
  have c : ¬ (1 : Int32) = 0 := by decide
  simp only [zm_R_at, zr_R_at_0, zr_R_at_1, zr_R_at_2, zr_R_at_5, zr_R_at_8, zr_R_at_9, zr_R_at_12, zr_R_at_13, zr_R_at_14, zr_R_at_17, zr_R_at_18, hc9, e_has h1 h2 hN, ho, h1', ha, c, Option.bind_some, z_pu_s, z_pu_n, ↓reduceIte, Bool.false_eq_true]
theorem z_p1001 (OK : z_OKall) {X : z_X} {mid lev pc : Nat} {ls : z_L} {st : List Value} {n k : Nat} {G : z_H} {as rest : List Value} {v : Option Value} {n1 k1 : Nat} {G1 : z_H} (C : z_Cx X mid lev) (hg : z_Gd z_Gd0 X) (hcls : (z_nm mid).cls = "BellThatIsADoorLaw") (hi : z_ins mid pc = some (.invokestatic 164, 3)) (h8 : 8 ≤ z_rk mid + lev) (hst : st = as.reverse ++ rest) (hl4 : rest.length ≤ 4)
    (hp : z_prim 1001 as n k G = some (v, n1, k1, G1)) (hL : z_Lim X n1 k1) (kk : z_WW X (pc + 3) mid ls (z_pu v rest) n1 k1 G1) : z_WW X pc mid ls st n k G := by
  have key : ∃ x d i o, as = [.ref x, .int d, .int i, .ref o] ∧ ∀ (l : Launch) (Amb : State → Heap → Prop) (n0 : Nat) (D : va_G), z_AmbOK n0 Amb → z_Gd0 l n0 Amb → z_MetH l (z_Ex X) Amb n0 D i_L_element z_hL [.ref x, .int d, .int i, .ref o] n k G v n1 k1 G1 := by
    have hp2 := hp
    unfold z_prim at hp2
    rw [if_neg (by decide), if_pos rfl] at hp2
    split at hp2
    · next x d i o =>
      refine ⟨x, d, i, o, rfl, ?_⟩
      by_cases hci : z_clsOf G x = some 11
      · rw [if_pos hci] at hp2
        by_cases hd : d < 0 ∨ 8 ≤ d
        · rw [if_pos hd] at hp2
          cases hp2
          exact l_1 OK hci (fun l Amb n0 D hA hg => t_x1 OK (by rw [e_is, if_pos hd]) l Amb n0 D hA hg)
        · rw [if_neg hd] at hp2
          have his : ∀ k, z_evM (z_Ex X) i_X_isShelf 0 [.int d] n k G = some (some (.int 1), n, k, G) := fun k => by rw [e_is, if_neg hd]
          split at hp2
          · next t ht =>
            split at hp2
            · next hq =>
              cases hp2
              exact l_2 OK hci (fun l Amb n0 D hA hg => t_x2 OK hci (his 0) (e_row hd ht hq (Or.inl rfl)) l Amb n0 D hA hg)
            · next r hq =>
              split at hp2
              · next e he =>
                split at hp2
                · next N f hf =>
                  have h9 : z_clsOf G r = some 9 := by
                    have he2 := he
                    unfold z_gf at he2
                    unfold z_clsOf
                    dsimp only at he2
                    rcases hr : G r with _ | ⟨⟨ci, fs⟩ | c⟩
                    · simp [hr] at he2
                    · simp only [hr] at he2 ⊢
                      split at he2
                      · next hc => rw [show ci = 9 by omega]
                      · cases he2
                    · simp [hr] at he2
                  by_cases hN : N < 2147483648
                  · rw [if_pos hN] at hp2
                    have hrow : ∀ k, z_evM (z_Ex X) i_X_rowOn 0 [.ref x, .int d] n k G = some (some (.ref r), n, k, G) := fun k => e_row hd ht hq (Or.inr ⟨r, rfl⟩)
                    by_cases ho : z_out i N = true
                    · rw [if_pos ho] at hp2
                      cases hp2
                      exact l_2 OK hci (fun l Amb n0 D hA hg => t_x3 OK hci h9 (his 0) (hrow 0) (by rw [e_has he hf hN, if_pos ho]) l Amb n0 D hA hg)
                    · rw [if_neg ho] at hp2
                      have ho' : z_out i N = false := by simpa using ho
                      split at hp2
                      · next G2 hpl =>
                        cases hp2
                        exact l_0 OK hci hpl (fun l Amb n0 D hA hg => t_x4 OK hci h9 (his k) (hrow k) (by rw [e_has he hf hN, if_neg ho]) (e_at h9 he hf hN ho') l Amb n0 D hA hg)
                      · cases hp2
                  · rw [if_neg hN] at hp2; cases hp2
                · cases hp2
              · cases hp2
            · cases hp2
          · cases hp2
      · rw [if_neg hci] at hp2; cases hp2
    · cases hp2
  obtain ⟨hn, hk⟩ := z_prim_mono hp
  obtain ⟨x, d, i, o, rfl, hM⟩ := key
  obtain ⟨p, l, e, R, s, m, args, below, meth, c, Q, D, n0, nst, kst, E, Amb⟩ := X
  obtain ⟨hx, hb, hr, hml, hown, hts, hin, hfr, hlo, hrk1, hNw, hA⟩ := C
  obtain ⟨hL1, hL2⟩ : n1 ≤ nst + R.cells ∧ k1 ≤ kst + R.slots := hL
  have hM := hM l Amb n0 D hA hg
  have hr7 : z_rk i_L_element = 7 := by decide +kernel
  have hm2 : z_ml i_L_element = 5 := by decide +kernel
  intro H locs lsA cells slots hl hR hq hc hs
  rw [hcls] at hown
  have S : CallFix p m c (z_by mid) (z_ml mid) s args z_T "BellThatIsADoorLaw" := ⟨hx, hb, hml, hown, hts⟩
  have hpre : ∀ U : State, U.heap = H → s.WarmedH U.vm → z_Pc E Amb n0 D [.ref x, .int d, .int i, .ref o] n G #[Value.ref x, .int d, .int i, .ref o] U := fun U hU hW => ⟨rfl, by rw [hU]; exact z_Rel.moved hA hW.alike hR, z_Nw.warm hW hNw⟩
  refine z_after (av := #[Value.ref x, .int d, .int i, .ref o]) (v := v) (rest := rest) hA hn hk kk hl hq hc hs (vx_toRun ?_)
  have hG : GoodIn z_T (va_wsS "BellThatIsADoorLaw" 164 (z_nm i_L_element) (z_wdH i_L_element z_hL)) := fun w h => (List.mem_append.mp (show w ∈ _ ++ _ from h)).elim (goodIn_of _ (by decide +kernel) w) (z_goodH (z_inT 960 (by decide +kernel) rfl) w)
  refine vx_runSX (As := [.ref x, .int d, .int i, .ref o]) S hM (vx_cwSW 4 hts hG rfl rfl rfl ⟨by decide +kernel, by decide +kernel, by decide +kernel⟩ ⟨?_, ?_⟩) ⟨z_blind hA, hpre⟩ rfl rfl hl.1.1 hst (lv_room (z_cat8 hl4)) (z_insd hi).1 ⟨by omega, by omega⟩
  · show z_rk i_L_element + 1 ≤ R.frames
    omega
  · show 8 + (z_ml i_L_element + 11) + 40 * z_rk i_L_element ≤ R.locals
    omega
theorem z_mprm : ∀ oc, oc < 15 → ∀ q ∈ (z_mT[oc]?).getD [], (match q.2 with
  | _ :: y :: _ => decide (y < 1000) || (decide (y = 1000) && decide (oc = 11) && decide (q.1 = 282)) || (decide (y = 1001) && decide (oc = 14) && decide (q.1 = 164))
  | _ => true) = true := by decide +kernel
theorem z_ocl : ∀ m, m < 218 → (z_oc m = 11 → (z_nm m).cls = "BellThatIsADoor") ∧ (z_oc m = 14 → (z_nm m).cls = "BellThatIsADoorLaw") := by decide +kernel
theorem z_me_prm {mid j kind y na self lv ci : Nat} {t : List Nat} (h : z_me mid j = kind :: y :: na :: self :: lv :: ci :: t) (hp : z_prm y = true) : (y = 1000 ∧ j = 282 ∧ (z_nm mid).cls = "BellThatIsADoor") ∨ (y = 1001 ∧ j = 164 ∧ (z_nm mid).cls = "BellThatIsADoorLaw") := by
  have hp : 1000 ≤ y := of_decide_eq_true hp
  have hoc : z_oc mid < 15 := by
    rcases Nat.lt_or_ge (z_oc mid) 15 with c | c
    · exact c
    · exfalso
      unfold z_me z_lk at h
      rw [List.getElem?_eq_none (Nat.le_trans (by decide +kernel : z_mT.length ≤ 15) c)] at h
      cases h
  have hm : mid < 218 := by
    rcases Nat.lt_or_ge mid 218 with c | c
    · exact c
    · exfalso
      unfold z_oc at hoc
      rw [List.getElem?_eq_none (Nat.le_trans (by decide +kernel : z_ocs.length ≤ 218) c)] at hoc
      exact absurd hoc (by decide)
  unfold z_me z_lk at h
  cases hf : ((z_mT[z_oc mid]?).getD []).find? (fun q => q.1 == j) with
  | none => rw [hf] at h; cases h
  | some q =>
    rw [hf] at h
    have h1 := List.mem_of_find?_eq_some hf
    have h2 := List.find?_some hf
    simp only [beq_iff_eq] at h2
    obtain ⟨q1, q2⟩ := q
    simp only [Option.map_some, Option.getD_some] at h
    subst h
    subst h2
    have h3 := z_mprm (z_oc mid) hoc _ h1
    simp only [Bool.or_eq_true, Bool.and_eq_true, decide_eq_true_eq] at h3
    rcases h3 with (h3 | ⟨⟨h3, h4⟩, h5⟩) | ⟨⟨h3, h4⟩, h5⟩
    · omega
    · exact Or.inl ⟨h3, h5, (z_ocl mid hm).1 h4⟩
    · exact Or.inr ⟨h3, h5, (z_ocl mid hm).2 h4⟩
theorem z_primOK (OK : z_OKall) (rmax : Nat) : z_PrimOK z_Gd0 rmax := by
  intro X mid lev j pc ls st n k G y lv as rest v n1 k1 G1 hr C hg hi hc hp hpr hL kk
  have h8 := z_call_prm hc hp
  obtain ⟨kind, na, self, lv0, ci, t, g1, g2, g3⟩ := z_call_in hc
  have hl4 : rest.length ≤ 4 := by
    have h9 := g3.2.2.1
    unfold z_dp at h9
    rw [hp] at h9
    simpa using h9
  rcases z_me_prm g1 hp with ⟨rfl, rfl, hcls⟩ | ⟨rfl, rfl, hcls⟩
  · exact z_p1000 OK C hg hcls hi h8 g3.1 hl4 hpr hL kk
  · exact z_p1001 OK C hg hcls hi h8 g3.1 hl4 hpr hL kk
