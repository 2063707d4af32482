/-! WHAT THROWS: the failures of the bells -/
theorem t_B0 (OK : z_OKall) {E : z_E} {n : Nat} {G : z_H} {a : Nat} {f : Int32} (hgf : z_gf G a [1, 0, 7, 0, 1] = some (.int f)) (hf : ¬ f = 0) (l : Launch) (Amb : State → Heap → Prop) (n0 : Nat) (D : va_G) (hA : z_AmbOK n0 Amb) (hg : z_Gd0 l n0 Amb) : z_MetT l E Amb n0 D i_B0_fail 0 [.ref a] n G "java/lang/IllegalStateException" := by
  refine z_metT_of (k := 0) (le := [some (.ref a)]) ⟨by decide +kernel, by decide +kernel, by decide +kernel, fun h => absurd h (by decide +kernel)⟩ rfl ?_ l Amb n0 D hA hg
  intro X C hE hg hL hQ
  have hL0 := hL.le (n := n) (k := 0) (Nat.le_succ _) (Nat.zero_le _)
  refine z_go OK C (i := .aload_n 0) (len := 1) (pc' := 1) (ls' := [some (.ref a)]) (st' := [.ref a]) (n' := n) (k' := 0) (G' := G) (by decide +kernel) rfl hL0 ?_
  refine z_go OK C (i := .getfield 21) (len := 3) (pc' := 4) (ls' := [some (.ref a)]) (st' := [.int f]) (n' := n) (k' := 0) (G' := G) (by decide +kernel) (show z_vl (z_gf G a (z_fe i_B0_fail 21)) _ _ _ _ _ _ = _ by rw [show z_fe i_B0_fail 21 = [1, 0, 7, 0, 1] from by decide +kernel, hgf]; rfl) hL0 ?_
  refine z_go OK C (i := .ifCond .eq 13) (len := 3) (pc' := 7) (ls' := [some (.ref a)]) (st' := []) (n' := n) (k' := 0) (G' := G) (by decide +kernel) (show z_cj (decide (f = 0)) _ _ _ _ _ _ _ _ = _ by rw [decide_eq_false hf]; rfl) hL0 ?_
  exact z_throw C hg hL hQ (names := ["java/lang/RuntimeException", "java/lang/Exception"]) (ik := 30) (is := 32) (ic := 34) (i := 955) (text := "a bell fails") (by decide +kernel) (by decide +kernel) (z_inT 946 (by decide +kernel) rfl) (z_inT 65 (by decide +kernel) rfl) (by decide +kernel) (by decide +kernel) (by decide +kernel) (by decide +kernel) (by decide +kernel) (by decide +kernel) (by decide +kernel) (by decide +kernel) (by decide +kernel) (by decide +kernel) (by decide +kernel)
theorem t_B1 (OK : z_OKall) {E : z_E} {n : Nat} {G : z_H} {a : Nat} {f : Int32} (hgf : z_gf G a [1, 3, 7, 0, 2] = some (.int f)) (hf : ¬ f = 0) (l : Launch) (Amb : State → Heap → Prop) (n0 : Nat) (D : va_G) (hA : z_AmbOK n0 Amb) (hg : z_Gd0 l n0 Amb) : z_MetT l E Amb n0 D i_B1_fail 0 [.ref a] n G "java/lang/IllegalArgumentException" := by
  refine z_metT_of (k := 0) (le := [some (.ref a)]) ⟨by decide +kernel, by decide +kernel, by decide +kernel, fun h => absurd h (by decide +kernel)⟩ rfl ?_ l Amb n0 D hA hg
  intro X C hE hg hL hQ
  have hL0 := hL.le (n := n) (k := 0) (Nat.le_succ _) (Nat.zero_le _)
  refine z_go OK C (i := .aload_n 0) (len := 1) (pc' := 1) (ls' := [some (.ref a)]) (st' := [.ref a]) (n' := n) (k' := 0) (G' := G) (by decide +kernel) rfl hL0 ?_
  refine z_go OK C (i := .getfield 24) (len := 3) (pc' := 4) (ls' := [some (.ref a)]) (st' := [.int f]) (n' := n) (k' := 0) (G' := G) (by decide +kernel) (show z_vl (z_gf G a (z_fe i_B1_fail 24)) _ _ _ _ _ _ = _ by rw [show z_fe i_B1_fail 24 = [1, 3, 7, 0, 2] from by decide +kernel, hgf]; rfl) hL0 ?_
  refine z_go OK C (i := .ifCond .eq 13) (len := 3) (pc' := 7) (ls' := [some (.ref a)]) (st' := []) (n' := n) (k' := 0) (G' := G) (by decide +kernel) (show z_cj (decide (f = 0)) _ _ _ _ _ _ _ _ = _ by rw [decide_eq_false hf]; rfl) hL0 ?_
  exact z_throw C hg hL hQ (names := ["java/lang/RuntimeException", "java/lang/Exception"]) (ik := 27) (is := 29) (ic := 31) (i := 890) (text := "a door fails") (by decide +kernel) (by decide +kernel) (z_inT 849 (by decide +kernel) rfl) (z_inT 64 (by decide +kernel) rfl) (by decide +kernel) (by decide +kernel) (by decide +kernel) (by decide +kernel) (by decide +kernel) (by decide +kernel) (by decide +kernel) (by decide +kernel) (by decide +kernel) (by decide +kernel) (by decide +kernel)
theorem t_B7 (OK : z_OKall) {E : z_E} {n : Nat} {G : z_H} {a : Nat} {f : Int32} (hgf : z_gf G a [1, 7, 7, 0, 2] = some (.int f)) (hf : ¬ f = 0) (l : Launch) (Amb : State → Heap → Prop) (n0 : Nat) (D : va_G) (hA : z_AmbOK n0 Amb) (hg : z_Gd0 l n0 Amb) : z_MetT l E Amb n0 D i_B7_fail 0 [.ref a] n G "java/lang/UnsupportedOperationException" := by
  refine z_metT_of (k := 0) (le := [some (.ref a)]) ⟨by decide +kernel, by decide +kernel, by decide +kernel, fun h => absurd h (by decide +kernel)⟩ rfl ?_ l Amb n0 D hA hg
  intro X C hE hg hL hQ
  have hL0 := hL.le (n := n) (k := 0) (Nat.le_succ _) (Nat.zero_le _)
  refine z_go OK C (i := .aload_n 0) (len := 1) (pc' := 1) (ls' := [some (.ref a)]) (st' := [.ref a]) (n' := n) (k' := 0) (G' := G) (by decide +kernel) rfl hL0 ?_
  refine z_go OK C (i := .getfield 24) (len := 3) (pc' := 4) (ls' := [some (.ref a)]) (st' := [.int f]) (n' := n) (k' := 0) (G' := G) (by decide +kernel) (show z_vl (z_gf G a (z_fe i_B7_fail 24)) _ _ _ _ _ _ = _ by rw [show z_fe i_B7_fail 24 = [1, 7, 7, 0, 2] from by decide +kernel, hgf]; rfl) hL0 ?_
  refine z_go OK C (i := .ifCond .eq 13) (len := 3) (pc' := 7) (ls' := [some (.ref a)]) (st' := []) (n' := n) (k' := 0) (G' := G) (by decide +kernel) (show z_cj (decide (f = 0)) _ _ _ _ _ _ _ _ = _ by rw [decide_eq_false hf]; rfl) hL0 ?_
  exact z_throw C hg hL hQ (names := ["java/lang/RuntimeException", "java/lang/Exception"]) (ik := 27) (is := 29) (ic := 31) (i := 937) (text := "a marble fails") (by decide +kernel) (by decide +kernel) (z_inT 928 (by decide +kernel) rfl) (z_inT 67 (by decide +kernel) rfl) (by decide +kernel) (by decide +kernel) (by decide +kernel) (by decide +kernel) (by decide +kernel) (by decide +kernel) (by decide +kernel) (by decide +kernel) (by decide +kernel) (by decide +kernel) (by decide +kernel)
theorem e_B0 {E : z_E} {n k : Nat} {G : z_H} {a : Nat} (hgf : z_gf G a [1, 0, 7, 0, 1] = some (.int 0)) : z_evM E i_B0_fail 0 [.ref a] n k G = some (none, n, k, G) := by
  have e1 : z_run E 4 i_B0_fail 0 0 [some (.ref a)] [] n k G = some (none, n, k, G) := by
    rw [z_run, show z_ins i_B0_fail 0 = some (.aload_n 0, 1) from by decide +kernel]
    show z_run E 3 i_B0_fail 0 1 [some (.ref a)] [.ref a] n k G = _
    rw [z_run, show z_ins i_B0_fail 1 = some (.getfield 21, 3) from by decide +kernel]
    dsimp only
    rw [show z_step E i_B0_fail 0 (.getfield 21) 3 1 [some (.ref a)] [.ref a] n k G = some (.inr (.inl (4, [some (.ref a)], [.int 0], n, k, G))) from (show z_vl (z_gf G a (z_fe i_B0_fail 21)) _ _ _ _ _ _ = _ by rw [show z_fe i_B0_fail 21 = [1, 0, 7, 0, 1] from by decide +kernel, hgf]; rfl)]
    dsimp only
    rw [z_run, show z_ins i_B0_fail 4 = some (.ifCond .eq 13, 3) from by decide +kernel]
    show z_run E 1 i_B0_fail 0 17 [some (.ref a)] [] n k G = _
    rw [z_run, show z_ins i_B0_fail 17 = some (.return_, 1) from by decide +kernel]
    dsimp only
    rw [show z_step E i_B0_fail 0 .return_ 1 17 [some (.ref a)] [] n k G = some (.inl none) from (show (if z_rt i_B0_fail = none then (some (.inl none) : z_D) else none) = some (.inl none) from if_pos (by decide +kernel))]
  unfold z_evM
  rw [if_neg (by decide +kernel)]
  exact Option.bind_eq_some_iff.mpr ⟨_, rfl, (z_ev_iff _ _ _ _ _ _ _ _ _ _).mpr ⟨4, e1⟩⟩
theorem e_B1 {E : z_E} {n k : Nat} {G : z_H} {a : Nat} (hgf : z_gf G a [1, 3, 7, 0, 2] = some (.int 0)) : z_evM E i_B1_fail 0 [.ref a] n k G = some (none, n, k, G) := by
  have e1 : z_run E 4 i_B1_fail 0 0 [some (.ref a)] [] n k G = some (none, n, k, G) := by
    rw [z_run, show z_ins i_B1_fail 0 = some (.aload_n 0, 1) from by decide +kernel]
    show z_run E 3 i_B1_fail 0 1 [some (.ref a)] [.ref a] n k G = _
    rw [z_run, show z_ins i_B1_fail 1 = some (.getfield 24, 3) from by decide +kernel]
    dsimp only
    rw [show z_step E i_B1_fail 0 (.getfield 24) 3 1 [some (.ref a)] [.ref a] n k G = some (.inr (.inl (4, [some (.ref a)], [.int 0], n, k, G))) from (show z_vl (z_gf G a (z_fe i_B1_fail 24)) _ _ _ _ _ _ = _ by rw [show z_fe i_B1_fail 24 = [1, 3, 7, 0, 2] from by decide +kernel, hgf]; rfl)]
    dsimp only
    rw [z_run, show z_ins i_B1_fail 4 = some (.ifCond .eq 13, 3) from by decide +kernel]
    show z_run E 1 i_B1_fail 0 17 [some (.ref a)] [] n k G = _
    rw [z_run, show z_ins i_B1_fail 17 = some (.return_, 1) from by decide +kernel]
    dsimp only
    rw [show z_step E i_B1_fail 0 .return_ 1 17 [some (.ref a)] [] n k G = some (.inl none) from (show (if z_rt i_B1_fail = none then (some (.inl none) : z_D) else none) = some (.inl none) from if_pos (by decide +kernel))]
  unfold z_evM
  rw [if_neg (by decide +kernel)]
  exact Option.bind_eq_some_iff.mpr ⟨_, rfl, (z_ev_iff _ _ _ _ _ _ _ _ _ _).mpr ⟨4, e1⟩⟩
theorem e_B7 {E : z_E} {n k : Nat} {G : z_H} {a : Nat} (hgf : z_gf G a [1, 7, 7, 0, 2] = some (.int 0)) : z_evM E i_B7_fail 0 [.ref a] n k G = some (none, n, k, G) := by
  have e1 : z_run E 4 i_B7_fail 0 0 [some (.ref a)] [] n k G = some (none, n, k, G) := by
    rw [z_run, show z_ins i_B7_fail 0 = some (.aload_n 0, 1) from by decide +kernel]
    show z_run E 3 i_B7_fail 0 1 [some (.ref a)] [.ref a] n k G = _
    rw [z_run, show z_ins i_B7_fail 1 = some (.getfield 24, 3) from by decide +kernel]
    dsimp only
    rw [show z_step E i_B7_fail 0 (.getfield 24) 3 1 [some (.ref a)] [.ref a] n k G = some (.inr (.inl (4, [some (.ref a)], [.int 0], n, k, G))) from (show z_vl (z_gf G a (z_fe i_B7_fail 24)) _ _ _ _ _ _ = _ by rw [show z_fe i_B7_fail 24 = [1, 7, 7, 0, 2] from by decide +kernel, hgf]; rfl)]
    dsimp only
    rw [z_run, show z_ins i_B7_fail 4 = some (.ifCond .eq 13, 3) from by decide +kernel]
    show z_run E 1 i_B7_fail 0 17 [some (.ref a)] [] n k G = _
    rw [z_run, show z_ins i_B7_fail 17 = some (.return_, 1) from by decide +kernel]
    dsimp only
    rw [show z_step E i_B7_fail 0 .return_ 1 17 [some (.ref a)] [] n k G = some (.inl none) from (show (if z_rt i_B7_fail = none then (some (.inl none) : z_D) else none) = some (.inl none) from if_pos (by decide +kernel))]
  unfold z_evM
  rw [if_neg (by decide +kernel)]
  exact Option.bind_eq_some_iff.mpr ⟨_, rfl, (z_ev_iff _ _ _ _ _ _ _ _ _ _).mpr ⟨4, e1⟩⟩
theorem e_B2 {E : z_E} {n k : Nat} {G : z_H} {a : Nat} : z_evM E i_B2_fail 0 [.ref a] n k G = some (none, n, k, G) := by
  have e1 : z_run E 1 i_B2_fail 0 0 [some (.ref a)] [] n k G = some (none, n, k, G) := by
    rw [z_run, show z_ins i_B2_fail 0 = some (.return_, 1) from by decide +kernel]
    dsimp only
    rw [show z_step E i_B2_fail 0 .return_ 1 0 [some (.ref a)] [] n k G = some (.inl none) from (show (if z_rt i_B2_fail = none then (some (.inl none) : z_D) else none) = some (.inl none) from if_pos (by decide +kernel))]
  unfold z_evM
  rw [if_neg (by decide +kernel)]
  exact Option.bind_eq_some_iff.mpr ⟨_, rfl, (z_ev_iff _ _ _ _ _ _ _ _ _ _).mpr ⟨1, e1⟩⟩
theorem e_B6 {E : z_E} {n k : Nat} {G : z_H} {a : Nat} : z_evM E i_B6_fail 0 [.ref a] n k G = some (none, n, k, G) := by
  have e1 : z_run E 1 i_B6_fail 0 0 [some (.ref a)] [] n k G = some (none, n, k, G) := by
    rw [z_run, show z_ins i_B6_fail 0 = some (.return_, 1) from by decide +kernel]
    dsimp only
    rw [show z_step E i_B6_fail 0 .return_ 1 0 [some (.ref a)] [] n k G = some (.inl none) from (show (if z_rt i_B6_fail = none then (some (.inl none) : z_D) else none) = some (.inl none) from if_pos (by decide +kernel))]
  unfold z_evM
  rw [if_neg (by decide +kernel)]
  exact Option.bind_eq_some_iff.mpr ⟨_, rfl, (z_ev_iff _ _ _ _ _ _ _ _ _ _).mpr ⟨1, e1⟩⟩
