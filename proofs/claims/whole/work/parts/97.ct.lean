/-! WHAT CATCHES -/
def z_wdH (y : Nat) (hh : List (Nat × Nat × Nat × Nat)) : List Cond := Cond.codeWith (z_nm y) (z_by y) (z_ml y) (z_rt y) hh :: z_T
def z_MetH (l : Launch) (E : z_E) (Amb : State → Heap → Prop) (n0 : Nat) (D : va_G) (y : Nat) (hh : List (Nat × Nat × Nat × Nat)) (as : List Value) (n k : Nat) (G : z_H) (v : Option Value) (n1 k1 : Nat) (G1 : z_H) : Prop :=
  vx_Met l (z_nm y) (z_wdH y hh) (z_room (z_rk y) (n1 - n) (k1 - k)) (z_Pc E Amb n0 D as n G) (z_Qc E Amb n0 D v n1 G1) (fun _ _ _ => False) (n1 - n) (k1 - k) (fun q => n0 ≤ q)
def z_tb : z_X → List (Nat × Nat × Nat × Nat) → Prop := fun (_, _, _, _, _, _, _, _, _, c, _, _, _, _, _, _, _) hh => c.exceptionTable.toList = tableOf hh
def z_HQ (X : z_X) (y : Nat) (hh : List (Nat × Nat × Nat × Nat)) (r : Int32) (n1 k1 : Nat) (G1 : z_H) : Prop := (∀ pc ls, decode (z_by y) pc = .ok (.ireturn, 1) → z_WW X pc y ls [.int r] n1 k1 G1) ∧ z_tb X hh
theorem z_metH_of {E : z_E} {y : Nat} {as : List Value} {le : z_L} {n k : Nat} {G : z_H} {r : Int32} {n1 k1 : Nat} {G1 : z_H} {hh : List (Nat × Nat × Nat × Nat)} (hY : z_OKY y) (hrt : z_rt y = some .int) (he : z_ent y as = some le) (hn : n ≤ n1) (hk : k ≤ k1)
    (h : ∀ X : z_X, z_Cx X y 0 → z_Ex X = E → z_Gd z_Gd0 X → z_Lim X n1 k1 → z_HQ X y hh r n1 k1 G1 → z_WW X 0 y le [] n k G) (l : Launch) (Amb : State → Heap → Prop) (n0 : Nat) (D : va_G) (hA : z_AmbOK n0 Amb) (hg : z_Gd0 l n0 Amb) : z_MetH l E Amb n0 D y hh as n k G (some (.int r)) n1 k1 G1 := by
  refine vx_ofWH (cc := z_by y) (maxL := z_ml y) (ret := z_rt y) (hh := hh) hY.1 rfl ?_
  intro p e s m args below meth c s₁ B hml hv
  obtain ⟨rfl, hRel, hNw⟩ := hv
  have hpre : ∀ w ∈ z_wdH y hh, w.before as.toArray s = true := atoms_spec (ws := z_wdH y hh) B.pre
  have hts : ∀ w ∈ z_T, w.before as.toArray s = true := fun w hw => hpre w (List.mem_cons_of_mem _ hw)
  have ht : c.exceptionTable.toList = tableOf hh := vx_table (x := z_nm y) B (hpre _ List.mem_cons_self)
  have hown : s.vm.findClass (z_nm y).cls = some m.cls := findClass_of_methodNamed B.named
  have hnm : meth.name = (z_nm y).name := (name_of_methodNamed B.named B.method).1
  have hlocks := B.notSynchronized
  have hRl := z_entRl he
  rw [lg_entry_eq]
  generalize (lg_sl as ++ List.replicate (z_ml y - (lg_sl as).length) Slot.unset).toArray = lsA at hRl ⊢
  refine h (p, l, e, (headSpec (z_wdH y hh) (z_room (z_rk y) (n1 - n) (k1 - k))).room, s, m, as.toArray, below, meth, c, vx_MQ below (z_Qc E Amb n0 D (some (.int r)) n1 G1) (fun _ _ _ => False) as.toArray s (n1 - n) (k1 - k) (fun q => n0 ≤ q), D, n0, n, k, E, Amb)
    ⟨B.exec, B.bytes, B.returns, hml, hown, hts, fun hi => by rw [hnm]; exact hY.2.2.1 hi, Nat.le_refl _, Nat.le_refl _, hY.2.1, hNw, hA⟩ rfl hg ⟨by show n1 ≤ n + (n1 - n); omega, by show k1 ≤ k + (k1 - k); omega⟩ ⟨?_, ht⟩ s.heap [] lsA 0 0 hRl hRel (fun q hq => nomatch hq) (by omega) (by omega)
  intro pc ls hd H locs lsB cells slots hl hR hq hc hs
  have hc' : cells = n1 - n := by omega
  have hs' : slots = k1 - k := by omega
  subst hc' hs'
  exact vx_ret (W.iret B.exec B.bytes (by rw [B.returns]; exact hrt) (fun t ht2 hW => ⟨rfl, by rw [ht2]; exact hR.moved hA hW.alike⟩) hq hd)
/-- thrown over a frame at pc, one cell more -/
def z_KX : z_X → Nat → Nat → z_L → List Value → Nat → Nat → z_H → String → Prop := fun (p, l, e, R, s, m, args, below, meth, c, Q, D, n0, nst, kst, E, Amb) pc mid ls rest n k G cn =>
  ∀ (q : Addr) (ce : Cell) (H1 : Heap) (locs1 : List Loc) (lsA : Array Slot) (cells slots : Nat), z_Rl mid lsA ls → z_Rel E Amb n0 D s (n + 1) G H1 → (∀ z ∈ locs1, n0 ≤ z.base) → cells + nst = n + 1 → slots + kst = k + 6 → H1[q]? = some ce → ce.vm = .none → s.vm.findClass cn = some ce.cls → vx_W p l e R s m args below meth c H1 locs1 cells slots Q (F0 m pc lsA rest) q
theorem z_afterX {p : Program} {l : Launch} {e : Env} {R : Room} {s : State} {m : MethodId} {args : Array Value} {below : List Frame} {meth : Method} {c : Code} {Q : State → Prop} {D : va_G} {n0 nst kst : Nat} {E : z_E} {Amb : State → Heap → Prop} {mid pc : Nat} {ls : z_L} {st rest : List Value} {n k : Nat} {G : z_H} {cn : String} {H : Heap} {locs : List Loc} {lsA : Array Slot} {cells slots : Nat} {Qa : State → Outcome → State → Prop} (hQa : ∀ a b t, ¬ Qa a b t)
    (hA : z_AmbOK n0 Amb) (kk : z_KX (p, l, e, R, s, m, args, below, meth, c, Q, D, n0, nst, kst, E, Amb) pc mid ls rest n k G cn)
    (hl : z_Rl mid lsA ls) (hq : ∀ q ∈ locs, n0 ≤ q.base) (hc : cells + nst = n) (hs : slots + kst = k)
    (hr : vx_Run p l e R s m args below meth c H locs cells slots 1 6 (F0 m pc lsA st) rest Qa (z_XC E Amb n0 D cn (n + 1) G) (fun q => n0 ≤ q)) : W p l e R s m args below meth c H locs cells slots Q (F0 m pc lsA st) := by
  intro T hT X
  rcases hr T hT X with ⟨v, st₀, t, T', L, h0, X', hL, e1, e2, hF, st'⟩ | ⟨q, st₀, t, T', L, E', ce, h0, X', hL, e1, e2, ⟨rfl, hRt⟩, hce, hcv, hcl, st'⟩
  · exact (hQa _ _ _ hF).elim
  · have hR1 : z_Rel E Amb n0 D s (n + 1) G T'.heap := by
      rw [e1]
      exact z_Rel.moved hA (by rw [← e2]; exact X'.warmed.alike.symm) hRt
    obtain ⟨t2, a1, b1⟩ := kk q ce T'.heap (locs ++ L) lsA (cells + 1) (slots + 6) hl hR1 (fun z hz => (List.mem_append.mp hz).elim (hq z) (hL z)) (by omega) (by omega) (by rw [e1]; exact hce) hcv hcl T' rfl X'
    exact ⟨t2, st'.trans a1, b1⟩
/-- the row x of the table takes it -/
theorem z_catch {X : z_X} {mid lev pc : Nat} {ls : z_L} {rest : List Value} {n k : Nat} {G : z_H} {cn : String} {hh : List (Nat × Nat × Nat × Nat)} (C : z_Cx X mid lev) (hg : z_Gd z_Gd0 X) (ht : z_tb X hh) (pre : List (Nat × Nat × Nat × Nat)) (x : Nat × Nat × Nat × Nat) (suf : List (Nat × Nat × Nat × Nat)) (hs : hh = pre ++ x :: suf)
    (hpass : ∀ z ∈ pre, z.2.2.2 ≠ 0 ∧ ∃ nm : String, Cond.classLink (z_nm mid).cls z.2.2.2 nm ∈ z_T ∧ ∀ (n0 : Nat) (U : State) (H : Heap), z_Amb n0 U H → va_Nc cn nm U) (hx : x.1 ≤ pc ∧ pc < x.2.1) (h0 : x.2.2.2 ≠ 0)
    (hlink : Cond.classLink (z_nm mid).cls x.2.2.2 cn ∈ z_T) (hcast : Cond.castable cn cn ∈ z_N)
    (kk : ∀ q, z_WW X x.2.2.1 mid ls [.ref q] (n + 1) (k + 6) G) : z_KX X pc mid ls rest n k G cn := by
  obtain ⟨p, l, e, R, s, m, args, below, meth, c, Q, D, n0, nst, kst, E, Amb⟩ := X
  obtain ⟨hx0, hb, hr, hml, hown, hts, hin, hfr0, hlo0, hrk1, hNw, hA⟩ := C
  obtain ⟨hfl, hAmb⟩ : l.stackTraces = false ∧ Amb = z_Amb n0 := hg
  have ht : c.exceptionTable.toList = tableOf hh := ht
  intro q ce H1 locs1 lsA cells slots hl hR hq hc hsl hcell hv hcl
  have hAm : z_Amb n0 s H1 := by have := hR.2.2.2.2.2.1; rw [hAmb] at this; exact this
  refine vx_catch (own := (z_nm mid).cls) (name := cn) (E := cn) hown (tableOf pre) { startPc := x.1, endPc := x.2.1, handlerPc := x.2.2.1, catchType := x.2.2.2 } (tableOf suf) (by rw [ht, hs]; unfold tableOf; rw [List.map_append, List.map_cons]) ?_ ?_ h0 (hts _ hlink) (va_tabs rfl rfl (hNw _ hcast)) hcell hv hcl (kk q H1 locs1 lsA cells slots hl hR hq hc hsl)
  · intro z hz
    unfold tableOf at hz
    obtain ⟨w, hw, rfl⟩ := List.mem_map.mp hz
    obtain ⟨g0, nm, g1, g2⟩ := hpass w hw
    exact Or.inr ⟨g0, nm, hts _ g1, g2 n0 s H1 hAm⟩
  · unfold covers
    simp [hx.1, hx.2]
/-! THE CALL THAT MAY THROW, of a house -/
theorem z_tcall0 {X : z_X} {a n k : Nat} {G : z_H} {cn : String} (C : z_Cx X i_X_caughtFrom 0) (hg : z_Gd z_Gd0 X) (hL : z_Lim X (n + 1) (k + 6)) (hci : z_clsOf G a = some 0)
    (hM : ∀ (l : Launch) (Amb : State → Heap → Prop) (n0 : Nat) (D : va_G), z_AmbOK n0 Amb → z_Gd0 l n0 Amb → z_MetT l (z_Ex X) Amb n0 D i_B0_fail 0 [.ref a] n G cn) (K : z_KX X 1 i_X_caughtFrom [some (.ref a), none] [] n k G cn) : z_WW X 1 i_X_caughtFrom [some (.ref a), none] [.ref a] n k G := by
  obtain ⟨p, l, e, R, s, m, args, below, meth, c, Q, D, n0, nst, kst, E, Amb⟩ := X
  obtain ⟨hx, hb, hr, hml, hown, hts, hin, hfr, hlo, hrk1, hNw, hA⟩ := C
  obtain ⟨hL1, hL2⟩ : n + 1 ≤ nst + R.cells ∧ k + 6 ≤ kst + R.slots := hL
  have hM := hM l Amb n0 D hA hg
  have hr7 : z_rk i_X_caughtFrom = 7 := by decide +kernel
  intro H locs lsA cells slots hl hR hq hc hs
  have S : CallFix p m c (z_by i_X_caughtFrom) (z_ml i_X_caughtFrom) s args z_T (z_nm i_X_caughtFrom).cls := ⟨hx, hb, hml, hown, hts⟩
  have hpre : ∀ U : State, U.heap = H → s.WarmedH U.vm → z_Pc E Amb n0 D [.ref a] n G #[Value.ref a] U := fun U hU hW => ⟨rfl, by rw [hU]; exact z_Rel.moved hA hW.alike hR, z_Nw.warm hW hNw⟩
  refine z_afterX (Qa := fun _ _ _ => False) (fun _ _ _ h => h) hA K hl hq hc hs ?_
  refine vx_runV (As := []) (C := (z_nm i_B0_fail).cls) S hM ⟨callB_of 0 hts (z_goodwd (z_inT 941 (by decide +kernel) rfl)) rfl rfl rfl (hts _ (z_inT 47 (by decide +kernel) rfl)) (hts _ (z_inT 838 (by decide +kernel) rfl)) ⟨by decide +kernel, by decide +kernel, by decide +kernel⟩ ⟨?_, ?_⟩, hts _ (z_inT 839 (by decide +kernel) rfl), hts _ (z_inT 840 (by decide +kernel) rfl)⟩ ⟨z_blind hA, z_recv hR (T := z_F0) (N := 6) (by rfl) hci, hpre⟩ rfl rfl hl.1.1 rfl (by show 0 + 0 ≤ 8; omega) (show decode (z_by i_X_caughtFrom) 1 = .ok (.invokevirtual 288, 3) by decide +kernel) ⟨by omega, by omega⟩
  · show z_rk i_B0_fail + 0 + 1 ≤ R.frames
    have : z_rk i_B0_fail = 6 := by decide +kernel
    omega
  · show 8 + (z_ml i_B0_fail + 11) + 40 * (z_rk i_B0_fail + 0) ≤ R.locals
    have : z_rk i_B0_fail = 6 := by decide +kernel
    have : z_ml i_B0_fail = 1 := by decide +kernel
    omega
theorem z_tcallU {X : z_X} {y ci : Nat} {Cn : String} {T0 : u_T} {N0 : Nat} {a n k : Nat} {G : z_H} {cn : String} (C : z_Cx X i_X_caughtFrom 0) (hg : z_Gd z_Gd0 X) (hL : z_Lim X (n + 1) (k + 6)) (hci : z_clsOf G a = some ci) (hcl : z_cl[ci]? = some (Cn, T0, N0)) (hy : z_rk y = 6 ∧ z_ml y = 1)
    (hG : GoodIn z_T (va_wsO (z_nm i_X_caughtFrom).cls 288 Cn "BellThatIsADoor$Bell" (z_nm i_B0_fail) (z_nm y) (z_wd y)))
    (hM : ∀ (l : Launch) (Amb : State → Heap → Prop) (n0 : Nat) (D : va_G), z_AmbOK n0 Amb → z_Gd0 l n0 Amb → z_MetT l (z_Ex X) Amb n0 D y 0 [.ref a] n G cn) (K : z_KX X 1 i_X_caughtFrom [some (.ref a), none] [] n k G cn) : z_WW X 1 i_X_caughtFrom [some (.ref a), none] [.ref a] n k G := by
  obtain ⟨p, l, e, R, s, m, args, below, meth, c, Q, D, n0, nst, kst, E, Amb⟩ := X
  obtain ⟨hx, hb, hr, hml, hown, hts, hin, hfr, hlo, hrk1, hNw, hA⟩ := C
  obtain ⟨hL1, hL2⟩ : n + 1 ≤ nst + R.cells ∧ k + 6 ≤ kst + R.slots := hL
  have hM := hM l Amb n0 D hA hg
  have hr7 : z_rk i_X_caughtFrom = 7 := by decide +kernel
  obtain ⟨hy1, hy2⟩ := hy
  intro H locs lsA cells slots hl hR hq hc hs
  have S : CallFix p m c (z_by i_X_caughtFrom) (z_ml i_X_caughtFrom) s args z_T (z_nm i_X_caughtFrom).cls := ⟨hx, hb, hml, hown, hts⟩
  have hpre : ∀ U : State, U.heap = H → s.WarmedH U.vm → z_Pc E Amb n0 D [.ref a] n G #[Value.ref a] U := fun U hU hW => ⟨rfl, by rw [hU]; exact z_Rel.moved hA hW.alike hR, z_Nw.warm hW hNw⟩
  refine z_afterX (Qa := fun _ _ _ => False) (fun _ _ _ h => h) hA K hl hq hc hs ?_
  refine vx_runU (As := []) (C := Cn) (owner := "BellThatIsADoor$Bell") (x := z_nm i_B0_fail) S hM (va_cwO 0 hts hG rfl rfl rfl (b0 := z_by i_B0_fail) (m0 := z_ml i_B0_fail) (r0 := z_rt i_B0_fail) (z_inT 941 (by decide +kernel) rfl) ⟨by decide +kernel, by decide +kernel, by decide +kernel⟩ ⟨?_, ?_⟩) ⟨z_blind hA, z_recv hR hcl hci, hpre⟩ rfl rfl hl.1.1 rfl (by show 0 + 0 ≤ 8; omega) (show decode (z_by i_X_caughtFrom) 1 = .ok (.invokevirtual 288, 3) by decide +kernel) ⟨by omega, by omega⟩
  · show z_rk y + 0 + 1 ≤ R.frames
    omega
  · show 8 + (z_ml y + 11) + 40 * (z_rk y + 0) ≤ R.locals
    omega
/-! CAUGHT -/
theorem z_gfH {G : z_H} {a ci k lo hi t f : Nat} {fs : List Value} {v : Value} (h : G a = some (.inl (ci, fs))) (h1 : lo ≤ ci) (h2 : ci ≤ hi) (hv : fs[k]? = some v) : z_gf G a [k, lo, hi, t, f] = some v := by
  unfold z_gf
  simp only [h]
  rw [if_pos ⟨h1, h2⟩, hv]
def z_hh : List (Nat × Nat × Nat × Nat) := [(0, 4, 7, 259), (0, 4, 13, 252), (0, 4, 22, 294)]
theorem z_OKY_caught : z_OKY i_X_caughtFrom := ⟨by decide +kernel, by decide +kernel, by decide +kernel, fun h => absurd h (by decide +kernel)⟩
theorem c_0 (OK : z_OKall) {E : z_E} {a n k : Nat} {G : z_H} {x0 x2 x3 x4 : Value} {f p : Int32} (hB : G a = some (.inl (0, [x0, .int f, x2, x3, x4, .int p]))) (hf : ¬ f = 0) (l : Launch) (Amb : State → Heap → Prop) (n0 : Nat) (D : va_G) (hA : z_AmbOK n0 Amb) (hg : z_Gd0 l n0 Amb) : z_MetH l E Amb n0 D i_X_caughtFrom z_hh [.ref a] n k G (some (.int (f))) (n + 1) (k + 6) G := by
  refine z_metH_of (le := [some (.ref a), none]) z_OKY_caught (by decide +kernel) rfl (Nat.le_succ _) (Nat.le_add_right _ _) ?_ l Amb n0 D hA hg
  intro X C hE hg hL hQ
  obtain ⟨hret, htb⟩ := hQ
  refine z_go OK C (i := .aload_n 0) (len := 1) (pc' := 1) (ls' := [some (.ref a), none]) (st' := [.ref a]) (n' := n) (k' := k) (G' := G) (by decide +kernel) rfl (hL.le (Nat.le_succ _) (Nat.le_add_right _ _)) ?_
  refine z_tcall0 C hg hL (by unfold z_clsOf; rw [hB]) (fun l Amb n0 D hA hg => t_B0 OK (f := f) (z_gfH hB (by omega) (by omega) rfl) hf l Amb n0 D hA hg) (z_catch C hg htb [] (0, 4, 7, 259) [(0, 4, 13, 252), (0, 4, 22, 294)] rfl (fun z h => nomatch h) ⟨by decide, by decide⟩ (by decide) (z_inT 835 (by decide +kernel) rfl) (z_inN 944 (by decide +kernel) rfl) fun q => ?_)
  dsimp only
  refine z_go OK C (i := .astore_n 1) (len := 1) (pc' := 8) (ls' := [some (.ref a), some (.ref q)]) (st' := []) (n' := n + 1) (k' := k + 6) (G' := G) (by decide +kernel) rfl hL ?_
  refine z_go OK C (i := .aload_n 0) (len := 1) (pc' := 9) (ls' := [some (.ref a), some (.ref q)]) (st' := [.ref a]) (n' := n + 1) (k' := k + 6) (G' := G) (by decide +kernel) rfl hL ?_
  refine z_go OK C (i := .getfield 291) (len := 3) (pc' := 12) (ls' := [some (.ref a), some (.ref q)]) (st' := [.int f]) (n' := n + 1) (k' := k + 6) (G' := G) (by decide +kernel) (show z_vl (z_gf G a (z_fe i_X_caughtFrom 291)) _ _ _ _ _ _ = _ by rw [show z_fe i_X_caughtFrom 291 = [1, 0, 7, 0, 2] from by decide +kernel, z_gfH hB (by omega) (by omega) rfl]; rfl) hL ?_
  exact hret 12 _ (by decide +kernel)
theorem c_3 (OK : z_OKall) {E : z_E} {a n k : Nat} {G : z_H} {x0 x2 x3 x4 : Value} {f p : Int32} (hB : G a = some (.inl (3, [x0, .int f, x2, x3, x4, .int p]))) (hf : ¬ f = 0) (l : Launch) (Amb : State → Heap → Prop) (n0 : Nat) (D : va_G) (hA : z_AmbOK n0 Amb) (hg : z_Gd0 l n0 Amb) : z_MetH l E Amb n0 D i_X_caughtFrom z_hh [.ref a] n k G (some (.int (f + 100))) (n + 1) (k + 6) G := by
  refine z_metH_of (le := [some (.ref a), none]) z_OKY_caught (by decide +kernel) rfl (Nat.le_succ _) (Nat.le_add_right _ _) ?_ l Amb n0 D hA hg
  intro X C hE hg hL hQ
  obtain ⟨hret, htb⟩ := hQ
  refine z_go OK C (i := .aload_n 0) (len := 1) (pc' := 1) (ls' := [some (.ref a), none]) (st' := [.ref a]) (n' := n) (k' := k) (G' := G) (by decide +kernel) rfl (hL.le (Nat.le_succ _) (Nat.le_add_right _ _)) ?_
  refine z_tcallU C hg hL (y := i_B1_fail) (ci := 3) (Cn := "BellThatIsADoor$Door") (T0 := z_F3) (N0 := 6) (by unfold z_clsOf; rw [hB]) (by rfl) ⟨by decide +kernel, by decide +kernel⟩ (fun w h => (List.mem_append.mp (show w ∈ _ ++ _ from h)).elim (goodIn_of _ (by decide +kernel) w) (z_goodwd (z_inT 844 (by decide +kernel) rfl) w)) (fun l Amb n0 D hA hg => t_B1 OK (f := f) (z_gfH hB (by omega) (by omega) rfl) hf l Amb n0 D hA hg) (z_catch C hg htb [(0, 4, 7, 259)] (0, 4, 13, 252) [(0, 4, 22, 294)] rfl (fun z h => by
    rcases List.mem_cons.mp h with rfl | h
    · exact ⟨by decide, "java/lang/IllegalStateException", z_inT 835 (by decide +kernel) rfl, fun _ _ _ A => A.2.2.1⟩
    · exact nomatch h) ⟨by decide, by decide⟩ (by decide) (z_inT 836 (by decide +kernel) rfl) (z_inN 847 (by decide +kernel) rfl) fun q => ?_)
  dsimp only
  refine z_go OK C (i := .astore_n 1) (len := 1) (pc' := 14) (ls' := [some (.ref a), some (.ref q)]) (st' := []) (n' := n + 1) (k' := k + 6) (G' := G) (by decide +kernel) rfl hL ?_
  refine z_go OK C (i := .aload_n 0) (len := 1) (pc' := 15) (ls' := [some (.ref a), some (.ref q)]) (st' := [.ref a]) (n' := n + 1) (k' := k + 6) (G' := G) (by decide +kernel) rfl hL ?_
  refine z_go OK C (i := .getfield 291) (len := 3) (pc' := 18) (ls' := [some (.ref a), some (.ref q)]) (st' := [.int f]) (n' := n + 1) (k' := k + 6) (G' := G) (by decide +kernel) (show z_vl (z_gf G a (z_fe i_X_caughtFrom 291)) _ _ _ _ _ _ = _ by rw [show z_fe i_X_caughtFrom 291 = [1, 0, 7, 0, 2] from by decide +kernel, z_gfH hB (by omega) (by omega) rfl]; rfl) hL ?_
  refine z_go OK C (i := .bipush 100) (len := 2) (pc' := 20) (ls' := [some (.ref a), some (.ref q)]) (st' := [.int 100, .int f]) (n' := n + 1) (k' := k + 6) (G' := G) (by decide +kernel) rfl hL ?_
  refine z_go OK C (i := .iadd) (len := 1) (pc' := 21) (ls' := [some (.ref a), some (.ref q)]) (st' := [.int (f + 100)]) (n' := n + 1) (k' := k + 6) (G' := G) (by decide +kernel) rfl hL ?_
  exact hret 21 _ (by decide +kernel)
theorem c_4 (OK : z_OKall) {E : z_E} {a n k : Nat} {G : z_H} {x0 x2 x3 x4 : Value} {f p : Int32} (hB : G a = some (.inl (4, [x0, .int f, x2, x3, x4, .int p]))) (hf : ¬ f = 0) (l : Launch) (Amb : State → Heap → Prop) (n0 : Nat) (D : va_G) (hA : z_AmbOK n0 Amb) (hg : z_Gd0 l n0 Amb) : z_MetH l E Amb n0 D i_X_caughtFrom z_hh [.ref a] n k G (some (.int (f + 100))) (n + 1) (k + 6) G := by
  refine z_metH_of (le := [some (.ref a), none]) z_OKY_caught (by decide +kernel) rfl (Nat.le_succ _) (Nat.le_add_right _ _) ?_ l Amb n0 D hA hg
  intro X C hE hg hL hQ
  obtain ⟨hret, htb⟩ := hQ
  refine z_go OK C (i := .aload_n 0) (len := 1) (pc' := 1) (ls' := [some (.ref a), none]) (st' := [.ref a]) (n' := n) (k' := k) (G' := G) (by decide +kernel) rfl (hL.le (Nat.le_succ _) (Nat.le_add_right _ _)) ?_
  refine z_tcallU C hg hL (y := i_B1_fail) (ci := 4) (Cn := "BellThatIsADoor$Maid") (T0 := z_F4) (N0 := 6) (by unfold z_clsOf; rw [hB]) (by rfl) ⟨by decide +kernel, by decide +kernel⟩ (fun w h => (List.mem_append.mp (show w ∈ _ ++ _ from h)).elim (goodIn_of _ (by decide +kernel) w) (z_goodwd (z_inT 844 (by decide +kernel) rfl) w)) (fun l Amb n0 D hA hg => t_B1 OK (f := f) (z_gfH hB (by omega) (by omega) rfl) hf l Amb n0 D hA hg) (z_catch C hg htb [(0, 4, 7, 259)] (0, 4, 13, 252) [(0, 4, 22, 294)] rfl (fun z h => by
    rcases List.mem_cons.mp h with rfl | h
    · exact ⟨by decide, "java/lang/IllegalStateException", z_inT 835 (by decide +kernel) rfl, fun _ _ _ A => A.2.2.1⟩
    · exact nomatch h) ⟨by decide, by decide⟩ (by decide) (z_inT 836 (by decide +kernel) rfl) (z_inN 847 (by decide +kernel) rfl) fun q => ?_)
  dsimp only
  refine z_go OK C (i := .astore_n 1) (len := 1) (pc' := 14) (ls' := [some (.ref a), some (.ref q)]) (st' := []) (n' := n + 1) (k' := k + 6) (G' := G) (by decide +kernel) rfl hL ?_
  refine z_go OK C (i := .aload_n 0) (len := 1) (pc' := 15) (ls' := [some (.ref a), some (.ref q)]) (st' := [.ref a]) (n' := n + 1) (k' := k + 6) (G' := G) (by decide +kernel) rfl hL ?_
  refine z_go OK C (i := .getfield 291) (len := 3) (pc' := 18) (ls' := [some (.ref a), some (.ref q)]) (st' := [.int f]) (n' := n + 1) (k' := k + 6) (G' := G) (by decide +kernel) (show z_vl (z_gf G a (z_fe i_X_caughtFrom 291)) _ _ _ _ _ _ = _ by rw [show z_fe i_X_caughtFrom 291 = [1, 0, 7, 0, 2] from by decide +kernel, z_gfH hB (by omega) (by omega) rfl]; rfl) hL ?_
  refine z_go OK C (i := .bipush 100) (len := 2) (pc' := 20) (ls' := [some (.ref a), some (.ref q)]) (st' := [.int 100, .int f]) (n' := n + 1) (k' := k + 6) (G' := G) (by decide +kernel) rfl hL ?_
  refine z_go OK C (i := .iadd) (len := 1) (pc' := 21) (ls' := [some (.ref a), some (.ref q)]) (st' := [.int (f + 100)]) (n' := n + 1) (k' := k + 6) (G' := G) (by decide +kernel) rfl hL ?_
  exact hret 21 _ (by decide +kernel)
theorem c_5 (OK : z_OKall) {E : z_E} {a n k : Nat} {G : z_H} {x0 x2 x3 x4 : Value} {f p : Int32} (hB : G a = some (.inl (5, [x0, .int f, x2, x3, x4, .int p]))) (hf : ¬ f = 0) (l : Launch) (Amb : State → Heap → Prop) (n0 : Nat) (D : va_G) (hA : z_AmbOK n0 Amb) (hg : z_Gd0 l n0 Amb) : z_MetH l E Amb n0 D i_X_caughtFrom z_hh [.ref a] n k G (some (.int (f + 100))) (n + 1) (k + 6) G := by
  refine z_metH_of (le := [some (.ref a), none]) z_OKY_caught (by decide +kernel) rfl (Nat.le_succ _) (Nat.le_add_right _ _) ?_ l Amb n0 D hA hg
  intro X C hE hg hL hQ
  obtain ⟨hret, htb⟩ := hQ
  refine z_go OK C (i := .aload_n 0) (len := 1) (pc' := 1) (ls' := [some (.ref a), none]) (st' := [.ref a]) (n' := n) (k' := k) (G' := G) (by decide +kernel) rfl (hL.le (Nat.le_succ _) (Nat.le_add_right _ _)) ?_
  refine z_tcallU C hg hL (y := i_B1_fail) (ci := 5) (Cn := "BellThatIsADoor$Suited") (T0 := z_F5) (N0 := 6) (by unfold z_clsOf; rw [hB]) (by rfl) ⟨by decide +kernel, by decide +kernel⟩ (fun w h => (List.mem_append.mp (show w ∈ _ ++ _ from h)).elim (goodIn_of _ (by decide +kernel) w) (z_goodwd (z_inT 844 (by decide +kernel) rfl) w)) (fun l Amb n0 D hA hg => t_B1 OK (f := f) (z_gfH hB (by omega) (by omega) rfl) hf l Amb n0 D hA hg) (z_catch C hg htb [(0, 4, 7, 259)] (0, 4, 13, 252) [(0, 4, 22, 294)] rfl (fun z h => by
    rcases List.mem_cons.mp h with rfl | h
    · exact ⟨by decide, "java/lang/IllegalStateException", z_inT 835 (by decide +kernel) rfl, fun _ _ _ A => A.2.2.1⟩
    · exact nomatch h) ⟨by decide, by decide⟩ (by decide) (z_inT 836 (by decide +kernel) rfl) (z_inN 847 (by decide +kernel) rfl) fun q => ?_)
  dsimp only
  refine z_go OK C (i := .astore_n 1) (len := 1) (pc' := 14) (ls' := [some (.ref a), some (.ref q)]) (st' := []) (n' := n + 1) (k' := k + 6) (G' := G) (by decide +kernel) rfl hL ?_
  refine z_go OK C (i := .aload_n 0) (len := 1) (pc' := 15) (ls' := [some (.ref a), some (.ref q)]) (st' := [.ref a]) (n' := n + 1) (k' := k + 6) (G' := G) (by decide +kernel) rfl hL ?_
  refine z_go OK C (i := .getfield 291) (len := 3) (pc' := 18) (ls' := [some (.ref a), some (.ref q)]) (st' := [.int f]) (n' := n + 1) (k' := k + 6) (G' := G) (by decide +kernel) (show z_vl (z_gf G a (z_fe i_X_caughtFrom 291)) _ _ _ _ _ _ = _ by rw [show z_fe i_X_caughtFrom 291 = [1, 0, 7, 0, 2] from by decide +kernel, z_gfH hB (by omega) (by omega) rfl]; rfl) hL ?_
  refine z_go OK C (i := .bipush 100) (len := 2) (pc' := 20) (ls' := [some (.ref a), some (.ref q)]) (st' := [.int 100, .int f]) (n' := n + 1) (k' := k + 6) (G' := G) (by decide +kernel) rfl hL ?_
  refine z_go OK C (i := .iadd) (len := 1) (pc' := 21) (ls' := [some (.ref a), some (.ref q)]) (st' := [.int (f + 100)]) (n' := n + 1) (k' := k + 6) (G' := G) (by decide +kernel) rfl hL ?_
  exact hret 21 _ (by decide +kernel)
theorem c_6 (OK : z_OKall) {E : z_E} {a n k : Nat} {G : z_H} {x0 x2 x3 x4 : Value} {f p : Int32} (hB : G a = some (.inl (6, [x0, .int f, x2, x3, x4, .int p]))) (hf : ¬ f = 0) (l : Launch) (Amb : State → Heap → Prop) (n0 : Nat) (D : va_G) (hA : z_AmbOK n0 Amb) (hg : z_Gd0 l n0 Amb) : z_MetH l E Amb n0 D i_X_caughtFrom z_hh [.ref a] n k G (some (.int (f + 100))) (n + 1) (k + 6) G := by
  refine z_metH_of (le := [some (.ref a), none]) z_OKY_caught (by decide +kernel) rfl (Nat.le_succ _) (Nat.le_add_right _ _) ?_ l Amb n0 D hA hg
  intro X C hE hg hL hQ
  obtain ⟨hret, htb⟩ := hQ
  refine z_go OK C (i := .aload_n 0) (len := 1) (pc' := 1) (ls' := [some (.ref a), none]) (st' := [.ref a]) (n' := n) (k' := k) (G' := G) (by decide +kernel) rfl (hL.le (Nat.le_succ _) (Nat.le_add_right _ _)) ?_
  refine z_tcallU C hg hL (y := i_B1_fail) (ci := 6) (Cn := "BellThatIsADoor$Cough") (T0 := z_F6) (N0 := 6) (by unfold z_clsOf; rw [hB]) (by rfl) ⟨by decide +kernel, by decide +kernel⟩ (fun w h => (List.mem_append.mp (show w ∈ _ ++ _ from h)).elim (goodIn_of _ (by decide +kernel) w) (z_goodwd (z_inT 844 (by decide +kernel) rfl) w)) (fun l Amb n0 D hA hg => t_B1 OK (f := f) (z_gfH hB (by omega) (by omega) rfl) hf l Amb n0 D hA hg) (z_catch C hg htb [(0, 4, 7, 259)] (0, 4, 13, 252) [(0, 4, 22, 294)] rfl (fun z h => by
    rcases List.mem_cons.mp h with rfl | h
    · exact ⟨by decide, "java/lang/IllegalStateException", z_inT 835 (by decide +kernel) rfl, fun _ _ _ A => A.2.2.1⟩
    · exact nomatch h) ⟨by decide, by decide⟩ (by decide) (z_inT 836 (by decide +kernel) rfl) (z_inN 847 (by decide +kernel) rfl) fun q => ?_)
  dsimp only
  refine z_go OK C (i := .astore_n 1) (len := 1) (pc' := 14) (ls' := [some (.ref a), some (.ref q)]) (st' := []) (n' := n + 1) (k' := k + 6) (G' := G) (by decide +kernel) rfl hL ?_
  refine z_go OK C (i := .aload_n 0) (len := 1) (pc' := 15) (ls' := [some (.ref a), some (.ref q)]) (st' := [.ref a]) (n' := n + 1) (k' := k + 6) (G' := G) (by decide +kernel) rfl hL ?_
  refine z_go OK C (i := .getfield 291) (len := 3) (pc' := 18) (ls' := [some (.ref a), some (.ref q)]) (st' := [.int f]) (n' := n + 1) (k' := k + 6) (G' := G) (by decide +kernel) (show z_vl (z_gf G a (z_fe i_X_caughtFrom 291)) _ _ _ _ _ _ = _ by rw [show z_fe i_X_caughtFrom 291 = [1, 0, 7, 0, 2] from by decide +kernel, z_gfH hB (by omega) (by omega) rfl]; rfl) hL ?_
  refine z_go OK C (i := .bipush 100) (len := 2) (pc' := 20) (ls' := [some (.ref a), some (.ref q)]) (st' := [.int 100, .int f]) (n' := n + 1) (k' := k + 6) (G' := G) (by decide +kernel) rfl hL ?_
  refine z_go OK C (i := .iadd) (len := 1) (pc' := 21) (ls' := [some (.ref a), some (.ref q)]) (st' := [.int (f + 100)]) (n' := n + 1) (k' := k + 6) (G' := G) (by decide +kernel) rfl hL ?_
  exact hret 21 _ (by decide +kernel)
theorem c_7 (OK : z_OKall) {E : z_E} {a n k : Nat} {G : z_H} {x0 x2 x3 x4 : Value} {f p : Int32} (hB : G a = some (.inl (7, [x0, .int f, x2, x3, x4, .int p]))) (hf : ¬ f = 0) (l : Launch) (Amb : State → Heap → Prop) (n0 : Nat) (D : va_G) (hA : z_AmbOK n0 Amb) (hg : z_Gd0 l n0 Amb) : z_MetH l E Amb n0 D i_X_caughtFrom z_hh [.ref a] n k G (some (.int (p + 200))) (n + 1) (k + 6) G := by
  refine z_metH_of (le := [some (.ref a), none]) z_OKY_caught (by decide +kernel) rfl (Nat.le_succ _) (Nat.le_add_right _ _) ?_ l Amb n0 D hA hg
  intro X C hE hg hL hQ
  obtain ⟨hret, htb⟩ := hQ
  refine z_go OK C (i := .aload_n 0) (len := 1) (pc' := 1) (ls' := [some (.ref a), none]) (st' := [.ref a]) (n' := n) (k' := k) (G' := G) (by decide +kernel) rfl (hL.le (Nat.le_succ _) (Nat.le_add_right _ _)) ?_
  refine z_tcallU C hg hL (y := i_B7_fail) (ci := 7) (Cn := "BellThatIsADoor$Marble") (T0 := z_F7) (N0 := 6) (by unfold z_clsOf; rw [hB]) (by rfl) ⟨by decide +kernel, by decide +kernel⟩ (fun w h => (List.mem_append.mp (show w ∈ _ ++ _ from h)).elim (goodIn_of _ (by decide +kernel) w) (z_goodwd (z_inT 923 (by decide +kernel) rfl) w)) (fun l Amb n0 D hA hg => t_B7 OK (f := f) (z_gfH hB (by omega) (by omega) rfl) hf l Amb n0 D hA hg) (z_catch C hg htb [(0, 4, 7, 259), (0, 4, 13, 252)] (0, 4, 22, 294) [] rfl (fun z h => by
    rcases List.mem_cons.mp h with rfl | h
    · exact ⟨by decide, "java/lang/IllegalStateException", z_inT 835 (by decide +kernel) rfl, fun _ _ _ A => A.2.2.2.1⟩
    · rcases List.mem_cons.mp h with rfl | h
      · exact ⟨by decide, "java/lang/IllegalArgumentException", z_inT 836 (by decide +kernel) rfl, fun _ _ _ A => A.2.2.2.2.1⟩
      · exact nomatch h) ⟨by decide, by decide⟩ (by decide) (z_inT 837 (by decide +kernel) rfl) (z_inN 926 (by decide +kernel) rfl) fun q => ?_)
  dsimp only
  refine z_go OK C (i := .astore_n 1) (len := 1) (pc' := 23) (ls' := [some (.ref a), some (.ref q)]) (st' := []) (n' := n + 1) (k' := k + 6) (G' := G) (by decide +kernel) rfl hL ?_
  refine z_go OK C (i := .aload_n 0) (len := 1) (pc' := 24) (ls' := [some (.ref a), some (.ref q)]) (st' := [.ref a]) (n' := n + 1) (k' := k + 6) (G' := G) (by decide +kernel) rfl hL ?_
  refine z_go OK C (i := .getfield 279) (len := 3) (pc' := 27) (ls' := [some (.ref a), some (.ref q)]) (st' := [.int p]) (n' := n + 1) (k' := k + 6) (G' := G) (by decide +kernel) (show z_vl (z_gf G a (z_fe i_X_caughtFrom 279)) _ _ _ _ _ _ = _ by rw [show z_fe i_X_caughtFrom 279 = [5, 0, 7, 0, 0] from by decide +kernel, z_gfH hB (by omega) (by omega) rfl]; rfl) hL ?_
  refine z_go OK C (i := .sipush 200) (len := 3) (pc' := 30) (ls' := [some (.ref a), some (.ref q)]) (st' := [.int 200, .int p]) (n' := n + 1) (k' := k + 6) (G' := G) (by decide +kernel) rfl hL ?_
  refine z_go OK C (i := .iadd) (len := 1) (pc' := 31) (ls' := [some (.ref a), some (.ref q)]) (st' := [.int (p + 200)]) (n' := n + 1) (k' := k + 6) (G' := G) (by decide +kernel) rfl hL ?_
  exact hret 31 _ (by decide +kernel)
/-! NOT THROWN -/
theorem z_ncall0 {X : z_X} {a n k : Nat} {G : z_H} (C : z_Cx X i_X_caughtFrom 0) (hg : z_Gd z_Gd0 X) (hL : z_Lim X n k) (hci : z_clsOf G a = some 0)
    (hM : ∀ (l : Launch) (Amb : State → Heap → Prop) (n0 : Nat) (D : va_G), z_AmbOK n0 Amb → z_Gd0 l n0 Amb → z_Met l (z_Ex X) Amb n0 D i_B0_fail 0 [.ref a] n k G none n k G) (K : z_WW X 4 i_X_caughtFrom [some (.ref a), none] [] n k G) : z_WW X 1 i_X_caughtFrom [some (.ref a), none] [.ref a] n k G := by
  obtain ⟨p, l, e, R, s, m, args, below, meth, c, Q, D, n0, nst, kst, E, Amb⟩ := X
  obtain ⟨hx, hb, hr, hml, hown, hts, hin, hfr, hlo, hrk1, hNw, hA⟩ := C
  obtain ⟨hL1, hL2⟩ : n ≤ nst + R.cells ∧ k ≤ kst + R.slots := hL
  have hM := hM l Amb n0 D hA hg
  have hr7 : z_rk i_X_caughtFrom = 7 := by decide +kernel
  intro H locs lsA cells slots hl hR hq hc hs
  have S : CallFix p m c (z_by i_X_caughtFrom) (z_ml i_X_caughtFrom) s args z_T (z_nm i_X_caughtFrom).cls := ⟨hx, hb, hml, hown, hts⟩
  have hpre : ∀ U : State, U.heap = H → s.WarmedH U.vm → z_Pc E Amb n0 D [.ref a] n G #[Value.ref a] U := fun U hU hW => ⟨rfl, by rw [hU]; exact z_Rel.moved hA hW.alike hR, z_Nw.warm hW hNw⟩
  refine z_after (av := #[Value.ref a]) (v := none) (rest := []) hA (Nat.le_refl _) (Nat.le_refl _) K hl hq hc hs ?_
  refine va_runV (As := []) (C := (z_nm i_B0_fail).cls) S hM ⟨callB_of 0 hts (z_goodwd (z_inT 941 (by decide +kernel) rfl)) rfl rfl rfl (hts _ (z_inT 47 (by decide +kernel) rfl)) (hts _ (z_inT 838 (by decide +kernel) rfl)) ⟨by decide +kernel, by decide +kernel, by decide +kernel⟩ ⟨?_, ?_⟩, hts _ (z_inT 839 (by decide +kernel) rfl), hts _ (z_inT 840 (by decide +kernel) rfl)⟩ ⟨z_blind hA, z_recv hR (T := z_F0) (N := 6) (by rfl) hci, hpre⟩ rfl rfl hl.1.1 rfl (by show 0 + 0 ≤ 8; omega) (show decode (z_by i_X_caughtFrom) 1 = .ok (.invokevirtual 288, 3) by decide +kernel) ⟨by omega, by omega⟩
  · show z_rk i_B0_fail + 0 + 1 ≤ R.frames
    have : z_rk i_B0_fail = 6 := by decide +kernel
    omega
  · show 8 + (z_ml i_B0_fail + 11) + 40 * (z_rk i_B0_fail + 0) ≤ R.locals
    have : z_rk i_B0_fail = 6 := by decide +kernel
    have : z_ml i_B0_fail = 1 := by decide +kernel
    omega
theorem z_ncallU {X : z_X} {y ci : Nat} {Cn : String} {T0 : u_T} {N0 : Nat} {a n k : Nat} {G : z_H} (C : z_Cx X i_X_caughtFrom 0) (hg : z_Gd z_Gd0 X) (hL : z_Lim X n k) (hci : z_clsOf G a = some ci) (hcl : z_cl[ci]? = some (Cn, T0, N0)) (hy : z_rk y = 6 ∧ z_ml y = 1)
    (hG : GoodIn z_T (va_wsO (z_nm i_X_caughtFrom).cls 288 Cn "BellThatIsADoor$Bell" (z_nm i_B0_fail) (z_nm y) (z_wd y)))
    (hM : ∀ (l : Launch) (Amb : State → Heap → Prop) (n0 : Nat) (D : va_G), z_AmbOK n0 Amb → z_Gd0 l n0 Amb → z_Met l (z_Ex X) Amb n0 D y 0 [.ref a] n k G none n k G) (K : z_WW X 4 i_X_caughtFrom [some (.ref a), none] [] n k G) : z_WW X 1 i_X_caughtFrom [some (.ref a), none] [.ref a] n k G := by
  obtain ⟨p, l, e, R, s, m, args, below, meth, c, Q, D, n0, nst, kst, E, Amb⟩ := X
  obtain ⟨hx, hb, hr, hml, hown, hts, hin, hfr, hlo, hrk1, hNw, hA⟩ := C
  obtain ⟨hL1, hL2⟩ : n ≤ nst + R.cells ∧ k ≤ kst + R.slots := hL
  have hM := hM l Amb n0 D hA hg
  have hr7 : z_rk i_X_caughtFrom = 7 := by decide +kernel
  obtain ⟨hy1, hy2⟩ := hy
  intro H locs lsA cells slots hl hR hq hc hs
  have S : CallFix p m c (z_by i_X_caughtFrom) (z_ml i_X_caughtFrom) s args z_T (z_nm i_X_caughtFrom).cls := ⟨hx, hb, hml, hown, hts⟩
  have hpre : ∀ U : State, U.heap = H → s.WarmedH U.vm → z_Pc E Amb n0 D [.ref a] n G #[Value.ref a] U := fun U hU hW => ⟨rfl, by rw [hU]; exact z_Rel.moved hA hW.alike hR, z_Nw.warm hW hNw⟩
  refine z_after (av := #[Value.ref a]) (v := none) (rest := []) hA (Nat.le_refl _) (Nat.le_refl _) K hl hq hc hs ?_
  refine va_runU (As := []) (C := Cn) (owner := "BellThatIsADoor$Bell") (x := z_nm i_B0_fail) S hM (va_cwO 0 hts hG rfl rfl rfl (b0 := z_by i_B0_fail) (m0 := z_ml i_B0_fail) (r0 := z_rt i_B0_fail) (z_inT 941 (by decide +kernel) rfl) ⟨by decide +kernel, by decide +kernel, by decide +kernel⟩ ⟨?_, ?_⟩) ⟨z_blind hA, z_recv hR hcl hci, hpre⟩ rfl rfl hl.1.1 rfl (by show 0 + 0 ≤ 8; omega) (show decode (z_by i_X_caughtFrom) 1 = .ok (.invokevirtual 288, 3) by decide +kernel) ⟨by omega, by omega⟩
  · show z_rk y + 0 + 1 ≤ R.frames
    omega
  · show 8 + (z_ml y + 11) + 40 * (z_rk y + 0) ≤ R.locals
    omega
theorem n_0 (OK : z_OKall) {E : z_E} {a n k : Nat} {G : z_H} {x0 x1 x2 x3 x4 x5 : Value} (hB : G a = some (.inl (0, [x0, .int 0, x2, x3, x4, x5]))) (l : Launch) (Amb : State → Heap → Prop) (n0 : Nat) (D : va_G) (hA : z_AmbOK n0 Amb) (hg : z_Gd0 l n0 Amb) : z_MetH l E Amb n0 D i_X_caughtFrom z_hh [.ref a] n k G (some (.int (-15))) n k G := by
  refine z_metH_of (le := [some (.ref a), none]) z_OKY_caught (by decide +kernel) rfl (Nat.le_refl _) (Nat.le_refl _) ?_ l Amb n0 D hA hg
  intro X C hE hg hL hQ
  obtain ⟨hret, htb⟩ := hQ
  refine z_go OK C (i := .aload_n 0) (len := 1) (pc' := 1) (ls' := [some (.ref a), none]) (st' := [.ref a]) (n' := n) (k' := k) (G' := G) (by decide +kernel) rfl hL ?_
  refine z_ncall0 C hg hL (by unfold z_clsOf; rw [hB]) (fun l Amb n0 D hA hg => z_met_ev OK z_prim_low (by decide +kernel) ⟨by decide +kernel, by decide +kernel, by decide +kernel, fun h => absurd h (by decide +kernel)⟩ (by decide +kernel) (e_B0 (z_gfH hB (by omega) (by omega) rfl)) l Amb n0 D hA hg) ?_
  · refine z_go OK C (i := .goto 28) (len := 3) (pc' := 32) (ls' := [some (.ref a), none]) (st' := []) (n' := n) (k' := k) (G' := G) (by decide +kernel) rfl hL ?_
    refine z_go OK C (i := .bipush (-15)) (len := 2) (pc' := 34) (ls' := [some (.ref a), none]) (st' := [.int (-15)]) (n' := n) (k' := k) (G' := G) (by decide +kernel) rfl hL ?_
    exact hret 34 _ (by decide +kernel)
theorem n_1 (OK : z_OKall) {E : z_E} {a n k : Nat} {G : z_H} {x0 x1 x2 x3 x4 x5 : Value} (hB : G a = some (.inl (1, [x0, x1, x2, x3, x4, x5]))) (l : Launch) (Amb : State → Heap → Prop) (n0 : Nat) (D : va_G) (hA : z_AmbOK n0 Amb) (hg : z_Gd0 l n0 Amb) : z_MetH l E Amb n0 D i_X_caughtFrom z_hh [.ref a] n k G (some (.int (-15))) n k G := by
  refine z_metH_of (le := [some (.ref a), none]) z_OKY_caught (by decide +kernel) rfl (Nat.le_refl _) (Nat.le_refl _) ?_ l Amb n0 D hA hg
  intro X C hE hg hL hQ
  obtain ⟨hret, htb⟩ := hQ
  refine z_go OK C (i := .aload_n 0) (len := 1) (pc' := 1) (ls' := [some (.ref a), none]) (st' := [.ref a]) (n' := n) (k' := k) (G' := G) (by decide +kernel) rfl hL ?_
  refine z_ncallU C hg hL (y := i_B2_fail) (ci := 1) (Cn := "BellThatIsADoor$Hen") (T0 := z_F1) (N0 := 6) (by unfold z_clsOf; rw [hB]) (by rfl) ⟨by decide +kernel, by decide +kernel⟩ (fun w h => (List.mem_append.mp (show w ∈ _ ++ _ from h)).elim (goodIn_of _ (by decide +kernel) w) (z_goodwd (z_inT 919 (by decide +kernel) rfl) w)) (fun l Amb n0 D hA hg => z_met_ev OK z_prim_low (by decide +kernel) ⟨by decide +kernel, by decide +kernel, by decide +kernel, fun h => absurd h (by decide +kernel)⟩ (by decide +kernel) (e_B2) l Amb n0 D hA hg) ?_
  · refine z_go OK C (i := .goto 28) (len := 3) (pc' := 32) (ls' := [some (.ref a), none]) (st' := []) (n' := n) (k' := k) (G' := G) (by decide +kernel) rfl hL ?_
    refine z_go OK C (i := .bipush (-15)) (len := 2) (pc' := 34) (ls' := [some (.ref a), none]) (st' := [.int (-15)]) (n' := n) (k' := k) (G' := G) (by decide +kernel) rfl hL ?_
    exact hret 34 _ (by decide +kernel)
theorem n_2 (OK : z_OKall) {E : z_E} {a n k : Nat} {G : z_H} {x0 x1 x2 x3 x4 x5 : Value} (hB : G a = some (.inl (2, [x0, x1, x2, x3, x4, x5]))) (l : Launch) (Amb : State → Heap → Prop) (n0 : Nat) (D : va_G) (hA : z_AmbOK n0 Amb) (hg : z_Gd0 l n0 Amb) : z_MetH l E Amb n0 D i_X_caughtFrom z_hh [.ref a] n k G (some (.int (-15))) n k G := by
  refine z_metH_of (le := [some (.ref a), none]) z_OKY_caught (by decide +kernel) rfl (Nat.le_refl _) (Nat.le_refl _) ?_ l Amb n0 D hA hg
  intro X C hE hg hL hQ
  obtain ⟨hret, htb⟩ := hQ
  refine z_go OK C (i := .aload_n 0) (len := 1) (pc' := 1) (ls' := [some (.ref a), none]) (st' := [.ref a]) (n' := n) (k' := k) (G' := G) (by decide +kernel) rfl hL ?_
  refine z_ncallU C hg hL (y := i_B6_fail) (ci := 2) (Cn := "BellThatIsADoor$Echo") (T0 := z_F2) (N0 := 6) (by unfold z_clsOf; rw [hB]) (by rfl) ⟨by decide +kernel, by decide +kernel⟩ (fun w h => (List.mem_append.mp (show w ∈ _ ++ _ from h)).elim (goodIn_of _ (by decide +kernel) w) (z_goodwd (z_inT 916 (by decide +kernel) rfl) w)) (fun l Amb n0 D hA hg => z_met_ev OK z_prim_low (by decide +kernel) ⟨by decide +kernel, by decide +kernel, by decide +kernel, fun h => absurd h (by decide +kernel)⟩ (by decide +kernel) (e_B6) l Amb n0 D hA hg) ?_
  · refine z_go OK C (i := .goto 28) (len := 3) (pc' := 32) (ls' := [some (.ref a), none]) (st' := []) (n' := n) (k' := k) (G' := G) (by decide +kernel) rfl hL ?_
    refine z_go OK C (i := .bipush (-15)) (len := 2) (pc' := 34) (ls' := [some (.ref a), none]) (st' := [.int (-15)]) (n' := n) (k' := k) (G' := G) (by decide +kernel) rfl hL ?_
    exact hret 34 _ (by decide +kernel)
theorem n_3 (OK : z_OKall) {E : z_E} {a n k : Nat} {G : z_H} {x0 x1 x2 x3 x4 x5 : Value} (hB : G a = some (.inl (3, [x0, .int 0, x2, x3, x4, x5]))) (l : Launch) (Amb : State → Heap → Prop) (n0 : Nat) (D : va_G) (hA : z_AmbOK n0 Amb) (hg : z_Gd0 l n0 Amb) : z_MetH l E Amb n0 D i_X_caughtFrom z_hh [.ref a] n k G (some (.int (-15))) n k G := by
  refine z_metH_of (le := [some (.ref a), none]) z_OKY_caught (by decide +kernel) rfl (Nat.le_refl _) (Nat.le_refl _) ?_ l Amb n0 D hA hg
  intro X C hE hg hL hQ
  obtain ⟨hret, htb⟩ := hQ
  refine z_go OK C (i := .aload_n 0) (len := 1) (pc' := 1) (ls' := [some (.ref a), none]) (st' := [.ref a]) (n' := n) (k' := k) (G' := G) (by decide +kernel) rfl hL ?_
  refine z_ncallU C hg hL (y := i_B1_fail) (ci := 3) (Cn := "BellThatIsADoor$Door") (T0 := z_F3) (N0 := 6) (by unfold z_clsOf; rw [hB]) (by rfl) ⟨by decide +kernel, by decide +kernel⟩ (fun w h => (List.mem_append.mp (show w ∈ _ ++ _ from h)).elim (goodIn_of _ (by decide +kernel) w) (z_goodwd (z_inT 844 (by decide +kernel) rfl) w)) (fun l Amb n0 D hA hg => z_met_ev OK z_prim_low (by decide +kernel) ⟨by decide +kernel, by decide +kernel, by decide +kernel, fun h => absurd h (by decide +kernel)⟩ (by decide +kernel) (e_B1 (z_gfH hB (by omega) (by omega) rfl)) l Amb n0 D hA hg) ?_
  · refine z_go OK C (i := .goto 28) (len := 3) (pc' := 32) (ls' := [some (.ref a), none]) (st' := []) (n' := n) (k' := k) (G' := G) (by decide +kernel) rfl hL ?_
    refine z_go OK C (i := .bipush (-15)) (len := 2) (pc' := 34) (ls' := [some (.ref a), none]) (st' := [.int (-15)]) (n' := n) (k' := k) (G' := G) (by decide +kernel) rfl hL ?_
    exact hret 34 _ (by decide +kernel)
theorem n_4 (OK : z_OKall) {E : z_E} {a n k : Nat} {G : z_H} {x0 x1 x2 x3 x4 x5 : Value} (hB : G a = some (.inl (4, [x0, .int 0, x2, x3, x4, x5]))) (l : Launch) (Amb : State → Heap → Prop) (n0 : Nat) (D : va_G) (hA : z_AmbOK n0 Amb) (hg : z_Gd0 l n0 Amb) : z_MetH l E Amb n0 D i_X_caughtFrom z_hh [.ref a] n k G (some (.int (-15))) n k G := by
  refine z_metH_of (le := [some (.ref a), none]) z_OKY_caught (by decide +kernel) rfl (Nat.le_refl _) (Nat.le_refl _) ?_ l Amb n0 D hA hg
  intro X C hE hg hL hQ
  obtain ⟨hret, htb⟩ := hQ
  refine z_go OK C (i := .aload_n 0) (len := 1) (pc' := 1) (ls' := [some (.ref a), none]) (st' := [.ref a]) (n' := n) (k' := k) (G' := G) (by decide +kernel) rfl hL ?_
  refine z_ncallU C hg hL (y := i_B1_fail) (ci := 4) (Cn := "BellThatIsADoor$Maid") (T0 := z_F4) (N0 := 6) (by unfold z_clsOf; rw [hB]) (by rfl) ⟨by decide +kernel, by decide +kernel⟩ (fun w h => (List.mem_append.mp (show w ∈ _ ++ _ from h)).elim (goodIn_of _ (by decide +kernel) w) (z_goodwd (z_inT 844 (by decide +kernel) rfl) w)) (fun l Amb n0 D hA hg => z_met_ev OK z_prim_low (by decide +kernel) ⟨by decide +kernel, by decide +kernel, by decide +kernel, fun h => absurd h (by decide +kernel)⟩ (by decide +kernel) (e_B1 (z_gfH hB (by omega) (by omega) rfl)) l Amb n0 D hA hg) ?_
  · refine z_go OK C (i := .goto 28) (len := 3) (pc' := 32) (ls' := [some (.ref a), none]) (st' := []) (n' := n) (k' := k) (G' := G) (by decide +kernel) rfl hL ?_
    refine z_go OK C (i := .bipush (-15)) (len := 2) (pc' := 34) (ls' := [some (.ref a), none]) (st' := [.int (-15)]) (n' := n) (k' := k) (G' := G) (by decide +kernel) rfl hL ?_
    exact hret 34 _ (by decide +kernel)
theorem n_5 (OK : z_OKall) {E : z_E} {a n k : Nat} {G : z_H} {x0 x1 x2 x3 x4 x5 : Value} (hB : G a = some (.inl (5, [x0, .int 0, x2, x3, x4, x5]))) (l : Launch) (Amb : State → Heap → Prop) (n0 : Nat) (D : va_G) (hA : z_AmbOK n0 Amb) (hg : z_Gd0 l n0 Amb) : z_MetH l E Amb n0 D i_X_caughtFrom z_hh [.ref a] n k G (some (.int (-15))) n k G := by
  refine z_metH_of (le := [some (.ref a), none]) z_OKY_caught (by decide +kernel) rfl (Nat.le_refl _) (Nat.le_refl _) ?_ l Amb n0 D hA hg
  intro X C hE hg hL hQ
  obtain ⟨hret, htb⟩ := hQ
  refine z_go OK C (i := .aload_n 0) (len := 1) (pc' := 1) (ls' := [some (.ref a), none]) (st' := [.ref a]) (n' := n) (k' := k) (G' := G) (by decide +kernel) rfl hL ?_
  refine z_ncallU C hg hL (y := i_B1_fail) (ci := 5) (Cn := "BellThatIsADoor$Suited") (T0 := z_F5) (N0 := 6) (by unfold z_clsOf; rw [hB]) (by rfl) ⟨by decide +kernel, by decide +kernel⟩ (fun w h => (List.mem_append.mp (show w ∈ _ ++ _ from h)).elim (goodIn_of _ (by decide +kernel) w) (z_goodwd (z_inT 844 (by decide +kernel) rfl) w)) (fun l Amb n0 D hA hg => z_met_ev OK z_prim_low (by decide +kernel) ⟨by decide +kernel, by decide +kernel, by decide +kernel, fun h => absurd h (by decide +kernel)⟩ (by decide +kernel) (e_B1 (z_gfH hB (by omega) (by omega) rfl)) l Amb n0 D hA hg) ?_
  · refine z_go OK C (i := .goto 28) (len := 3) (pc' := 32) (ls' := [some (.ref a), none]) (st' := []) (n' := n) (k' := k) (G' := G) (by decide +kernel) rfl hL ?_
    refine z_go OK C (i := .bipush (-15)) (len := 2) (pc' := 34) (ls' := [some (.ref a), none]) (st' := [.int (-15)]) (n' := n) (k' := k) (G' := G) (by decide +kernel) rfl hL ?_
    exact hret 34 _ (by decide +kernel)
theorem n_6 (OK : z_OKall) {E : z_E} {a n k : Nat} {G : z_H} {x0 x1 x2 x3 x4 x5 : Value} (hB : G a = some (.inl (6, [x0, .int 0, x2, x3, x4, x5]))) (l : Launch) (Amb : State → Heap → Prop) (n0 : Nat) (D : va_G) (hA : z_AmbOK n0 Amb) (hg : z_Gd0 l n0 Amb) : z_MetH l E Amb n0 D i_X_caughtFrom z_hh [.ref a] n k G (some (.int (-15))) n k G := by
  refine z_metH_of (le := [some (.ref a), none]) z_OKY_caught (by decide +kernel) rfl (Nat.le_refl _) (Nat.le_refl _) ?_ l Amb n0 D hA hg
  intro X C hE hg hL hQ
  obtain ⟨hret, htb⟩ := hQ
  refine z_go OK C (i := .aload_n 0) (len := 1) (pc' := 1) (ls' := [some (.ref a), none]) (st' := [.ref a]) (n' := n) (k' := k) (G' := G) (by decide +kernel) rfl hL ?_
  refine z_ncallU C hg hL (y := i_B1_fail) (ci := 6) (Cn := "BellThatIsADoor$Cough") (T0 := z_F6) (N0 := 6) (by unfold z_clsOf; rw [hB]) (by rfl) ⟨by decide +kernel, by decide +kernel⟩ (fun w h => (List.mem_append.mp (show w ∈ _ ++ _ from h)).elim (goodIn_of _ (by decide +kernel) w) (z_goodwd (z_inT 844 (by decide +kernel) rfl) w)) (fun l Amb n0 D hA hg => z_met_ev OK z_prim_low (by decide +kernel) ⟨by decide +kernel, by decide +kernel, by decide +kernel, fun h => absurd h (by decide +kernel)⟩ (by decide +kernel) (e_B1 (z_gfH hB (by omega) (by omega) rfl)) l Amb n0 D hA hg) ?_
  · refine z_go OK C (i := .goto 28) (len := 3) (pc' := 32) (ls' := [some (.ref a), none]) (st' := []) (n' := n) (k' := k) (G' := G) (by decide +kernel) rfl hL ?_
    refine z_go OK C (i := .bipush (-15)) (len := 2) (pc' := 34) (ls' := [some (.ref a), none]) (st' := [.int (-15)]) (n' := n) (k' := k) (G' := G) (by decide +kernel) rfl hL ?_
    exact hret 34 _ (by decide +kernel)
theorem n_7 (OK : z_OKall) {E : z_E} {a n k : Nat} {G : z_H} {x0 x1 x2 x3 x4 x5 : Value} (hB : G a = some (.inl (7, [x0, .int 0, x2, x3, x4, x5]))) (l : Launch) (Amb : State → Heap → Prop) (n0 : Nat) (D : va_G) (hA : z_AmbOK n0 Amb) (hg : z_Gd0 l n0 Amb) : z_MetH l E Amb n0 D i_X_caughtFrom z_hh [.ref a] n k G (some (.int (-15))) n k G := by
  refine z_metH_of (le := [some (.ref a), none]) z_OKY_caught (by decide +kernel) rfl (Nat.le_refl _) (Nat.le_refl _) ?_ l Amb n0 D hA hg
  intro X C hE hg hL hQ
  obtain ⟨hret, htb⟩ := hQ
  refine z_go OK C (i := .aload_n 0) (len := 1) (pc' := 1) (ls' := [some (.ref a), none]) (st' := [.ref a]) (n' := n) (k' := k) (G' := G) (by decide +kernel) rfl hL ?_
  refine z_ncallU C hg hL (y := i_B7_fail) (ci := 7) (Cn := "BellThatIsADoor$Marble") (T0 := z_F7) (N0 := 6) (by unfold z_clsOf; rw [hB]) (by rfl) ⟨by decide +kernel, by decide +kernel⟩ (fun w h => (List.mem_append.mp (show w ∈ _ ++ _ from h)).elim (goodIn_of _ (by decide +kernel) w) (z_goodwd (z_inT 923 (by decide +kernel) rfl) w)) (fun l Amb n0 D hA hg => z_met_ev OK z_prim_low (by decide +kernel) ⟨by decide +kernel, by decide +kernel, by decide +kernel, fun h => absurd h (by decide +kernel)⟩ (by decide +kernel) (e_B7 (z_gfH hB (by omega) (by omega) rfl)) l Amb n0 D hA hg) ?_
  · refine z_go OK C (i := .goto 28) (len := 3) (pc' := 32) (ls' := [some (.ref a), none]) (st' := []) (n' := n) (k' := k) (G' := G) (by decide +kernel) rfl hL ?_
    refine z_go OK C (i := .bipush (-15)) (len := 2) (pc' := 34) (ls' := [some (.ref a), none]) (st' := [.int (-15)]) (n' := n) (k' := k) (G' := G) (by decide +kernel) rfl hL ?_
    exact hret 34 _ (by decide +kernel)
/-! THE PRIMITIVE caughtFrom -/
theorem vx_toRun {p : Program} {l : Launch} {e : Env} {R : Room} {s : State} {m : MethodId} {args : Array Value} {below : List Frame} {meth : Method} {c : Code} {H : Heap} {locs : List Loc} {cells slots mc ms : Nat} {g : JFrame} {rest : List Value} {Qa : State → Outcome → State → Prop} {free : Addr → Prop} (hr : vx_Run p l e R s m args below meth c H locs cells slots mc ms g rest Qa (fun _ _ _ => False) free) : va_Run p l e R s m args below meth c H locs cells slots mc ms g rest Qa free := by
  intro T hT X
  rcases hr T hT X with h | ⟨q, st₀, t, T', L, E', ce, h0, X', hL, e1, e2, hF, -⟩
  · exact h
  · exact hF.elim
theorem z_goodH {y : Nat} {hh : List (Nat × Nat × Nat × Nat)} (h : Jvm.Cond.codeWith (z_nm y) (z_by y) (z_ml y) (z_rt y) hh ∈ z_T) : GoodIn z_T (z_wdH y hh) := by
  intro w hw
  have hm : w ∈ z_T := by
    rcases List.mem_cons.mp hw with e | e
    · rw [e]; exact h
    · exact e
  exact ⟨hm, good_of_word (List.mem_filter.mp hm).2⟩
theorem z_p1000 (OK : z_OKall) {X : z_X} {mid lev pc : Nat} {ls : z_L} {st : List Value} {n k : Nat} {G : z_H} {as rest : List Value} {v : Option Value} {n1 k1 : Nat} {G1 : z_H} (C : z_Cx X mid lev) (hg : z_Gd z_Gd0 X) (hcls : (z_nm mid).cls = "BellThatIsADoor") (hi : z_ins mid pc = some (.invokestatic 282, 3)) (h8 : 8 ≤ z_rk mid + lev) (hst : st = as.reverse ++ rest) (hl4 : rest.length ≤ 4)
    (hp : z_prim 1000 as n k G = some (v, n1, k1, G1)) (hL : z_Lim X n1 k1) (kk : z_WW X (pc + 3) mid ls (z_pu v rest) n1 k1 G1) : z_WW X pc mid ls st n k G := by
  have key : ∃ a, as = [.ref a] ∧ ∀ (l : Launch) (Amb : State → Heap → Prop) (n0 : Nat) (D : va_G), z_AmbOK n0 Amb → z_Gd0 l n0 Amb → z_MetH l (z_Ex X) Amb n0 D i_X_caughtFrom z_hh [.ref a] n k G v n1 k1 G1 := by
    unfold z_prim at hp
    rw [if_pos rfl] at hp
    split at hp
    · next a =>
      split at hp
      · next ci x0 f x2 x3 x4 p hB =>
        refine ⟨a, rfl, ?_⟩
        by_cases h7 : 7 < ci
        · rw [if_pos h7] at hp; cases hp
        · rw [if_neg h7] at hp
          have hci : ci = 0 ∨ ci = 1 ∨ ci = 2 ∨ ci = 3 ∨ ci = 4 ∨ ci = 5 ∨ ci = 6 ∨ ci = 7 := by omega
          by_cases hn : f = 0 ∨ ci = 1 ∨ ci = 2
          · rw [if_pos hn] at hp
            cases hp
            have h0 : ¬ ci = 1 → ¬ ci = 2 → f = 0 := fun h1 h2 => by
              rcases hn with h | h | h
              · exact h
              · exact absurd h h1
              · exact absurd h h2
            rcases hci with rfl | rfl | rfl | rfl | rfl | rfl | rfl | rfl
            · rw [h0 (by decide) (by decide)] at hB; exact n_0 OK (x1 := .null) hB
            · exact n_1 OK hB
            · exact n_2 OK hB
            · rw [h0 (by decide) (by decide)] at hB; exact n_3 OK (x1 := .null) hB
            · rw [h0 (by decide) (by decide)] at hB; exact n_4 OK (x1 := .null) hB
            · rw [h0 (by decide) (by decide)] at hB; exact n_5 OK (x1 := .null) hB
            · rw [h0 (by decide) (by decide)] at hB; exact n_6 OK (x1 := .null) hB
            · rw [h0 (by decide) (by decide)] at hB; exact n_7 OK (x1 := .null) hB
          · rw [if_neg hn] at hp
            have hf : ¬ f = 0 := fun h => hn (Or.inl h)
            rcases hci with rfl | rfl | rfl | rfl | rfl | rfl | rfl | rfl
            · rw [if_pos rfl] at hp; cases hp; exact c_0 OK hB hf
            · exact absurd (Or.inr (Or.inl rfl)) hn
            · exact absurd (Or.inr (Or.inr rfl)) hn
            · rw [if_neg (by decide), if_neg (by decide)] at hp; cases hp; exact c_3 OK hB hf
            · rw [if_neg (by decide), if_neg (by decide)] at hp; cases hp; exact c_4 OK hB hf
            · rw [if_neg (by decide), if_neg (by decide)] at hp; cases hp; exact c_5 OK hB hf
            · rw [if_neg (by decide), if_neg (by decide)] at hp; cases hp; exact c_6 OK hB hf
            · rw [if_neg (by decide), if_pos rfl] at hp; cases hp; exact c_7 OK hB hf
      · cases hp
    · cases hp
  obtain ⟨hn, hk⟩ := z_prim_mono hp
  obtain ⟨a, rfl, hM⟩ := key
  obtain ⟨p, l, e, R, s, m, args, below, meth, c, Q, D, n0, nst, kst, E, Amb⟩ := X
  obtain ⟨hx, hb, hr, hml, hown, hts, hin, hfr, hlo, hrk1, hNw, hA⟩ := C
  obtain ⟨hL1, hL2⟩ : n1 ≤ nst + R.cells ∧ k1 ≤ kst + R.slots := hL
  have hM := hM l Amb n0 D hA hg
  have hr7 : z_rk i_X_caughtFrom = 7 := by decide +kernel
  have hm2 : z_ml i_X_caughtFrom = 2 := by decide +kernel
  intro H locs lsA cells slots hl hR hq hc hs
  rw [hcls] at hown
  have S : CallFix p m c (z_by mid) (z_ml mid) s args z_T "BellThatIsADoor" := ⟨hx, hb, hml, hown, hts⟩
  have hpre : ∀ U : State, U.heap = H → s.WarmedH U.vm → z_Pc E Amb n0 D [.ref a] n G #[Value.ref a] U := fun U hU hW => ⟨rfl, by rw [hU]; exact z_Rel.moved hA hW.alike hR, z_Nw.warm hW hNw⟩
  refine z_after (av := #[Value.ref a]) (v := v) (rest := rest) hA hn hk kk hl hq hc hs (vx_toRun ?_)
  have hG : GoodIn z_T (va_wsS "BellThatIsADoor" 282 (z_nm i_X_caughtFrom) (z_wdH i_X_caughtFrom z_hh)) := fun w h => (List.mem_append.mp (show w ∈ _ ++ _ from h)).elim (goodIn_of _ (by decide +kernel) w) (z_goodH (z_inT 834 (by decide +kernel) rfl) w)
  refine vx_runSX (As := [.ref a]) S hM (vx_cwSW 1 hts hG rfl rfl rfl ⟨by decide +kernel, by decide +kernel, by decide +kernel⟩ ⟨?_, ?_⟩) ⟨z_blind hA, hpre⟩ rfl rfl hl.1.1 hst (lv_room (z_cat8 hl4)) (z_insd hi).1 ⟨by omega, by omega⟩
  · show z_rk i_X_caughtFrom + 1 ≤ R.frames
    omega
  · show 8 + (z_ml i_X_caughtFrom + 11) + 40 * z_rk i_X_caughtFrom ≤ R.locals
    omega
