/-! WHAT THROWS: the launch, the statics, contracts that throw -/
def z_Amb (n0 : Nat) (U : State) (H : Heap) : Prop :=
  vx_Zq Bundle.tN "UNASSIGNED_STACK" Bundle.steD (fun q => n0 ≤ q) U H ∧ vx_Zq Bundle.tN "SUPPRESSED_SENTINEL" Bundle.listD (fun q => n0 ≤ q) U H ∧ va_Nc "java/lang/IllegalArgumentException" "java/lang/IllegalStateException" U ∧ va_Nc "java/lang/UnsupportedOperationException" "java/lang/IllegalStateException" U ∧ va_Nc "java/lang/UnsupportedOperationException" "java/lang/IllegalArgumentException" U ∧ va_Nc "java/lang/IllegalStateException" "java/lang/IllegalArgumentException" U
theorem z_Amb_ok (n0 : Nat) : z_AmbOK n0 (z_Amb n0) := ⟨fun u U H h a => ⟨vx_Zq.moved h a.1, vx_Zq.moved h a.2.1, va_Nc.moved h a.2.2.1, va_Nc.moved h a.2.2.2.1, va_Nc.moved h a.2.2.2.2.1, va_Nc.moved h a.2.2.2.2.2⟩, fun U H H1 a hz hq => ⟨a.1.kept fun b _ h2 => hq b (Nat.lt_of_not_le h2), a.2.1.kept fun b _ h2 => hq b (Nat.lt_of_not_le h2), a.2.2⟩⟩
def z_Gd0 : Launch → Nat → (State → Heap → Prop) → Prop := fun l n0 Amb => l.stackTraces = false ∧ Amb = z_Amb n0
def z_XC (E : z_E) (Amb : State → Heap → Prop) (n0 : Nat) (D : va_G) (cn : String) (n : Nat) (G : z_H) : String → State → State → Prop := fun C _ t => C = cn ∧ z_Rel E Amb n0 D t n G t.heap
def z_MetT (l : Launch) (E : z_E) (Amb : State → Heap → Prop) (n0 : Nat) (D : va_G) (y lev : Nat) (as : List Value) (n : Nat) (G : z_H) (cn : String) : Prop :=
  vx_Met l (z_nm y) (z_wd y) (z_room (z_rk y + lev) 1 6) (z_Pc E Amb n0 D as n G) (fun _ _ _ _ => False) (z_XC E Amb n0 D cn (n + 1) G) 1 6 (fun q => n0 ≤ q)
def z_TQ : z_X → Nat → Nat → z_H → String → Prop := fun (_, _, _, _, s, _, args, below, meth, c, Q, D, n0, nst, kst, E, Amb) n k G cn =>
  Q = vx_MQ below (fun _ _ _ _ => False) (z_XC E Amb n0 D cn (n + 1) G) args s 1 6 (fun q => n0 ≤ q) ∧ nst = n ∧ kst = k ∧ (∀ x ∈ c.exceptionTable.toList, False) ∧ meth.locks = false
theorem z_str {s : State} (hNw : z_Nw s) {own tx : String} {k i : Nat} (h : lw_tbl[i]? = some (.stringRef own k tx)) : ∃ a, vk_R own k tx a s := by
  have h1 : (Cond.stringRef own k tx).before #[] s = true := hNw _ (z_inN i h rfl)
  have hcur : ∃ cur, s.vm.findClass own = some cur := by
    have h1 := h1
    simp only [Cond.before, Cond.holds, Cond.value] at h1
    cases hc : s.vm.findClass own with
    | none => simp [hc] at h1
    | some cur => exact ⟨cur, rfl⟩
  obtain ⟨cur, hcur⟩ := hcur
  obtain ⟨-, -, -, a, -, -, -, -, -, hev⟩ := Cond.stringRef_spec hcur h1
  exact ⟨a, h1, hev⟩
theorem z_hat {args : Array Value} {s : State} (hts : ∀ w ∈ z_T, w.before args s = true) (hNw : z_Nw s) {own cn : String} {ic : Nat} {names : List String} (h1 : ∀ w ∈ (vx_atS own ic cn names).filter goodWord, w ∈ lw_tbl) (h2 : ∀ w ∈ (vx_atS own ic cn names).filter (fun w => !goodWord w), w ∈ z_N) (h3 : ∀ w ∈ vx_atS own ic cn names, vx_ot w = true) : ∀ w ∈ vx_atS own ic cn names, w.before args s = true := by
  intro w hw
  cases g : goodWord w with
  | true => exact hts w (List.mem_filter.mpr ⟨h1 w (List.mem_filter.mpr ⟨hw, g⟩), g⟩)
  | false =>
    have ho : w.onTables = true := by
      have h9 := h3 w hw
      unfold vx_ot at h9
      rw [g, Bool.or_false] at h9
      exact h9
    exact va_tabs ho rfl (hNw w (h2 w (List.mem_filter.mpr ⟨hw, by rw [g]; rfl⟩)))
theorem z_throw {X : z_X} {mid lev pc : Nat} {ls : z_L} {st : List Value} {n k : Nat} {G : z_H} {cn text : String} {names : List String} {ik is ic i : Nat} (C : z_Cx X mid lev) (hg : z_Gd z_Gd0 X) (hL : z_Lim X (n + 1) (k + 6)) (hQ : z_TQ X n k G cn)
    (hcls : Bundle.fit cn = true) (hnames : ∀ n ∈ names, Bundle.fit n = true) (hk : Cond.classLink (z_nm mid).cls ik cn ∈ z_T) (hini : Cond.initialized cn ∈ z_T) (hstr : lw_tbl[i]? = some (.stringRef (z_nm mid).cls is text))
    (h1 : ∀ w ∈ (vx_atS (z_nm mid).cls ic cn names).filter goodWord, w ∈ lw_tbl) (h2 : ∀ w ∈ (vx_atS (z_nm mid).cls ic cn names).filter (fun w => !goodWord w), w ∈ z_N) (h3 : ∀ w ∈ vx_atS (z_nm mid).cls ic cn names, vx_ot w = true)
    (d0 : decode (z_by mid) pc = .ok (.new ik, 3)) (d3 : decode (z_by mid) (pc + 3) = .ok (.dup, 1)) (d4 : decode (z_by mid) (pc + 4) = .ok (.ldc is, 2)) (d6 : decode (z_by mid) (pc + 6) = .ok (.invokespecial ic, 3)) (d9 : decode (z_by mid) (pc + 9) = .ok (.athrow, 1))
    (hfr : names.length + 3 < z_rk mid + lev) (hlo : (st.map fun v => v.category).sum + (13 * (names.length + 1) + 43) ≤ 40 * (z_rk mid + lev)) : z_WW X pc mid ls st n k G := by
  obtain ⟨p, l, e, R, s, m, args, below, meth, c, Q, D, n0, nst, kst, E, Amb⟩ := X
  obtain ⟨hx, hb, hr, hml, hown, hts, hin, hfr0, hlo0, hrk1, hNw, hA⟩ := C
  obtain ⟨hfl, hAmb⟩ : l.stackTraces = false ∧ Amb = z_Amb n0 := hg
  obtain ⟨hL1, hL2⟩ : n + 1 ≤ nst + R.cells ∧ k + 6 ≤ kst + R.slots := hL
  obtain ⟨hQ1, hQ2, hQ3, ht, hlocks⟩ : Q = vx_MQ below (fun _ _ _ _ => False) (z_XC E Amb n0 D cn (n + 1) G) args s 1 6 (fun q => n0 ≤ q) ∧ nst = n ∧ kst = k ∧ (∀ x ∈ c.exceptionTable.toList, False) ∧ meth.locks = false := hQ
  subst hQ1 hQ2 hQ3
  intro H locs lsA cells slots hl hR hq hc hs
  have hc : cells = 0 := by omega
  have hs : slots = 0 := by omega
  subst hc hs
  obtain ⟨sa, hsa⟩ := z_str hNw hstr
  have hAm : z_Amb n0 s H := by have := hR.2.2.2.2.2.1; rw [hAmb] at this; exact this
  refine vx_throwS hx hb hfl (own := (z_nm mid).cls) (cls := cn) (text := text) (names := names) (ik := ik) (is := is) (ic := ic) (sa := sa) (A := fun q => n0 ≤ q) hown hcls hnames (hts _ hk) (hts _ hini) hsa (z_hat hts hNw h1 h2 h3) ?_ hAm.1 hAm.2.1 (by rw [hl.1.1, hml]) d0 d3 d4 d6 d9 (fun x hx => (ht x hx).elim) (by omega) (by omega) (by omega) (by omega) hlocks ?_ hq (by omega) (by omega)
  · intro w hw
    rcases List.mem_cons.mp hw with rfl | hw
    · exact rfl
    · rcases List.mem_cons.mp hw with rfl | hw
      · exact rfl
      · exact h3 w hw
  · intro t hvm hz hqq
    refine ⟨rfl, z_Rel.moved hA hvm ?_⟩
    obtain ⟨g1, g2, g3, g4, g5, g6, g7⟩ := hR
    exact ⟨by omega, by omega, g3, g4.kept (hqq _ (by omega)), g5, hA.2 _ _ _ g6 (by omega) (fun q hq => hqq q (by omega)), fun b cb hb => ⟨(g7 b cb hb).1, (g7 b cb hb).2.kept (hqq b (by have := (g7 b cb hb).2.lt; omega))⟩⟩
theorem z_throwW {X : z_X} {mid lev pc : Nat} {ls : z_L} {st : List Value} {n k : Nat} {G : z_H} {cn text : String} {names : List String} {ik is ic i : Nat} (C : z_Cx X mid lev) (hg : z_Gd z_Gd0 X) (hL : z_Lim X (n + 1) (k + 6)) (hQ : z_TQ X n k G cn)
    (hcls : Bundle.fit cn = true) (hnames : ∀ n ∈ names, Bundle.fit n = true) (hk : Cond.classLink (z_nm mid).cls ik cn ∈ z_T) (hini : Cond.initialized cn ∈ z_T) (hstr : lw_tbl[i]? = some (.stringRef (z_nm mid).cls is text))
    (h1 : ∀ w ∈ (vx_atS (z_nm mid).cls ic cn names).filter goodWord, w ∈ lw_tbl) (h2 : ∀ w ∈ (vx_atS (z_nm mid).cls ic cn names).filter (fun w => !goodWord w), w ∈ z_N) (h3 : ∀ w ∈ vx_atS (z_nm mid).cls ic cn names, vx_ot w = true)
    (d0 : decode (z_by mid) pc = .ok (.new ik, 3)) (d3 : decode (z_by mid) (pc + 3) = .ok (.dup, 1)) (d4 : decode (z_by mid) (pc + 4) = .ok (.ldc_w is, 3)) (d6 : decode (z_by mid) (pc + 7) = .ok (.invokespecial ic, 3)) (d9 : decode (z_by mid) (pc + 10) = .ok (.athrow, 1))
    (hfr : names.length + 3 < z_rk mid + lev) (hlo : (st.map fun v => v.category).sum + (13 * (names.length + 1) + 43) ≤ 40 * (z_rk mid + lev)) : z_WW X pc mid ls st n k G := by
  obtain ⟨p, l, e, R, s, m, args, below, meth, c, Q, D, n0, nst, kst, E, Amb⟩ := X
  obtain ⟨hx, hb, hr, hml, hown, hts, hin, hfr0, hlo0, hrk1, hNw, hA⟩ := C
  obtain ⟨hfl, hAmb⟩ : l.stackTraces = false ∧ Amb = z_Amb n0 := hg
  obtain ⟨hL1, hL2⟩ : n + 1 ≤ nst + R.cells ∧ k + 6 ≤ kst + R.slots := hL
  obtain ⟨hQ1, hQ2, hQ3, ht, hlocks⟩ : Q = vx_MQ below (fun _ _ _ _ => False) (z_XC E Amb n0 D cn (n + 1) G) args s 1 6 (fun q => n0 ≤ q) ∧ nst = n ∧ kst = k ∧ (∀ x ∈ c.exceptionTable.toList, False) ∧ meth.locks = false := hQ
  subst hQ1 hQ2 hQ3
  intro H locs lsA cells slots hl hR hq hc hs
  have hc : cells = 0 := by omega
  have hs : slots = 0 := by omega
  subst hc hs
  obtain ⟨sa, hsa⟩ := z_str hNw hstr
  have hAm : z_Amb n0 s H := by have := hR.2.2.2.2.2.1; rw [hAmb] at this; exact this
  refine vx_throwSW hx hb hfl (own := (z_nm mid).cls) (cls := cn) (text := text) (names := names) (ik := ik) (is := is) (ic := ic) (sa := sa) (A := fun q => n0 ≤ q) hown hcls hnames (hts _ hk) (hts _ hini) hsa (z_hat hts hNw h1 h2 h3) ?_ hAm.1 hAm.2.1 (by rw [hl.1.1, hml]) d0 d3 d4 d6 d9 (fun x hx => (ht x hx).elim) (by omega) (by omega) (by omega) (by omega) hlocks ?_ hq (by omega) (by omega)
  · intro w hw
    rcases List.mem_cons.mp hw with rfl | hw
    · exact rfl
    · rcases List.mem_cons.mp hw with rfl | hw
      · exact rfl
      · exact h3 w hw
  · intro t hvm hz hqq
    refine ⟨rfl, z_Rel.moved hA hvm ?_⟩
    obtain ⟨g1, g2, g3, g4, g5, g6, g7⟩ := hR
    exact ⟨by omega, by omega, g3, g4.kept (hqq _ (by omega)), g5, hA.2 _ _ _ g6 (by omega) (fun q hq => hqq q (by omega)), fun b cb hb => ⟨(g7 b cb hb).1, (g7 b cb hb).2.kept (hqq b (by have := (g7 b cb hb).2.lt; omega))⟩⟩
theorem z_entRl {y : Nat} {as : List Value} {le : z_L} (he : z_ent y as = some le) : z_Rl y (lg_sl as ++ List.replicate (z_ml y - (lg_sl as).length) Slot.unset).toArray le := by
  unfold z_ent at he
  split at he
  · next hent =>
    cases he
    have hl0 := lv_entry as hent.1
    generalize (lg_sl as ++ List.replicate (z_ml y - (lg_sl as).length) Slot.unset).toArray = lsA at hl0 ⊢
    refine ⟨z_has_mono hl0 ?_, by simp [z_en], ?_⟩
    · rintro ⟨i, w⟩ hq
      have hq := z_as_mem.mp hq
      have hlt := z_lo_lt hq
      unfold z_lo z_en at hq
      have hlt2 : i < z_ml y := by simpa [z_en] using hlt
      simp only [List.getElem?_map, List.getElem?_range hlt2, Option.map_some] at hq
      cases hf : (lv_args 0 as).find? (fun q => q.1 == i) with
      | none => rw [hf] at hq; cases hq
      | some q =>
        rw [hf] at hq
        have h1 := List.mem_of_find?_eq_some hf
        have h2 := List.find?_some hf
        simp only [beq_iff_eq] at h2
        simp only [Option.map_some, Option.some.injEq] at hq
        obtain ⟨q1, q2⟩ := q
        subst hq
        subst h2
        exact h1
    · intro i w hw hcat
      have hlt := z_lo_lt hw
      have hall := List.all_eq_true.mp hent.2 i (List.mem_range.mpr hlt)
      unfold z_lo at hw
      split at hw
      · next o ho =>
        subst hw
        rw [ho] at hall
        simp only [hcat, Bool.or_eq_true] at hall
        rcases hall with z | z
        · exact absurd z (by decide)
        · simpa using z
      · cases hw
  · cases he
theorem z_metT_of {E : z_E} {y lv : Nat} {as : List Value} {le : z_L} {n k : Nat} {G : z_H} {cn : String} (hY : z_OKY y) (he : z_ent y as = some le)
    (h : ∀ X : z_X, z_Cx X y lv → z_Ex X = E → z_Gd z_Gd0 X → z_Lim X (n + 1) (k + 6) → z_TQ X n k G cn → z_WW X 0 y le [] n k G) (l : Launch) (Amb : State → Heap → Prop) (n0 : Nat) (D : va_G) (hA : z_AmbOK n0 Amb) (hg : z_Gd0 l n0 Amb) : z_MetT l E Amb n0 D y lv as n G cn := by
  refine vx_ofW (cc := z_by y) (maxL := z_ml y) (ret := z_rt y) hY.1 rfl ?_
  intro p e s m args below meth c s₁ B hml ht hv
  obtain ⟨rfl, hRel, hNw⟩ := hv
  have hts : ∀ w ∈ z_T, w.before as.toArray s = true := fun w hw => atoms_spec (ws := z_wd y) B.pre w (List.mem_cons_of_mem _ hw)
  have hown : s.vm.findClass (z_nm y).cls = some m.cls := findClass_of_methodNamed B.named
  have hnm : meth.name = (z_nm y).name := (name_of_methodNamed B.named B.method).1
  have hRl := z_entRl he
  rw [lg_entry_eq]
  generalize (lg_sl as ++ List.replicate (z_ml y - (lg_sl as).length) Slot.unset).toArray = lsA at hRl ⊢
  exact h (p, l, e, (headSpec (z_wd y) (z_room (z_rk y + lv) 1 6)).room, s, m, as.toArray, below, meth, c, vx_MQ below (fun _ _ _ _ => False) (z_XC E Amb n0 D cn (n + 1) G) as.toArray s 1 6 (fun q => n0 ≤ q), D, n0, n, k, E, Amb)
    ⟨B.exec, B.bytes, B.returns, hml, hown, hts, fun hi => by rw [hnm]; exact hY.2.2.1 hi, Nat.le_refl _, Nat.le_refl _, hY.2.1, hNw, hA⟩ rfl hg ⟨Nat.le_refl _, Nat.le_refl _⟩ ⟨rfl, rfl, rfl, ht, B.notSynchronized⟩ s.heap [] lsA 0 0 hRl hRel (fun q hq => nomatch hq) (by omega) (by omega)
/-- one plain instruction -/
theorem z_go {X : z_X} {mid lev pc : Nat} {ls : z_L} {st : List Value} {n k : Nat} {G : z_H} {i : Instr} {len : Nat} {pc' : Nat} {ls' : z_L} {st' : List Value} {n' k' : Nat} {G' : z_H} (OK : z_OKall) (C : z_Cx X mid lev) (hi : z_ins mid pc = some (i, len)) (hs : z_step (z_Ex X) mid lev i len pc ls st n k G = some (.inr (.inl (pc', ls', st', n', k', G')))) (hL : z_Lim X n' k') (kk : z_WW X pc' mid ls' st' n' k' G') : z_WW X pc mid ls st n k G :=
  (z_stpAll OK i X mid lev len pc ls st n k G pc' ls' st' n' k' G' C hi hs).2.2 hL kk
theorem z_call_prm {kinds : List Nat} {mid lev pc : Nat} {ls : z_L} {st : List Value} {G : z_H} {e : List Nat} {y lv : Nat} {as : List Value} {pc' : Nat} {ls' : z_L} {rest : List Value} (h : z_call kinds mid lev pc ls st G e = some (.inr (.inr (y, lv, as, pc', ls', rest)))) (hp : z_prm y = true) : 8 ≤ z_rk mid + lev := by
  rcases Nat.lt_or_ge (z_rk mid + lev) 8 with hc | hc
  · exfalso
    have hn : ∀ lv0, z_lv mid y lev lv0 = none := fun lv0 => if_pos ⟨hp, hc⟩
    unfold z_call at h
    (repeat' split at h) <;> simp_all
  · exact hc
theorem z_prim_low {Gd : Launch → Nat → (State → Heap → Prop) → Prop} : z_PrimOK Gd 7 := by
  intro X mid lev j pc ls st n k G y lv as rest v n1 k1 G1 hr C hg hi hc hp
  have := z_call_prm hc hp
  omega
theorem z_met_ev {Gd : Launch → Nat → (State → Heap → Prop) → Prop} (OK : z_OKall) {rmax : Nat} (Hp : z_PrimOK Gd rmax) {E : z_E} {y lv : Nat} {as : List Value} {n k : Nat} {G : z_H} {v : Option Value} {n1 k1 : Nat} {G1 : z_H} (hr : z_rk y + lv ≤ rmax) (hY : z_OKY y) (hp : z_prm y = false) (h : z_evM E y lv as n k G = some (v, n1, k1, G1)) (l : Launch) (Amb : State → Heap → Prop) (n0 : Nat) (D : va_G) (hA : z_AmbOK n0 Amb) (hg : Gd l n0 Amb) : z_Met l E Amb n0 D y lv as n k G v n1 k1 G1 := by
  unfold z_evM at h
  rw [if_neg (by rw [hp]; decide)] at h
  obtain ⟨le, he, h⟩ := Option.bind_eq_some_iff.mp h
  obtain ⟨f, hf⟩ := (z_ev_iff _ _ _ _ _ _ _ _ _ _).mp h
  obtain ⟨a1, a2, a3⟩ := z_sound OK rmax Hp E f y lv hr 0 le [] n k G v n1 k1 G1 hf
  exact z_met_of hY he a1 a2 a3 l Amb n0 D hA hg
theorem z_Lim.le {X : z_X} {n k n' k' : Nat} (h : z_Lim X n' k') (hn : n ≤ n') (hk : k ≤ k') : z_Lim X n k := by
  obtain ⟨p, l, e, R, s, m, args, below, meth, c, Q, D, n0, nst, kst, E, Amb⟩ := X
  obtain ⟨h1, h2⟩ : n' ≤ nst + R.cells ∧ k' ≤ kst + R.slots := h
  exact ⟨Nat.le_trans hn h1, Nat.le_trans hk h2⟩
/-! WHAT THROWS: the failures of the bells -/
theorem t_B0 (OK : z_OKall) {E : z_E} {n : Nat} {G : z_H} {a : Nat} {f : Int32} (hgf : z_gf G a [1, 0, 7, 0, 1] = some (.int f)) (hf : ¬ f = 0) (l : Launch) (Amb : State → Heap → Prop) (n0 : Nat) (D : va_G) (hA : z_AmbOK n0 Amb) (hg : z_Gd0 l n0 Amb) : z_MetT l E Amb n0 D i_B0_fail 0 [.ref a] n G "java/lang/IllegalStateException" := by
  refine z_metT_of (k := 0) (le := [some (.ref a)]) ⟨by decide +kernel, by decide +kernel, by decide +kernel, fun h => absurd h (by decide +kernel)⟩ rfl ?_ l Amb n0 D hA hg
  intro X C hE hg hL hQ
  have hL0 := hL.le (n := n) (k := 0) (Nat.le_succ _) (Nat.zero_le _)
  refine z_go OK C (i := .aload_n 0) (len := 1) (pc' := 1) (ls' := [some (.ref a)]) (st' := [.ref a]) (n' := n) (k' := 0) (G' := G) (by decide +kernel) rfl hL0 ?_
  refine z_go OK C (i := .getfield 21) (len := 3) (pc' := 4) (ls' := [some (.ref a)]) (st' := [.int f]) (n' := n) (k' := 0) (G' := G) (by decide +kernel) (show z_vl (z_gf G a (z_fe i_B0_fail 21)) _ _ _ _ _ _ = _ by rw [show z_fe i_B0_fail 21 = [1, 0, 7, 0, 1] from by decide +kernel, hgf]; rfl) hL0 ?_
  refine z_go OK C (i := .ifCond .eq 13) (len := 3) (pc' := 7) (ls' := [some (.ref a)]) (st' := []) (n' := n) (k' := 0) (G' := G) (by decide +kernel) (show z_cj (decide (f = 0)) _ _ _ _ _ _ _ _ = _ by rw [decide_eq_false hf]; rfl) hL0 ?_
  exact z_throw C hg hL hQ (names := ["java/lang/RuntimeException", "java/lang/Exception"]) (ik := 30) (is := 32) (ic := 34) (i := 951) (text := "a bell fails") (by decide +kernel) (by decide +kernel) (z_inT 942 (by decide +kernel) rfl) (z_inT 63 (by decide +kernel) rfl) (by decide +kernel) (by decide +kernel) (by decide +kernel) (by decide +kernel) (by decide +kernel) (by decide +kernel) (by decide +kernel) (by decide +kernel) (by decide +kernel) (by decide +kernel) (by decide +kernel)
theorem t_B1 (OK : z_OKall) {E : z_E} {n : Nat} {G : z_H} {a : Nat} {f : Int32} (hgf : z_gf G a [1, 3, 7, 0, 2] = some (.int f)) (hf : ¬ f = 0) (l : Launch) (Amb : State → Heap → Prop) (n0 : Nat) (D : va_G) (hA : z_AmbOK n0 Amb) (hg : z_Gd0 l n0 Amb) : z_MetT l E Amb n0 D i_B1_fail 0 [.ref a] n G "java/lang/IllegalArgumentException" := by
  refine z_metT_of (k := 0) (le := [some (.ref a)]) ⟨by decide +kernel, by decide +kernel, by decide +kernel, fun h => absurd h (by decide +kernel)⟩ rfl ?_ l Amb n0 D hA hg
  intro X C hE hg hL hQ
  have hL0 := hL.le (n := n) (k := 0) (Nat.le_succ _) (Nat.zero_le _)
  refine z_go OK C (i := .aload_n 0) (len := 1) (pc' := 1) (ls' := [some (.ref a)]) (st' := [.ref a]) (n' := n) (k' := 0) (G' := G) (by decide +kernel) rfl hL0 ?_
  refine z_go OK C (i := .getfield 24) (len := 3) (pc' := 4) (ls' := [some (.ref a)]) (st' := [.int f]) (n' := n) (k' := 0) (G' := G) (by decide +kernel) (show z_vl (z_gf G a (z_fe i_B1_fail 24)) _ _ _ _ _ _ = _ by rw [show z_fe i_B1_fail 24 = [1, 3, 7, 0, 2] from by decide +kernel, hgf]; rfl) hL0 ?_
  refine z_go OK C (i := .ifCond .eq 13) (len := 3) (pc' := 7) (ls' := [some (.ref a)]) (st' := []) (n' := n) (k' := 0) (G' := G) (by decide +kernel) (show z_cj (decide (f = 0)) _ _ _ _ _ _ _ _ = _ by rw [decide_eq_false hf]; rfl) hL0 ?_
  exact z_throw C hg hL hQ (names := ["java/lang/RuntimeException", "java/lang/Exception"]) (ik := 27) (is := 29) (ic := 31) (i := 886) (text := "a door fails") (by decide +kernel) (by decide +kernel) (z_inT 845 (by decide +kernel) rfl) (z_inT 62 (by decide +kernel) rfl) (by decide +kernel) (by decide +kernel) (by decide +kernel) (by decide +kernel) (by decide +kernel) (by decide +kernel) (by decide +kernel) (by decide +kernel) (by decide +kernel) (by decide +kernel) (by decide +kernel)
theorem t_B7 (OK : z_OKall) {E : z_E} {n : Nat} {G : z_H} {a : Nat} {f : Int32} (hgf : z_gf G a [1, 7, 7, 0, 2] = some (.int f)) (hf : ¬ f = 0) (l : Launch) (Amb : State → Heap → Prop) (n0 : Nat) (D : va_G) (hA : z_AmbOK n0 Amb) (hg : z_Gd0 l n0 Amb) : z_MetT l E Amb n0 D i_B7_fail 0 [.ref a] n G "java/lang/UnsupportedOperationException" := by
  refine z_metT_of (k := 0) (le := [some (.ref a)]) ⟨by decide +kernel, by decide +kernel, by decide +kernel, fun h => absurd h (by decide +kernel)⟩ rfl ?_ l Amb n0 D hA hg
  intro X C hE hg hL hQ
  have hL0 := hL.le (n := n) (k := 0) (Nat.le_succ _) (Nat.zero_le _)
  refine z_go OK C (i := .aload_n 0) (len := 1) (pc' := 1) (ls' := [some (.ref a)]) (st' := [.ref a]) (n' := n) (k' := 0) (G' := G) (by decide +kernel) rfl hL0 ?_
  refine z_go OK C (i := .getfield 24) (len := 3) (pc' := 4) (ls' := [some (.ref a)]) (st' := [.int f]) (n' := n) (k' := 0) (G' := G) (by decide +kernel) (show z_vl (z_gf G a (z_fe i_B7_fail 24)) _ _ _ _ _ _ = _ by rw [show z_fe i_B7_fail 24 = [1, 7, 7, 0, 2] from by decide +kernel, hgf]; rfl) hL0 ?_
  refine z_go OK C (i := .ifCond .eq 13) (len := 3) (pc' := 7) (ls' := [some (.ref a)]) (st' := []) (n' := n) (k' := 0) (G' := G) (by decide +kernel) (show z_cj (decide (f = 0)) _ _ _ _ _ _ _ _ = _ by rw [decide_eq_false hf]; rfl) hL0 ?_
  exact z_throw C hg hL hQ (names := ["java/lang/RuntimeException", "java/lang/Exception"]) (ik := 27) (is := 29) (ic := 31) (i := 933) (text := "a marble fails") (by decide +kernel) (by decide +kernel) (z_inT 924 (by decide +kernel) rfl) (z_inT 65 (by decide +kernel) rfl) (by decide +kernel) (by decide +kernel) (by decide +kernel) (by decide +kernel) (by decide +kernel) (by decide +kernel) (by decide +kernel) (by decide +kernel) (by decide +kernel) (by decide +kernel) (by decide +kernel)
theorem e_B0 {E : z_E} {n k : Nat} {G : z_H} {a : Nat} (hgf : z_gf G a [1, 0, 7, 0, 1] = some (.int 0)) : z_evM E i_B0_fail 0 [.ref a] n k G = some (none, n, k, G) := by
  have e1 : z_run E 4 i_B0_fail 0 0 [some (.ref a)] [] n k G = some (none, n, k, G) := by
    rw [z_run, show z_ins i_B0_fail 0 = some (.aload_n 0, 1) from by decide +kernel]
    show z_run E 3 i_B0_fail 0 1 [some (.ref a)] [.ref a] n k G = _
    rw [z_run, show z_ins i_B0_fail 1 = some (.getfield 21, 3) from by decide +kernel]
    dsimp only
    rw [show z_step E i_B0_fail 0 (.getfield 21) 3 1 [some (.ref a)] [.ref a] n k G = some (.inr (.inl (4, [some (.ref a)], [.int 0], n, k, G))) from (show z_vl (z_gf G a (z_fe i_B0_fail 21)) _ _ _ _ _ _ = _ by rw [show z_fe i_B0_fail 21 = [1, 0, 7, 0, 1] from by decide +kernel, hgf]; rfl)]
    dsimp only
    rw [z_run, show z_ins i_B0_fail 4 = some (.ifCond .eq 13, 3) from by decide +kernel]
    show z_run E 1 i_B0_fail 0 17 [some (.ref a)] [] n k G = _
    rw [z_run, show z_ins i_B0_fail 17 = some (.return_, 1) from by decide +kernel]
    dsimp only
    rw [show z_step E i_B0_fail 0 .return_ 1 17 [some (.ref a)] [] n k G = some (.inl none) from (show (if z_rt i_B0_fail = none then (some (.inl none) : z_D) else none) = some (.inl none) from if_pos (by decide +kernel))]
  unfold z_evM
  rw [if_neg (by decide +kernel)]
  exact Option.bind_eq_some_iff.mpr ⟨_, rfl, (z_ev_iff _ _ _ _ _ _ _ _ _ _).mpr ⟨4, e1⟩⟩
theorem e_B1 {E : z_E} {n k : Nat} {G : z_H} {a : Nat} (hgf : z_gf G a [1, 3, 7, 0, 2] = some (.int 0)) : z_evM E i_B1_fail 0 [.ref a] n k G = some (none, n, k, G) := by
  have e1 : z_run E 4 i_B1_fail 0 0 [some (.ref a)] [] n k G = some (none, n, k, G) := by
    rw [z_run, show z_ins i_B1_fail 0 = some (.aload_n 0, 1) from by decide +kernel]
    show z_run E 3 i_B1_fail 0 1 [some (.ref a)] [.ref a] n k G = _
    rw [z_run, show z_ins i_B1_fail 1 = some (.getfield 24, 3) from by decide +kernel]
    dsimp only
    rw [show z_step E i_B1_fail 0 (.getfield 24) 3 1 [some (.ref a)] [.ref a] n k G = some (.inr (.inl (4, [some (.ref a)], [.int 0], n, k, G))) from (show z_vl (z_gf G a (z_fe i_B1_fail 24)) _ _ _ _ _ _ = _ by rw [show z_fe i_B1_fail 24 = [1, 3, 7, 0, 2] from by decide +kernel, hgf]; rfl)]
    dsimp only
    rw [z_run, show z_ins i_B1_fail 4 = some (.ifCond .eq 13, 3) from by decide +kernel]
    show z_run E 1 i_B1_fail 0 17 [some (.ref a)] [] n k G = _
    rw [z_run, show z_ins i_B1_fail 17 = some (.return_, 1) from by decide +kernel]
    dsimp only
    rw [show z_step E i_B1_fail 0 .return_ 1 17 [some (.ref a)] [] n k G = some (.inl none) from (show (if z_rt i_B1_fail = none then (some (.inl none) : z_D) else none) = some (.inl none) from if_pos (by decide +kernel))]
  unfold z_evM
  rw [if_neg (by decide +kernel)]
  exact Option.bind_eq_some_iff.mpr ⟨_, rfl, (z_ev_iff _ _ _ _ _ _ _ _ _ _).mpr ⟨4, e1⟩⟩
theorem e_B7 {E : z_E} {n k : Nat} {G : z_H} {a : Nat} (hgf : z_gf G a [1, 7, 7, 0, 2] = some (.int 0)) : z_evM E i_B7_fail 0 [.ref a] n k G = some (none, n, k, G) := by
  have e1 : z_run E 4 i_B7_fail 0 0 [some (.ref a)] [] n k G = some (none, n, k, G) := by
    rw [z_run, show z_ins i_B7_fail 0 = some (.aload_n 0, 1) from by decide +kernel]
    show z_run E 3 i_B7_fail 0 1 [some (.ref a)] [.ref a] n k G = _
    rw [z_run, show z_ins i_B7_fail 1 = some (.getfield 24, 3) from by decide +kernel]
    dsimp only
    rw [show z_step E i_B7_fail 0 (.getfield 24) 3 1 [some (.ref a)] [.ref a] n k G = some (.inr (.inl (4, [some (.ref a)], [.int 0], n, k, G))) from (show z_vl (z_gf G a (z_fe i_B7_fail 24)) _ _ _ _ _ _ = _ by rw [show z_fe i_B7_fail 24 = [1, 7, 7, 0, 2] from by decide +kernel, hgf]; rfl)]
    dsimp only
    rw [z_run, show z_ins i_B7_fail 4 = some (.ifCond .eq 13, 3) from by decide +kernel]
    show z_run E 1 i_B7_fail 0 17 [some (.ref a)] [] n k G = _
    rw [z_run, show z_ins i_B7_fail 17 = some (.return_, 1) from by decide +kernel]
    dsimp only
    rw [show z_step E i_B7_fail 0 .return_ 1 17 [some (.ref a)] [] n k G = some (.inl none) from (show (if z_rt i_B7_fail = none then (some (.inl none) : z_D) else none) = some (.inl none) from if_pos (by decide +kernel))]
  unfold z_evM
  rw [if_neg (by decide +kernel)]
  exact Option.bind_eq_some_iff.mpr ⟨_, rfl, (z_ev_iff _ _ _ _ _ _ _ _ _ _).mpr ⟨4, e1⟩⟩
theorem e_B2 {E : z_E} {n k : Nat} {G : z_H} {a : Nat} : z_evM E i_B2_fail 0 [.ref a] n k G = some (none, n, k, G) := by
  have e1 : z_run E 1 i_B2_fail 0 0 [some (.ref a)] [] n k G = some (none, n, k, G) := by
    rw [z_run, show z_ins i_B2_fail 0 = some (.return_, 1) from by decide +kernel]
    dsimp only
    rw [show z_step E i_B2_fail 0 .return_ 1 0 [some (.ref a)] [] n k G = some (.inl none) from (show (if z_rt i_B2_fail = none then (some (.inl none) : z_D) else none) = some (.inl none) from if_pos (by decide +kernel))]
  unfold z_evM
  rw [if_neg (by decide +kernel)]
  exact Option.bind_eq_some_iff.mpr ⟨_, rfl, (z_ev_iff _ _ _ _ _ _ _ _ _ _).mpr ⟨1, e1⟩⟩
theorem e_B6 {E : z_E} {n k : Nat} {G : z_H} {a : Nat} : z_evM E i_B6_fail 0 [.ref a] n k G = some (none, n, k, G) := by
  have e1 : z_run E 1 i_B6_fail 0 0 [some (.ref a)] [] n k G = some (none, n, k, G) := by
    rw [z_run, show z_ins i_B6_fail 0 = some (.return_, 1) from by decide +kernel]
    dsimp only
    rw [show z_step E i_B6_fail 0 .return_ 1 0 [some (.ref a)] [] n k G = some (.inl none) from (show (if z_rt i_B6_fail = none then (some (.inl none) : z_D) else none) = some (.inl none) from if_pos (by decide +kernel))]
  unfold z_evM
  rw [if_neg (by decide +kernel)]
  exact Option.bind_eq_some_iff.mpr ⟨_, rfl, (z_ev_iff _ _ _ _ _ _ _ _ _ _).mpr ⟨1, e1⟩⟩
