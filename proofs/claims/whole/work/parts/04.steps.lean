/-! THE MACHINE WALKS AS THE ABSTRACT ONE: an instruction each. -/
def z_T : List Jvm.Cond := lw_tbl.filter goodWord
/-- words that are carried beside: nest mates, casts, rows of references -/
def z_nw : Jvm.Cond → Bool
  | .fieldLinkNest _ _ _ _ _ _ => true
  | .methodLinkNest _ _ _ _ => true
  | .castable _ _ => true
  | .arrayOver (.object _) => true
  | .stringRef _ _ _ => true
  | .declares _ => true
  | _ => false
def z_N : List Jvm.Cond := lw_tbl.filter z_nw
def z_Nw (U : State) : Prop := ∀ w ∈ z_N, w.before #[] U = true
theorem z_inT {w : Jvm.Cond} (i : Nat) (h : lw_tbl[i]? = some w) (hg : goodWord w = true) : w ∈ z_T := List.mem_filter.mpr ⟨List.mem_of_getElem? h, hg⟩
theorem z_inN {w : Jvm.Cond} (i : Nat) (h : lw_tbl[i]? = some w) (hg : z_nw w = true) : w ∈ z_N := List.mem_filter.mpr ⟨List.mem_of_getElem? h, hg⟩
theorem z_Nw.same1 {own : String} {k : Nat} {tx : String} {u U : State} (hv : u.vm = U.vm) (h : (Cond.stringRef own k tx).before #[] u = true) : (Cond.stringRef own k tx).before #[] U = true := by
  have h1 := h
  simp only [Cond.before, Cond.holds, Cond.value, State.names, State.poolOf?, State.resolvedAt?, hv] at h1 ⊢
  exact h1
theorem z_Nw.warm {s U : State} (hW : s.WarmedH U.vm) (h : z_Nw s) : z_Nw U := by
  intro w hw
  have hs := h w hw
  have hk := (List.mem_filter.mp hw).2
  unfold z_nw at hk
  split at hk
  · exact va_Nw.warmF hW hs
  · exact va_Nw.warmM hW hs
  · exact va_Nw.warmC hW hs
  · exact va_AO.moved hW.alike hs
  · exact z_Nw.same1 (u := s.setVm U.vm) rfl (Cond.stringRef_warmed hW hs)
  · exact va_Nw.warmD hW hs
  · cases hk
theorem z_Nw.same {u U : State} (hv : u.vm = U.vm) (h : z_Nw u) : z_Nw U := by
  intro w hw
  have hs := h w hw
  have hk := (List.mem_filter.mp hw).2
  unfold z_nw at hk
  split at hk
  · exact va_Nw.same rfl hv hs
  · exact va_Nw.same rfl hv hs
  · exact va_Nw.same rfl hv hs
  · exact va_AO.moved (hv ▸ Vm.Alike.refl _) hs
  · exact z_Nw.same1 hv hs
  · exact va_Nw.same rfl hv hs
  · cases hk
def z_wd (y : Nat) : List Jvm.Cond := Jvm.Cond.code (z_nm y) (z_by y) (z_ml y) (z_rt y) :: z_T
def z_as (L : z_L) : List (Nat × Value) := (List.range L.length).filterMap fun i => (z_lo L i).map fun v => (i, v)
theorem z_lo_lt {L : z_L} {i : Nat} {v : Value} (h : z_lo L i = some v) : i < L.length := by
  unfold z_lo at h
  split at h
  · next o ho => exact (List.getElem?_eq_some_iff.mp ho).1
  · cases h
theorem z_as_mem {L : z_L} {i : Nat} {v : Value} : (i, v) ∈ z_as L ↔ z_lo L i = some v := by
  unfold z_as
  rw [List.mem_filterMap]
  constructor
  · rintro ⟨j, -, hj⟩
    cases hl : z_lo L j with
    | none => rw [hl] at hj; cases hj
    | some w => rw [hl] at hj; cases hj; exact hl
  · intro h
    exact ⟨i, List.mem_range.mpr (z_lo_lt h), by rw [h]; rfl⟩
theorem z_lo_set {L : z_L} {i : Nat} {o : Option Value} {j : Nat} : z_lo (L.set i o) j = if i = j ∧ i < L.length then o else z_lo L j := by
  unfold z_lo
  by_cases h : i = j
  · subst h
    by_cases hl : i < L.length
    · simp [hl]
    · simp [hl]
  · simp [h]
theorem z_has_mono {ls : Array Slot} {nL : Nat} {l l' : List (Nat × Value)} (h : lv_has ls nL l) (hs : ∀ q ∈ l', q ∈ l) : lv_has ls nL l' := ⟨h.1, h.2.1, fun q hq => h.2.2 q (hs q hq)⟩
def z_Rl (mid : Nat) (lsA : Array Slot) (L : z_L) : Prop := lv_has lsA (z_ml mid) (z_as L) ∧ L.length = z_ml mid ∧ ∀ (i : Nat) (v : Value), z_lo L i = some v → v.category = 2 → i ∈ z_lg mid
theorem z_Rl.at {mid : Nat} {lsA : Array Slot} {L : z_L} (h : z_Rl mid lsA L) {i : Nat} {v : Value} (hi : z_lo L i = some v) : lsA[i]? = some (.val v) := h.1.2.2 (i, v) (z_as_mem.mpr hi)
theorem z_Rl.st1 {mid : Nat} {lsA ls' : Array Slot} {L L' : z_L} {i : Nat} {v : Value} (h : z_Rl mid lsA L) (hs : z_s1 (z_lg mid) L i v = some L') (hc : v.category = 1)
    (h' : lv_has ls' (z_ml mid) ((i, v) :: (z_as L).filter (fun q => !(q.1 == i) && !(q.1 + 1 == i && q.2.category == 2)))) : z_Rl mid ls' L' := by
  unfold z_s1 at hs
  split at hs
  · next hi =>
    cases hs
    refine ⟨z_has_mono h' ?_, by rw [List.length_set]; exact h.2.1, ?_⟩
    · rintro ⟨j, w⟩ hq
      have hj := z_as_mem.mp hq
      rw [z_lo_set] at hj
      by_cases hij : i = j
      · subst hij
        rw [if_pos ⟨rfl, hi.1⟩] at hj
        cases hj
        exact List.mem_cons_self
      · rw [if_neg (fun z => hij z.1)] at hj
        refine List.mem_cons_of_mem _ (List.mem_filter.mpr ⟨z_as_mem.mpr hj, ?_⟩)
        have h2 : ¬ (j + 1 = i ∧ w.category = 2) := by
          rintro ⟨e, hw⟩
          have := h.2.2 j w hj hw
          rcases hi.2 with z | z
          · omega
          · exact z (by rw [← e]; exact this)
        have h3 : ¬ j = i := fun z => hij z.symm
        by_cases e : j + 1 = i
        · have : ¬ w.category = 2 := fun z => h2 ⟨e, z⟩
          simp [h3, e, this]
        · simp [h3, e]
    · intro j w hj hw
      rw [z_lo_set] at hj
      split at hj
      · cases hj; rw [hc] at hw; cases hw
      · exact h.2.2 j w hj hw
  · cases hs
theorem z_Rl.st2 {mid : Nat} {lsA ls' : Array Slot} {L L' : z_L} {i : Nat} {v : Value} (h : z_Rl mid lsA L) (hs : z_s2 (z_lg mid) L i v = some L')
    (h' : lv_has ls' (z_ml mid) ((i, v) :: (z_as L).filter (fun q => !(q.1 == i) && (!(q.1 == i + 1) && !(q.1 + 1 == i && q.2.category == 2))))) : z_Rl mid ls' L' := by
  unfold z_s2 at hs
  split at hs
  · next hi =>
    cases hs
    refine ⟨z_has_mono h' ?_, by rw [List.length_set, List.length_set]; exact h.2.1, ?_⟩
    · rintro ⟨j, w⟩ hq
      have hj := z_as_mem.mp hq
      rw [z_lo_set, z_lo_set, List.length_set] at hj
      by_cases hij1 : i + 1 = j
      · rw [if_pos ⟨hij1, hi.1⟩] at hj
        cases hj
      · rw [if_neg (fun z => hij1 z.1)] at hj
        by_cases hij : i = j
        · subst hij
          rw [if_pos ⟨rfl, by omega⟩] at hj
          cases hj
          exact List.mem_cons_self
        · rw [if_neg (fun z => hij z.1)] at hj
          refine List.mem_cons_of_mem _ (List.mem_filter.mpr ⟨z_as_mem.mpr hj, ?_⟩)
          have h2 : ¬ (j + 1 = i ∧ w.category = 2) := by
            rintro ⟨e, hw⟩
            have := h.2.2 j w hj hw
            rcases hi.2.1 with z | z
            · omega
            · exact z (by rw [← e]; exact this)
          have h3 : ¬ j = i := fun z => hij z.symm
          have h4 : ¬ j = i + 1 := fun z => hij1 z.symm
          by_cases e : j + 1 = i
          · have : ¬ w.category = 2 := fun z => h2 ⟨e, z⟩
            simp [h3, h4, e, this]
          · simp [h3, h4, e]
    · intro j w hj hw
      rw [z_lo_set, z_lo_set] at hj
      split at hj
      · cases hj
      · split at hj
        · next e => rw [← e.1]; exact hi.2.2
        · exact h.2.2 j w hj hw
  · cases hs
theorem z_s1_lt {lg : List Nat} {L L' : z_L} {i : Nat} {v : Value} (hs : z_s1 lg L i v = some L') : i < L.length := by
  unfold z_s1 at hs
  split at hs
  · next h => exact h.1
  · cases hs
theorem z_s2_lt {lg : List Nat} {L L' : z_L} {i : Nat} {v : Value} (hs : z_s2 lg L i v = some L') : i + 1 < L.length := by
  unfold z_s2 at hs
  split at hs
  · next h => exact h.1
  · cases hs
/-- what a cell of the abstract heap is in the heap -/
def z_at (U : State) (D : va_G) (a : Nat) (c : z_C) (H : Heap) : Prop := match c with
  | .inl o => ∃ r : vw_C, z_cl[o.1]? = some r ∧ t_OB a (D.1 o.1) r.2.2 (D.2 o.1) H (vp_V o.2)
  | .inr x => ∃ cA : ClassId, H[a]? = some (vp_cell cA x.2) ∧ ArrOfT U cA x.1 ∧ va_RA U cA x.1
theorem z_at.kept {U : State} {D : va_G} {a : Nat} {c : z_C} {H H1 : Heap} (h : z_at U D a c H) (hq : H1[a]? = H[a]?) : z_at U D a c H1 := by
  cases c with
  | inl o =>
    obtain ⟨r, h1, h2⟩ := h
    exact ⟨r, h1, h2.kept hq⟩
  | inr x =>
    obtain ⟨cA, h1, h2⟩ := h
    exact ⟨cA, hq.trans h1, h2⟩
theorem z_at.moved {u U : State} (hvm : u.vm.Alike U.vm) {D : va_G} {a : Nat} {c : z_C} {H : Heap} (h : z_at u D a c H) : z_at U D a c H := by
  cases c with
  | inl o => exact h
  | inr x =>
    obtain ⟨cA, h1, h2, h3⟩ := h
    exact ⟨cA, h1, arrOfT_moved hvm h2, h3.moved hvm⟩
theorem z_at.lt {U : State} {D : va_G} {a : Nat} {c : z_C} {H : Heap} (h : z_at U D a c H) : a < H.size := by
  cases c with
  | inl o =>
    obtain ⟨r, -, cell, h2, -⟩ := h
    exact (Array.getElem?_eq_some_iff.mp h2).1
  | inr x =>
    obtain ⟨cA, h1, -⟩ := h
    exact (Array.getElem?_eq_some_iff.mp h1).1
/-- what stands beside: it stays when nothing below n0 is written, and when the tables are alike -/
def z_AmbOK (n0 : Nat) (Amb : State → Heap → Prop) : Prop := (∀ (u U : State) (H : Heap), u.vm.Alike U.vm → Amb u H → Amb U H) ∧ ∀ (U : State) (H H1 : Heap), Amb U H → H.size ≤ H1.size → (∀ q : Nat, q < n0 → H1[q]? = H[q]?) → Amb U H1
def z_Rel (E : z_E) (Amb : State → Heap → Prop) (n0 : Nat) (D : va_G) (U : State) (n : Nat) (G : z_H) (H : Heap) : Prop :=
  H.size = n ∧ n0 ≤ n ∧ va_K D z_cl [] U ∧ va_X E.1 E.2.1 E.2.2 U H ∧ E.1 < n0 ∧ Amb U H ∧ ∀ (a : Nat) (c : z_C), G a = some c → n0 ≤ a ∧ z_at U D a c H
theorem z_Rel.moved {E : z_E} {Amb : State → Heap → Prop} {n0 : Nat} {D : va_G} {u U : State} {n : Nat} {G : z_H} {H : Heap} (hA : z_AmbOK n0 Amb) (hvm : u.vm.Alike U.vm) (h : z_Rel E Amb n0 D u n G H) : z_Rel E Amb n0 D U n G H := by
  obtain ⟨h1, h2, h3, h4, h5, h6, h7⟩ := h
  exact ⟨h1, h2, va_K.moved hvm h3, va_X.moved hvm h4, h5, hA.1 _ _ _ hvm h6, fun a c hc => ⟨(h7 a c hc).1, (h7 a c hc).2.moved hvm⟩⟩
theorem z_Rel.set {E : z_E} {Amb : State → Heap → Prop} {n0 : Nat} {D : va_G} {U : State} {n : Nat} {G : z_H} {H H1 : Heap} {a : Nat} {c0 c : z_C} (hA : z_AmbOK n0 Amb) (h : z_Rel E Amb n0 D U n G H) (ha : G a = some c0) (hc : z_at U D a c H1) (hz : H1.size = H.size) (oq : ∀ q : Nat, q ≠ a → H1[q]? = H[q]?) : z_Rel E Amb n0 D U n (z_up G a c) H1 := by
  obtain ⟨h1, h2, h3, h4, h5, h6, h7⟩ := h
  have hn := (h7 a c0 ha).1
  refine ⟨hz.trans h1, h2, h3, h4.kept (oq _ (by omega)), h5, hA.2 _ _ _ h6 (by omega) (fun q hq => oq q (by omega)), fun b cb hb => ?_⟩
  unfold z_up at hb
  by_cases e : b = a
  · subst e
    rw [if_pos rfl] at hb
    cases hb
    exact ⟨hn, hc⟩
  · rw [if_neg e] at hb
    exact ⟨(h7 b cb hb).1, (h7 b cb hb).2.kept (oq b e)⟩
theorem z_Rel.push {E : z_E} {Amb : State → Heap → Prop} {n0 : Nat} {D : va_G} {U : State} {n : Nat} {G : z_H} {H H1 : Heap} {c : z_C} (hA : z_AmbOK n0 Amb) (h : z_Rel E Amb n0 D U n G H) (hc : z_at U D n c H1) (hz : H1.size = n + 1) (oq : ∀ q : Nat, q < n → H1[q]? = H[q]?) : z_Rel E Amb n0 D U (n + 1) (z_up G n c) H1 := by
  obtain ⟨h1, h2, h3, h4, h5, h6, h7⟩ := h
  refine ⟨hz, by omega, h3, h4.kept (oq _ (by omega)), h5, hA.2 _ _ _ h6 (by omega) (fun q hq => oq q (by omega)), fun b cb hb => ?_⟩
  unfold z_up at hb
  by_cases e : b = n
  · subst e
    rw [if_pos rfl] at hb
    cases hb
    exact ⟨h2, hc⟩
  · rw [if_neg e] at hb
    have h9 := h7 b cb hb
    exact ⟨h9.1, h9.2.kept (oq b (by have := h9.2.lt; omega))⟩
theorem z_Rel.P1 {E : z_E} {Amb : State → Heap → Prop} {n0 : Nat} {D : va_G} {U : State} {n : Nat} {G : z_H} {H : Heap} (h : z_Rel E Amb n0 D U n G H) {a ci : Nat} {fs : List Value} (ha : G a = some (.inl (ci, fs))) : va_P D z_cl [(a, .inr (ci, fs))] H := by
  intro k q hq
  have hz : k < 1 := (List.getElem?_eq_some_iff.mp hq).1
  rw [show k = 0 by omega] at hq
  cases hq
  exact (h.2.2.2.2.2.2 a _ ha).2
theorem z_Rel.PA {E : z_E} {Amb : State → Heap → Prop} {n0 : Nat} {D : va_G} {U : State} {n : Nat} {G : z_H} {H : Heap} (h : z_Rel E Amb n0 D U n G H) {a : Nat} {ty : FieldType} {x : vp_A} (ha : G a = some (.inr (ty, x))) : ∃ cA : ClassId, va_P D z_cl [(a, .inl (cA, x))] H ∧ va_K D z_cl [(cA, ty)] U ∧ H[a]? = some (vp_cell cA x) := by
  obtain ⟨cA, h1, h2, h3⟩ := (h.2.2.2.2.2.2 a _ ha).2
  refine ⟨cA, fun k q hq => ?_, ⟨h.2.2.1.1, fun k q hq => ?_⟩, h1⟩
  · have hz : k < 1 := (List.getElem?_eq_some_iff.mp hq).1
    rw [show k = 0 by omega] at hq
    cases hq
    exact h1
  · have hz : k < 1 := (List.getElem?_eq_some_iff.mp hq).1
    rw [show k = 0 by omega] at hq
    cases hq
    exact ⟨h2, h3⟩
abbrev z_X : Type := Program × Launch × Env × Room × State × MethodId × Array Value × List Frame × Method × Code × (State → Prop) × va_G × Nat × Nat × Nat × z_E × (State → Heap → Prop)
/-- from every state that is as told, the walk comes to Q -/
def z_WW : z_X → Nat → Nat → z_L → List Value → Nat → Nat → z_H → Prop := fun (p, l, e, R, s, m, args, below, meth, c, Q, D, n0, nst, kst, E, Amb) pc mid ls st n k G =>
  ∀ (H : Heap) (locs : List Loc) (lsA : Array Slot) (cells slots : Nat), z_Rl mid lsA ls → z_Rel E Amb n0 D s n G H → (∀ q ∈ locs, n0 ≤ q.base) → cells + nst = n → slots + kst = k → W p l e R s m args below meth c H locs cells slots Q (F0 m pc lsA st)
def z_Cx : z_X → Nat → Nat → Prop := fun (p, _, _, R, s, m, args, _, meth, c, _, _, n0, _, _, _, Amb) mid lev =>
  p.tables.exec = Jvm.exec ∧ c.code = z_by mid ∧ meth.sig.returnType = z_rt mid ∧ c.maxLocals = z_ml mid ∧ s.vm.findClass (z_nm mid).cls = some m.cls ∧ (∀ w ∈ z_T, w.before args s = true) ∧ (z_init mid = true → meth.name = "<init>") ∧ z_rk mid + lev ≤ R.frames ∧ 40 * (z_rk mid + lev) ≤ R.locals ∧ 1 ≤ z_rk mid ∧ z_Nw s ∧ z_AmbOK n0 Amb
def z_Lim : z_X → Nat → Nat → Prop := fun (_, _, _, R, _, _, _, _, _, _, _, _, _, nst, kst, _, _) n k => n ≤ nst + R.cells ∧ k ≤ kst + R.slots
def z_Ex : z_X → z_E := fun (_, _, _, _, _, _, _, _, _, _, _, _, _, _, _, E, _) => E
/-- an instruction that goes on: the step is walked -/
def z_Stp (i : Instr) : Prop := ∀ (X : z_X) (mid lev len pc : Nat) (ls : z_L) (st : List Value) (n k : Nat) (G : z_H) (pc' : Nat) (ls' : z_L) (st' : List Value) (n' k' : Nat) (G' : z_H), z_Cx X mid lev → z_ins mid pc = some (i, len) →
  z_step (z_Ex X) mid lev i len pc ls st n k G = some (.inr (.inl (pc', ls', st', n', k', G'))) → n ≤ n' ∧ k ≤ k' ∧ (z_Lim X n' k' → z_WW X pc' mid ls' st' n' k' G' → z_WW X pc mid ls st n k G)
theorem z_nx_in {pc : Nat} {ls : z_L} {st : List Value} {n k : Nat} {G : z_H} {pc' : Nat} {ls' : z_L} {st' : List Value} {n' k' : Nat} {G' : z_H} (h : z_nx pc ls st n k G = some (.inr (.inl (pc', ls', st', n', k', G')))) : pc = pc' ∧ ls = ls' ∧ st = st' ∧ n = n' ∧ k = k' ∧ G = G' := by
  unfold z_nx at h
  simp only [Option.some.injEq, Sum.inr.injEq, Sum.inl.injEq, Prod.mk.injEq] at h
  exact h
theorem z_jp_in {pc : Nat} {off : Int} {ls : z_L} {st : List Value} {n k : Nat} {G : z_H} {pc' : Nat} {ls' : z_L} {st' : List Value} {n' k' : Nat} {G' : z_H} (h : z_jp pc off ls st n k G = some (.inr (.inl (pc', ls', st', n', k', G')))) : (pc : Int) + off = (pc' : Int) ∧ ls = ls' ∧ st = st' ∧ n = n' ∧ k = k' ∧ G = G' := by
  unfold z_jp at h
  split at h
  · next h0 =>
    obtain ⟨e, r⟩ := z_nx_in h
    refine ⟨?_, r⟩
    rw [← e]
    unfold z_tgt
    omega
  · cases h
set_option maxHeartbeats 1000000 in
theorem zs_iconst (v : Int) : z_Stp (.iconst v) := by
  rintro ⟨p, l, e, R, s, m, args, below, meth, c, Q, D, n0, nst, kst, E, Amb⟩ mid lev len pc ls st n k G pc' ls' st' n' k' G' ⟨hx, hb, hr, hml, hown, hts, hin, hfr, hlo, hrk, hNw, hA⟩ hi h
  obtain ⟨hd, hlen⟩ := z_insd hi
  have hlen : len = 1 := of_decide_eq_true hlen
  subst hlen
  simp only [z_step] at h
  obtain ⟨rfl, rfl, rfl, rfl, rfl, rfl⟩ := z_nx_in h
  refine ⟨Nat.le_refl _, Nat.le_refl _, fun _ kk => ?_⟩
  intro H locs lsA cells slots hl hR hq hc hs
  exact lv_iconst hx hb hd rfl (kk H locs lsA cells slots hl hR hq hc hs)
set_option maxHeartbeats 1000000 in
theorem zs_bipush (v : Int) : z_Stp (.bipush v) := by
  rintro ⟨p, l, e, R, s, m, args, below, meth, c, Q, D, n0, nst, kst, E, Amb⟩ mid lev len pc ls st n k G pc' ls' st' n' k' G' ⟨hx, hb, hr, hml, hown, hts, hin, hfr, hlo, hrk, hNw, hA⟩ hi h
  obtain ⟨hd, hlen⟩ := z_insd hi
  have hlen : len = 2 := of_decide_eq_true hlen
  subst hlen
  simp only [z_step] at h
  obtain ⟨rfl, rfl, rfl, rfl, rfl, rfl⟩ := z_nx_in h
  refine ⟨Nat.le_refl _, Nat.le_refl _, fun _ kk => ?_⟩
  intro H locs lsA cells slots hl hR hq hc hs
  exact lv_bipush hx hb hd rfl (kk H locs lsA cells slots hl hR hq hc hs)
set_option maxHeartbeats 1000000 in
theorem zs_sipush (v : Int) : z_Stp (.sipush v) := by
  rintro ⟨p, l, e, R, s, m, args, below, meth, c, Q, D, n0, nst, kst, E, Amb⟩ mid lev len pc ls st n k G pc' ls' st' n' k' G' ⟨hx, hb, hr, hml, hown, hts, hin, hfr, hlo, hrk, hNw, hA⟩ hi h
  obtain ⟨hd, hlen⟩ := z_insd hi
  have hlen : len = 3 := of_decide_eq_true hlen
  subst hlen
  simp only [z_step] at h
  obtain ⟨rfl, rfl, rfl, rfl, rfl, rfl⟩ := z_nx_in h
  refine ⟨Nat.le_refl _, Nat.le_refl _, fun _ kk => ?_⟩
  intro H locs lsA cells slots hl hR hq hc hs
  exact lv_sipush hx hb hd rfl (kk H locs lsA cells slots hl hR hq hc hs)
set_option maxHeartbeats 1000000 in
theorem zs_lconst (v : Fin 2) : z_Stp (.lconst v) := by
  rintro ⟨p, l, e, R, s, m, args, below, meth, c, Q, D, n0, nst, kst, E, Amb⟩ mid lev len pc ls st n k G pc' ls' st' n' k' G' ⟨hx, hb, hr, hml, hown, hts, hin, hfr, hlo, hrk, hNw, hA⟩ hi h
  obtain ⟨hd, hlen⟩ := z_insd hi
  have hlen : len = 1 := of_decide_eq_true hlen
  subst hlen
  simp only [z_step] at h
  obtain ⟨rfl, rfl, rfl, rfl, rfl, rfl⟩ := z_nx_in h
  refine ⟨Nat.le_refl _, Nat.le_refl _, fun _ kk => ?_⟩
  intro H locs lsA cells slots hl hR hq hc hs
  exact lv_lconst hx hb hd rfl (kk H locs lsA cells slots hl hR hq hc hs)
set_option maxHeartbeats 1000000 in
theorem zs_null : z_Stp (.aconst_null) := by
  rintro ⟨p, l, e, R, s, m, args, below, meth, c, Q, D, n0, nst, kst, E, Amb⟩ mid lev len pc ls st n k G pc' ls' st' n' k' G' ⟨hx, hb, hr, hml, hown, hts, hin, hfr, hlo, hrk, hNw, hA⟩ hi h
  obtain ⟨hd, hlen⟩ := z_insd hi
  have hlen : len = 1 := of_decide_eq_true hlen
  subst hlen
  simp only [z_step] at h
  obtain ⟨rfl, rfl, rfl, rfl, rfl, rfl⟩ := z_nx_in h
  refine ⟨Nat.le_refl _, Nat.le_refl _, fun _ kk => ?_⟩
  intro H locs lsA cells slots hl hR hq hc hs
  exact lv_null hx hb hd (kk H locs lsA cells slots hl hR hq hc hs)
set_option maxHeartbeats 1000000 in
theorem zs_iadd : z_Stp (.iadd) := by
  rintro ⟨p, l, e, R, s, m, args, below, meth, c, Q, D, n0, nst, kst, E, Amb⟩ mid lev len pc ls st n k G pc' ls' st' n' k' G' ⟨hx, hb, hr, hml, hown, hts, hin, hfr, hlo, hrk, hNw, hA⟩ hi h
  obtain ⟨hd, hlen⟩ := z_insd hi
  have hlen : len = 1 := of_decide_eq_true hlen
  subst hlen
  simp only [z_step] at h
  split at h
  · obtain ⟨rfl, rfl, rfl, rfl, rfl, rfl⟩ := z_nx_in h
    refine ⟨Nat.le_refl _, Nat.le_refl _, fun _ kk => ?_⟩
    intro H locs lsA cells slots hl hR hq hc hs
    exact lv_iadd hx hb hd (kk H locs lsA cells slots hl hR hq hc hs)
  · cases h
set_option maxHeartbeats 1000000 in
theorem zs_isub : z_Stp (.isub) := by
  rintro ⟨p, l, e, R, s, m, args, below, meth, c, Q, D, n0, nst, kst, E, Amb⟩ mid lev len pc ls st n k G pc' ls' st' n' k' G' ⟨hx, hb, hr, hml, hown, hts, hin, hfr, hlo, hrk, hNw, hA⟩ hi h
  obtain ⟨hd, hlen⟩ := z_insd hi
  have hlen : len = 1 := of_decide_eq_true hlen
  subst hlen
  simp only [z_step] at h
  split at h
  · obtain ⟨rfl, rfl, rfl, rfl, rfl, rfl⟩ := z_nx_in h
    refine ⟨Nat.le_refl _, Nat.le_refl _, fun _ kk => ?_⟩
    intro H locs lsA cells slots hl hR hq hc hs
    exact lv_isub hx hb hd (kk H locs lsA cells slots hl hR hq hc hs)
  · cases h
set_option maxHeartbeats 1000000 in
theorem zs_imul : z_Stp (.imul) := by
  rintro ⟨p, l, e, R, s, m, args, below, meth, c, Q, D, n0, nst, kst, E, Amb⟩ mid lev len pc ls st n k G pc' ls' st' n' k' G' ⟨hx, hb, hr, hml, hown, hts, hin, hfr, hlo, hrk, hNw, hA⟩ hi h
  obtain ⟨hd, hlen⟩ := z_insd hi
  have hlen : len = 1 := of_decide_eq_true hlen
  subst hlen
  simp only [z_step] at h
  split at h
  · obtain ⟨rfl, rfl, rfl, rfl, rfl, rfl⟩ := z_nx_in h
    refine ⟨Nat.le_refl _, Nat.le_refl _, fun _ kk => ?_⟩
    intro H locs lsA cells slots hl hR hq hc hs
    exact lv_imul hx hb hd (kk H locs lsA cells slots hl hR hq hc hs)
  · cases h
set_option maxHeartbeats 1000000 in
theorem zs_iand : z_Stp (.iand) := by
  rintro ⟨p, l, e, R, s, m, args, below, meth, c, Q, D, n0, nst, kst, E, Amb⟩ mid lev len pc ls st n k G pc' ls' st' n' k' G' ⟨hx, hb, hr, hml, hown, hts, hin, hfr, hlo, hrk, hNw, hA⟩ hi h
  obtain ⟨hd, hlen⟩ := z_insd hi
  have hlen : len = 1 := of_decide_eq_true hlen
  subst hlen
  simp only [z_step] at h
  split at h
  · obtain ⟨rfl, rfl, rfl, rfl, rfl, rfl⟩ := z_nx_in h
    refine ⟨Nat.le_refl _, Nat.le_refl _, fun _ kk => ?_⟩
    intro H locs lsA cells slots hl hR hq hc hs
    exact lv_iand hx hb hd (kk H locs lsA cells slots hl hR hq hc hs)
  · cases h
set_option maxHeartbeats 1000000 in
theorem zs_ior : z_Stp (.ior) := by
  rintro ⟨p, l, e, R, s, m, args, below, meth, c, Q, D, n0, nst, kst, E, Amb⟩ mid lev len pc ls st n k G pc' ls' st' n' k' G' ⟨hx, hb, hr, hml, hown, hts, hin, hfr, hlo, hrk, hNw, hA⟩ hi h
  obtain ⟨hd, hlen⟩ := z_insd hi
  have hlen : len = 1 := of_decide_eq_true hlen
  subst hlen
  simp only [z_step] at h
  split at h
  · obtain ⟨rfl, rfl, rfl, rfl, rfl, rfl⟩ := z_nx_in h
    refine ⟨Nat.le_refl _, Nat.le_refl _, fun _ kk => ?_⟩
    intro H locs lsA cells slots hl hR hq hc hs
    exact lv_ior hx hb hd (kk H locs lsA cells slots hl hR hq hc hs)
  · cases h
set_option maxHeartbeats 1000000 in
theorem zs_ixor : z_Stp (.ixor) := by
  rintro ⟨p, l, e, R, s, m, args, below, meth, c, Q, D, n0, nst, kst, E, Amb⟩ mid lev len pc ls st n k G pc' ls' st' n' k' G' ⟨hx, hb, hr, hml, hown, hts, hin, hfr, hlo, hrk, hNw, hA⟩ hi h
  obtain ⟨hd, hlen⟩ := z_insd hi
  have hlen : len = 1 := of_decide_eq_true hlen
  subst hlen
  simp only [z_step] at h
  split at h
  · obtain ⟨rfl, rfl, rfl, rfl, rfl, rfl⟩ := z_nx_in h
    refine ⟨Nat.le_refl _, Nat.le_refl _, fun _ kk => ?_⟩
    intro H locs lsA cells slots hl hR hq hc hs
    exact lv_ixor hx hb hd (kk H locs lsA cells slots hl hR hq hc hs)
  · cases h
set_option maxHeartbeats 1000000 in
theorem zs_ladd : z_Stp (.ladd) := by
  rintro ⟨p, l, e, R, s, m, args, below, meth, c, Q, D, n0, nst, kst, E, Amb⟩ mid lev len pc ls st n k G pc' ls' st' n' k' G' ⟨hx, hb, hr, hml, hown, hts, hin, hfr, hlo, hrk, hNw, hA⟩ hi h
  obtain ⟨hd, hlen⟩ := z_insd hi
  have hlen : len = 1 := of_decide_eq_true hlen
  subst hlen
  simp only [z_step] at h
  split at h
  · obtain ⟨rfl, rfl, rfl, rfl, rfl, rfl⟩ := z_nx_in h
    refine ⟨Nat.le_refl _, Nat.le_refl _, fun _ kk => ?_⟩
    intro H locs lsA cells slots hl hR hq hc hs
    exact lv_ladd hx hb hd (kk H locs lsA cells slots hl hR hq hc hs)
  · cases h
set_option maxHeartbeats 1000000 in
theorem zs_lsub : z_Stp (.lsub) := by
  rintro ⟨p, l, e, R, s, m, args, below, meth, c, Q, D, n0, nst, kst, E, Amb⟩ mid lev len pc ls st n k G pc' ls' st' n' k' G' ⟨hx, hb, hr, hml, hown, hts, hin, hfr, hlo, hrk, hNw, hA⟩ hi h
  obtain ⟨hd, hlen⟩ := z_insd hi
  have hlen : len = 1 := of_decide_eq_true hlen
  subst hlen
  simp only [z_step] at h
  split at h
  · obtain ⟨rfl, rfl, rfl, rfl, rfl, rfl⟩ := z_nx_in h
    refine ⟨Nat.le_refl _, Nat.le_refl _, fun _ kk => ?_⟩
    intro H locs lsA cells slots hl hR hq hc hs
    exact lv_lsub hx hb hd (kk H locs lsA cells slots hl hR hq hc hs)
  · cases h
set_option maxHeartbeats 1000000 in
theorem zs_lmul : z_Stp (.lmul) := by
  rintro ⟨p, l, e, R, s, m, args, below, meth, c, Q, D, n0, nst, kst, E, Amb⟩ mid lev len pc ls st n k G pc' ls' st' n' k' G' ⟨hx, hb, hr, hml, hown, hts, hin, hfr, hlo, hrk, hNw, hA⟩ hi h
  obtain ⟨hd, hlen⟩ := z_insd hi
  have hlen : len = 1 := of_decide_eq_true hlen
  subst hlen
  simp only [z_step] at h
  split at h
  · obtain ⟨rfl, rfl, rfl, rfl, rfl, rfl⟩ := z_nx_in h
    refine ⟨Nat.le_refl _, Nat.le_refl _, fun _ kk => ?_⟩
    intro H locs lsA cells slots hl hR hq hc hs
    exact lv_lmul hx hb hd (kk H locs lsA cells slots hl hR hq hc hs)
  · cases h
set_option maxHeartbeats 1000000 in
theorem zs_ishl : z_Stp (.ishl) := by
  rintro ⟨p, l, e, R, s, m, args, below, meth, c, Q, D, n0, nst, kst, E, Amb⟩ mid lev len pc ls st n k G pc' ls' st' n' k' G' ⟨hx, hb, hr, hml, hown, hts, hin, hfr, hlo, hrk, hNw, hA⟩ hi h
  obtain ⟨hd, hlen⟩ := z_insd hi
  have hlen : len = 1 := of_decide_eq_true hlen
  subst hlen
  simp only [z_step] at h
  split at h
  · obtain ⟨rfl, rfl, rfl, rfl, rfl, rfl⟩ := z_nx_in h
    refine ⟨Nat.le_refl _, Nat.le_refl _, fun _ kk => ?_⟩
    intro H locs lsA cells slots hl hR hq hc hs
    exact lv_ishl hx hb hd (kk H locs lsA cells slots hl hR hq hc hs)
  · cases h
set_option maxHeartbeats 1000000 in
theorem zs_ishr : z_Stp (.ishr) := by
  rintro ⟨p, l, e, R, s, m, args, below, meth, c, Q, D, n0, nst, kst, E, Amb⟩ mid lev len pc ls st n k G pc' ls' st' n' k' G' ⟨hx, hb, hr, hml, hown, hts, hin, hfr, hlo, hrk, hNw, hA⟩ hi h
  obtain ⟨hd, hlen⟩ := z_insd hi
  have hlen : len = 1 := of_decide_eq_true hlen
  subst hlen
  simp only [z_step] at h
  split at h
  · obtain ⟨rfl, rfl, rfl, rfl, rfl, rfl⟩ := z_nx_in h
    refine ⟨Nat.le_refl _, Nat.le_refl _, fun _ kk => ?_⟩
    intro H locs lsA cells slots hl hR hq hc hs
    exact lv_ishr hx hb hd (kk H locs lsA cells slots hl hR hq hc hs)
  · cases h
set_option maxHeartbeats 1000000 in
theorem zs_iushr : z_Stp (.iushr) := by
  rintro ⟨p, l, e, R, s, m, args, below, meth, c, Q, D, n0, nst, kst, E, Amb⟩ mid lev len pc ls st n k G pc' ls' st' n' k' G' ⟨hx, hb, hr, hml, hown, hts, hin, hfr, hlo, hrk, hNw, hA⟩ hi h
  obtain ⟨hd, hlen⟩ := z_insd hi
  have hlen : len = 1 := of_decide_eq_true hlen
  subst hlen
  simp only [z_step] at h
  split at h
  · obtain ⟨rfl, rfl, rfl, rfl, rfl, rfl⟩ := z_nx_in h
    refine ⟨Nat.le_refl _, Nat.le_refl _, fun _ kk => ?_⟩
    intro H locs lsA cells slots hl hR hq hc hs
    exact lv_iushr hx hb hd rfl (kk H locs lsA cells slots hl hR hq hc hs)
  · cases h
set_option maxHeartbeats 1000000 in
theorem zs_i2l : z_Stp (.i2l) := by
  rintro ⟨p, l, e, R, s, m, args, below, meth, c, Q, D, n0, nst, kst, E, Amb⟩ mid lev len pc ls st n k G pc' ls' st' n' k' G' ⟨hx, hb, hr, hml, hown, hts, hin, hfr, hlo, hrk, hNw, hA⟩ hi h
  obtain ⟨hd, hlen⟩ := z_insd hi
  have hlen : len = 1 := of_decide_eq_true hlen
  subst hlen
  simp only [z_step] at h
  split at h
  · obtain ⟨rfl, rfl, rfl, rfl, rfl, rfl⟩ := z_nx_in h
    refine ⟨Nat.le_refl _, Nat.le_refl _, fun _ kk => ?_⟩
    intro H locs lsA cells slots hl hR hq hc hs
    exact lv_i2l hx hb hd rfl (kk H locs lsA cells slots hl hR hq hc hs)
  · cases h
set_option maxHeartbeats 1000000 in
theorem zs_i2b : z_Stp (.i2b) := by
  rintro ⟨p, l, e, R, s, m, args, below, meth, c, Q, D, n0, nst, kst, E, Amb⟩ mid lev len pc ls st n k G pc' ls' st' n' k' G' ⟨hx, hb, hr, hml, hown, hts, hin, hfr, hlo, hrk, hNw, hA⟩ hi h
  obtain ⟨hd, hlen⟩ := z_insd hi
  have hlen : len = 1 := of_decide_eq_true hlen
  subst hlen
  simp only [z_step] at h
  split at h
  · obtain ⟨rfl, rfl, rfl, rfl, rfl, rfl⟩ := z_nx_in h
    refine ⟨Nat.le_refl _, Nat.le_refl _, fun _ kk => ?_⟩
    intro H locs lsA cells slots hl hR hq hc hs
    exact lv_i2b hx hb hd rfl (kk H locs lsA cells slots hl hR hq hc hs)
  · cases h
set_option maxHeartbeats 1000000 in
theorem zs_i2s : z_Stp (.i2s) := by
  rintro ⟨p, l, e, R, s, m, args, below, meth, c, Q, D, n0, nst, kst, E, Amb⟩ mid lev len pc ls st n k G pc' ls' st' n' k' G' ⟨hx, hb, hr, hml, hown, hts, hin, hfr, hlo, hrk, hNw, hA⟩ hi h
  obtain ⟨hd, hlen⟩ := z_insd hi
  have hlen : len = 1 := of_decide_eq_true hlen
  subst hlen
  simp only [z_step] at h
  split at h
  · obtain ⟨rfl, rfl, rfl, rfl, rfl, rfl⟩ := z_nx_in h
    refine ⟨Nat.le_refl _, Nat.le_refl _, fun _ kk => ?_⟩
    intro H locs lsA cells slots hl hR hq hc hs
    exact lv_i2s hx hb hd rfl (kk H locs lsA cells slots hl hR hq hc hs)
  · cases h
set_option maxHeartbeats 1000000 in
theorem zs_lcmp : z_Stp (.lcmp) := by
  rintro ⟨p, l, e, R, s, m, args, below, meth, c, Q, D, n0, nst, kst, E, Amb⟩ mid lev len pc ls st n k G pc' ls' st' n' k' G' ⟨hx, hb, hr, hml, hown, hts, hin, hfr, hlo, hrk, hNw, hA⟩ hi h
  obtain ⟨hd, hlen⟩ := z_insd hi
  have hlen : len = 1 := of_decide_eq_true hlen
  subst hlen
  simp only [z_step] at h
  split at h
  · obtain ⟨rfl, rfl, rfl, rfl, rfl, rfl⟩ := z_nx_in h
    refine ⟨Nat.le_refl _, Nat.le_refl _, fun _ kk => ?_⟩
    intro H locs lsA cells slots hl hR hq hc hs
    exact W.lcmp hx hb hd (kk H locs lsA cells slots hl hR hq hc hs)
  · cases h
set_option maxHeartbeats 1000000 in
theorem zs_dup : z_Stp (.dup) := by
  rintro ⟨p, l, e, R, s, m, args, below, meth, c, Q, D, n0, nst, kst, E, Amb⟩ mid lev len pc ls st n k G pc' ls' st' n' k' G' ⟨hx, hb, hr, hml, hown, hts, hin, hfr, hlo, hrk, hNw, hA⟩ hi h
  obtain ⟨hd, hlen⟩ := z_insd hi
  have hlen : len = 1 := of_decide_eq_true hlen
  subst hlen
  simp only [z_step] at h
  split at h
  · obtain ⟨rfl, rfl, rfl, rfl, rfl, rfl⟩ := z_nx_in h
    refine ⟨Nat.le_refl _, Nat.le_refl _, fun _ kk => ?_⟩
    intro H locs lsA cells slots hl hR hq hc hs
    exact lv_dup hx hb hd rfl (kk H locs lsA cells slots hl hR hq hc hs)
  · obtain ⟨rfl, rfl, rfl, rfl, rfl, rfl⟩ := z_nx_in h
    refine ⟨Nat.le_refl _, Nat.le_refl _, fun _ kk => ?_⟩
    intro H locs lsA cells slots hl hR hq hc hs
    exact lv_dup hx hb hd rfl (kk H locs lsA cells slots hl hR hq hc hs)
  · cases h
set_option maxHeartbeats 1000000 in
theorem zs_dup2 : z_Stp (.dup2) := by
  rintro ⟨p, l, e, R, s, m, args, below, meth, c, Q, D, n0, nst, kst, E, Amb⟩ mid lev len pc ls st n k G pc' ls' st' n' k' G' ⟨hx, hb, hr, hml, hown, hts, hin, hfr, hlo, hrk, hNw, hA⟩ hi h
  obtain ⟨hd, hlen⟩ := z_insd hi
  have hlen : len = 1 := of_decide_eq_true hlen
  subst hlen
  simp only [z_step] at h
  split at h
  · obtain ⟨rfl, rfl, rfl, rfl, rfl, rfl⟩ := z_nx_in h
    refine ⟨Nat.le_refl _, Nat.le_refl _, fun _ kk => ?_⟩
    intro H locs lsA cells slots hl hR hq hc hs
    exact lv_dup2_11 hx hb hd rfl rfl (kk H locs lsA cells slots hl hR hq hc hs)
  · obtain ⟨rfl, rfl, rfl, rfl, rfl, rfl⟩ := z_nx_in h
    refine ⟨Nat.le_refl _, Nat.le_refl _, fun _ kk => ?_⟩
    intro H locs lsA cells slots hl hR hq hc hs
    exact lv_dup2_11 hx hb hd rfl rfl (kk H locs lsA cells slots hl hR hq hc hs)
  · cases h
set_option maxHeartbeats 1000000 in
theorem zs_pop : z_Stp (.pop) := by
  rintro ⟨p, l, e, R, s, m, args, below, meth, c, Q, D, n0, nst, kst, E, Amb⟩ mid lev len pc ls st n k G pc' ls' st' n' k' G' ⟨hx, hb, hr, hml, hown, hts, hin, hfr, hlo, hrk, hNw, hA⟩ hi h
  obtain ⟨hd, hlen⟩ := z_insd hi
  have hlen : len = 1 := of_decide_eq_true hlen
  subst hlen
  simp only [z_step] at h
  split at h
  · obtain ⟨rfl, rfl, rfl, rfl, rfl, rfl⟩ := z_nx_in h
    refine ⟨Nat.le_refl _, Nat.le_refl _, fun _ kk => ?_⟩
    intro H locs lsA cells slots hl hR hq hc hs
    exact lv_pop hx hb hd rfl (kk H locs lsA cells slots hl hR hq hc hs)
  · cases h
theorem zs_idiv : z_Stp .idiv := by
  rintro ⟨p, l, e, R, s, m, args, below, meth, c, Q, D, n0, nst, kst, E, Amb⟩ mid lev len pc ls st n k G pc' ls' st' n' k' G' ⟨hx, hb, hr, hml, hown, hts, hin, hfr, hlo, hrk, hNw, hA⟩ hi h
  obtain ⟨hd, hlen⟩ := z_insd hi
  have hlen : len = 1 := of_decide_eq_true hlen
  subst hlen
  simp only [z_step] at h
  split at h
  · split at h
    · cases h
    · next hne =>
      obtain ⟨rfl, rfl, rfl, rfl, rfl, rfl⟩ := z_nx_in h
      refine ⟨Nat.le_refl _, Nat.le_refl _, fun _ kk => ?_⟩
      intro H locs lsA cells slots hl hR hq hc hs
      exact lv_idiv hx hb hd hne (kk H locs lsA cells slots hl hR hq hc hs)
  · cases h
theorem zs_irem : z_Stp .irem := by
  rintro ⟨p, l, e, R, s, m, args, below, meth, c, Q, D, n0, nst, kst, E, Amb⟩ mid lev len pc ls st n k G pc' ls' st' n' k' G' ⟨hx, hb, hr, hml, hown, hts, hin, hfr, hlo, hrk, hNw, hA⟩ hi h
  obtain ⟨hd, hlen⟩ := z_insd hi
  have hlen : len = 1 := of_decide_eq_true hlen
  subst hlen
  simp only [z_step] at h
  split at h
  · split at h
    · cases h
    · next hne =>
      obtain ⟨rfl, rfl, rfl, rfl, rfl, rfl⟩ := z_nx_in h
      refine ⟨Nat.le_refl _, Nat.le_refl _, fun _ kk => ?_⟩
      intro H locs lsA cells slots hl hR hq hc hs
      exact lv_irem hx hb hd hne (kk H locs lsA cells slots hl hR hq hc hs)
  · cases h
theorem zs_ldiv : z_Stp .ldiv := by
  rintro ⟨p, l, e, R, s, m, args, below, meth, c, Q, D, n0, nst, kst, E, Amb⟩ mid lev len pc ls st n k G pc' ls' st' n' k' G' ⟨hx, hb, hr, hml, hown, hts, hin, hfr, hlo, hrk, hNw, hA⟩ hi h
  obtain ⟨hd, hlen⟩ := z_insd hi
  have hlen : len = 1 := of_decide_eq_true hlen
  subst hlen
  simp only [z_step] at h
  split at h
  · split at h
    · cases h
    · next hne =>
      obtain ⟨rfl, rfl, rfl, rfl, rfl, rfl⟩ := z_nx_in h
      refine ⟨Nat.le_refl _, Nat.le_refl _, fun _ kk => ?_⟩
      intro H locs lsA cells slots hl hR hq hc hs
      exact lv_ldiv hx hb hd hne (kk H locs lsA cells slots hl hR hq hc hs)
  · cases h
theorem zs_lrem : z_Stp .lrem := by
  rintro ⟨p, l, e, R, s, m, args, below, meth, c, Q, D, n0, nst, kst, E, Amb⟩ mid lev len pc ls st n k G pc' ls' st' n' k' G' ⟨hx, hb, hr, hml, hown, hts, hin, hfr, hlo, hrk, hNw, hA⟩ hi h
  obtain ⟨hd, hlen⟩ := z_insd hi
  have hlen : len = 1 := of_decide_eq_true hlen
  subst hlen
  simp only [z_step] at h
  split at h
  · split at h
    · cases h
    · next hne =>
      obtain ⟨rfl, rfl, rfl, rfl, rfl, rfl⟩ := z_nx_in h
      refine ⟨Nat.le_refl _, Nat.le_refl _, fun _ kk => ?_⟩
      intro H locs lsA cells slots hl hR hq hc hs
      exact lv_lrem hx hb hd hne (kk H locs lsA cells slots hl hR hq hc hs)
  · cases h
theorem zs_iload (j : Nat) : z_Stp (.iload j) := by
  rintro ⟨p, l, e, R, s, m, args, below, meth, c, Q, D, n0, nst, kst, E, Amb⟩ mid lev len pc ls st n k G pc' ls' st' n' k' G' ⟨hx, hb, hr, hml, hown, hts, hin, hfr, hlo, hrk, hNw, hA⟩ hi h
  obtain ⟨hd, hlen⟩ := z_insd hi
  have hlen : len = 2 := of_decide_eq_true hlen
  subst hlen
  simp only [z_step] at h
  split at h
  · next x hx0 =>
    obtain ⟨rfl, rfl, rfl, rfl, rfl, rfl⟩ := z_nx_in h
    refine ⟨Nat.le_refl _, Nat.le_refl _, fun _ kk => ?_⟩
    intro H locs lsA cells slots hl hR hq hc hs
    exact lv_iload hx hb hd (hl.at hx0) (kk H locs lsA cells slots hl hR hq hc hs)
  · cases h
theorem zs_lload (j : Nat) : z_Stp (.lload j) := by
  rintro ⟨p, l, e, R, s, m, args, below, meth, c, Q, D, n0, nst, kst, E, Amb⟩ mid lev len pc ls st n k G pc' ls' st' n' k' G' ⟨hx, hb, hr, hml, hown, hts, hin, hfr, hlo, hrk, hNw, hA⟩ hi h
  obtain ⟨hd, hlen⟩ := z_insd hi
  have hlen : len = 2 := of_decide_eq_true hlen
  subst hlen
  simp only [z_step] at h
  split at h
  · next x hx0 =>
    obtain ⟨rfl, rfl, rfl, rfl, rfl, rfl⟩ := z_nx_in h
    refine ⟨Nat.le_refl _, Nat.le_refl _, fun _ kk => ?_⟩
    intro H locs lsA cells slots hl hR hq hc hs
    exact lv_lload hx hb hd (hl.at hx0) (kk H locs lsA cells slots hl hR hq hc hs)
  · cases h
theorem zs_iload_n (j : Fin 4) : z_Stp (.iload_n j) := by
  rintro ⟨p, l, e, R, s, m, args, below, meth, c, Q, D, n0, nst, kst, E, Amb⟩ mid lev len pc ls st n k G pc' ls' st' n' k' G' ⟨hx, hb, hr, hml, hown, hts, hin, hfr, hlo, hrk, hNw, hA⟩ hi h
  obtain ⟨hd, hlen⟩ := z_insd hi
  have hlen : len = 1 := of_decide_eq_true hlen
  subst hlen
  simp only [z_step] at h
  split at h
  · next x hx0 =>
    obtain ⟨rfl, rfl, rfl, rfl, rfl, rfl⟩ := z_nx_in h
    refine ⟨Nat.le_refl _, Nat.le_refl _, fun _ kk => ?_⟩
    intro H locs lsA cells slots hl hR hq hc hs
    exact lv_iload_n hx hb hd rfl (hl.at hx0) (kk H locs lsA cells slots hl hR hq hc hs)
  · cases h
theorem zs_lload_n (j : Fin 4) : z_Stp (.lload_n j) := by
  rintro ⟨p, l, e, R, s, m, args, below, meth, c, Q, D, n0, nst, kst, E, Amb⟩ mid lev len pc ls st n k G pc' ls' st' n' k' G' ⟨hx, hb, hr, hml, hown, hts, hin, hfr, hlo, hrk, hNw, hA⟩ hi h
  obtain ⟨hd, hlen⟩ := z_insd hi
  have hlen : len = 1 := of_decide_eq_true hlen
  subst hlen
  simp only [z_step] at h
  split at h
  · next x hx0 =>
    obtain ⟨rfl, rfl, rfl, rfl, rfl, rfl⟩ := z_nx_in h
    refine ⟨Nat.le_refl _, Nat.le_refl _, fun _ kk => ?_⟩
    intro H locs lsA cells slots hl hR hq hc hs
    exact lv_lload_n hx hb hd rfl (hl.at hx0) (kk H locs lsA cells slots hl hR hq hc hs)
  · cases h
theorem zs_aload (j : Nat) : z_Stp (.aload j) := by
  rintro ⟨p, l, e, R, s, m, args, below, meth, c, Q, D, n0, nst, kst, E, Amb⟩ mid lev len pc ls st n k G pc' ls' st' n' k' G' ⟨hx, hb, hr, hml, hown, hts, hin, hfr, hlo, hrk, hNw, hA⟩ hi h
  obtain ⟨hd, hlen⟩ := z_insd hi
  have hlen : len = 2 := of_decide_eq_true hlen
  subst hlen
  simp only [z_step] at h
  split at h
  · next x hx0 =>
    obtain ⟨rfl, rfl, rfl, rfl, rfl, rfl⟩ := z_nx_in h
    refine ⟨Nat.le_refl _, Nat.le_refl _, fun _ kk => ?_⟩
    intro H locs lsA cells slots hl hR hq hc hs
    exact lv_aload hx hb hd (hl.at hx0) (kk H locs lsA cells slots hl hR hq hc hs)
  · next hx0 =>
    obtain ⟨rfl, rfl, rfl, rfl, rfl, rfl⟩ := z_nx_in h
    refine ⟨Nat.le_refl _, Nat.le_refl _, fun _ kk => ?_⟩
    intro H locs lsA cells slots hl hR hq hc hs
    exact lv_aloadN hx hb hd (hl.at hx0) (kk H locs lsA cells slots hl hR hq hc hs)
  · cases h
theorem zs_aload_n (j : Fin 4) : z_Stp (.aload_n j) := by
  rintro ⟨p, l, e, R, s, m, args, below, meth, c, Q, D, n0, nst, kst, E, Amb⟩ mid lev len pc ls st n k G pc' ls' st' n' k' G' ⟨hx, hb, hr, hml, hown, hts, hin, hfr, hlo, hrk, hNw, hA⟩ hi h
  obtain ⟨hd, hlen⟩ := z_insd hi
  have hlen : len = 1 := of_decide_eq_true hlen
  subst hlen
  simp only [z_step] at h
  split at h
  · next x hx0 =>
    obtain ⟨rfl, rfl, rfl, rfl, rfl, rfl⟩ := z_nx_in h
    refine ⟨Nat.le_refl _, Nat.le_refl _, fun _ kk => ?_⟩
    intro H locs lsA cells slots hl hR hq hc hs
    exact lv_aload_n hx hb hd rfl (hl.at hx0) (kk H locs lsA cells slots hl hR hq hc hs)
  · next hx0 =>
    obtain ⟨rfl, rfl, rfl, rfl, rfl, rfl⟩ := z_nx_in h
    refine ⟨Nat.le_refl _, Nat.le_refl _, fun _ kk => ?_⟩
    intro H locs lsA cells slots hl hR hq hc hs
    exact lv_aload_nN hx hb hd rfl (hl.at hx0) (kk H locs lsA cells slots hl hR hq hc hs)
  · cases h
theorem zs_istore (j : Nat) : z_Stp (.istore j) := by
  rintro ⟨p, l, e, R, s, m, args, below, meth, c, Q, D, n0, nst, kst, E, Amb⟩ mid lev len pc ls st n k G pc' ls' st' n' k' G' ⟨hx, hb, hr, hml, hown, hts, hin, hfr, hlo, hrk, hNw, hA⟩ hi h
  obtain ⟨hd, hlen⟩ := z_insd hi
  have hlen : len = 2 := of_decide_eq_true hlen
  subst hlen
  simp only [z_step] at h
  split at h
  · next x r =>
    cases hs1 : z_s1 (z_lg mid) ls j (.int x) with
    | none => rw [hs1] at h; cases h
    | some L' =>
      rw [hs1] at h
      obtain ⟨rfl, rfl, rfl, rfl, rfl, rfl⟩ := z_nx_in h
      refine ⟨Nat.le_refl _, Nat.le_refl _, fun _ kk => ?_⟩
      intro H locs lsA cells slots hl hR hq hc hs
      exact lv_istore hx hb hd hl.1 (by rw [← hl.2.1]; exact z_s1_lt hs1) rfl (fun lsB hlB => kk H locs lsB cells slots (hl.st1 hs1 rfl hlB) hR hq hc hs)
  · cases h
theorem zs_istore_n (j : Fin 4) : z_Stp (.istore_n j) := by
  rintro ⟨p, l, e, R, s, m, args, below, meth, c, Q, D, n0, nst, kst, E, Amb⟩ mid lev len pc ls st n k G pc' ls' st' n' k' G' ⟨hx, hb, hr, hml, hown, hts, hin, hfr, hlo, hrk, hNw, hA⟩ hi h
  obtain ⟨hd, hlen⟩ := z_insd hi
  have hlen : len = 1 := of_decide_eq_true hlen
  subst hlen
  simp only [z_step] at h
  split at h
  · next x r =>
    cases hs1 : z_s1 (z_lg mid) ls j.val (.int x) with
    | none => rw [hs1] at h; cases h
    | some L' =>
      rw [hs1] at h
      obtain ⟨rfl, rfl, rfl, rfl, rfl, rfl⟩ := z_nx_in h
      refine ⟨Nat.le_refl _, Nat.le_refl _, fun _ kk => ?_⟩
      intro H locs lsA cells slots hl hR hq hc hs
      exact lv_istore_n hx hb hd rfl hl.1 (by rw [← hl.2.1]; exact z_s1_lt hs1) rfl (fun lsB hlB => kk H locs lsB cells slots (hl.st1 hs1 rfl hlB) hR hq hc hs)
  · cases h
theorem zs_lstore (j : Nat) : z_Stp (.lstore j) := by
  rintro ⟨p, l, e, R, s, m, args, below, meth, c, Q, D, n0, nst, kst, E, Amb⟩ mid lev len pc ls st n k G pc' ls' st' n' k' G' ⟨hx, hb, hr, hml, hown, hts, hin, hfr, hlo, hrk, hNw, hA⟩ hi h
  obtain ⟨hd, hlen⟩ := z_insd hi
  have hlen : len = 2 := of_decide_eq_true hlen
  subst hlen
  simp only [z_step] at h
  split at h
  · next x r =>
    cases hs1 : z_s2 (z_lg mid) ls j (.long x) with
    | none => rw [hs1] at h; cases h
    | some L' =>
      rw [hs1] at h
      obtain ⟨rfl, rfl, rfl, rfl, rfl, rfl⟩ := z_nx_in h
      refine ⟨Nat.le_refl _, Nat.le_refl _, fun _ kk => ?_⟩
      intro H locs lsA cells slots hl hR hq hc hs
      exact lv_lstore hx hb hd hl.1 (by rw [← hl.2.1]; exact z_s2_lt hs1) rfl (fun lsB hlB => kk H locs lsB cells slots (hl.st2 hs1 hlB) hR hq hc hs)
  · cases h
theorem zs_lstore_n (j : Fin 4) : z_Stp (.lstore_n j) := by
  rintro ⟨p, l, e, R, s, m, args, below, meth, c, Q, D, n0, nst, kst, E, Amb⟩ mid lev len pc ls st n k G pc' ls' st' n' k' G' ⟨hx, hb, hr, hml, hown, hts, hin, hfr, hlo, hrk, hNw, hA⟩ hi h
  obtain ⟨hd, hlen⟩ := z_insd hi
  have hlen : len = 1 := of_decide_eq_true hlen
  subst hlen
  simp only [z_step] at h
  split at h
  · next x r =>
    cases hs1 : z_s2 (z_lg mid) ls j.val (.long x) with
    | none => rw [hs1] at h; cases h
    | some L' =>
      rw [hs1] at h
      obtain ⟨rfl, rfl, rfl, rfl, rfl, rfl⟩ := z_nx_in h
      refine ⟨Nat.le_refl _, Nat.le_refl _, fun _ kk => ?_⟩
      intro H locs lsA cells slots hl hR hq hc hs
      exact lv_lstore_n hx hb hd rfl hl.1 (by rw [← hl.2.1]; exact z_s2_lt hs1) rfl (fun lsB hlB => kk H locs lsB cells slots (hl.st2 hs1 hlB) hR hq hc hs)
  · cases h
theorem zs_astore (j : Nat) : z_Stp (.astore j) := by
  rintro ⟨p, l, e, R, s, m, args, below, meth, c, Q, D, n0, nst, kst, E, Amb⟩ mid lev len pc ls st n k G pc' ls' st' n' k' G' ⟨hx, hb, hr, hml, hown, hts, hin, hfr, hlo, hrk, hNw, hA⟩ hi h
  obtain ⟨hd, hlen⟩ := z_insd hi
  have hlen : len = 2 := of_decide_eq_true hlen
  subst hlen
  simp only [z_step] at h
  split at h
  · next x r =>
    cases hs1 : z_s1 (z_lg mid) ls j (.ref x) with
    | none => rw [hs1] at h; cases h
    | some L' =>
      rw [hs1] at h
      obtain ⟨rfl, rfl, rfl, rfl, rfl, rfl⟩ := z_nx_in h
      refine ⟨Nat.le_refl _, Nat.le_refl _, fun _ kk => ?_⟩
      intro H locs lsA cells slots hl hR hq hc hs
      exact lv_astore hx hb hd hl.1 (by rw [← hl.2.1]; exact z_s1_lt hs1) rfl (fun lsB hlB => kk H locs lsB cells slots (hl.st1 hs1 rfl hlB) hR hq hc hs)
  · next r =>
    cases hs1 : z_s1 (z_lg mid) ls j .null with
    | none => rw [hs1] at h; cases h
    | some L' =>
      rw [hs1] at h
      obtain ⟨rfl, rfl, rfl, rfl, rfl, rfl⟩ := z_nx_in h
      refine ⟨Nat.le_refl _, Nat.le_refl _, fun _ kk => ?_⟩
      intro H locs lsA cells slots hl hR hq hc hs
      exact lv_astoreN hx hb hd hl.1 (by rw [← hl.2.1]; exact z_s1_lt hs1) rfl (fun lsB hlB => kk H locs lsB cells slots (hl.st1 hs1 rfl hlB) hR hq hc hs)
  · cases h
theorem zs_astore_n (j : Fin 4) : z_Stp (.astore_n j) := by
  rintro ⟨p, l, e, R, s, m, args, below, meth, c, Q, D, n0, nst, kst, E, Amb⟩ mid lev len pc ls st n k G pc' ls' st' n' k' G' ⟨hx, hb, hr, hml, hown, hts, hin, hfr, hlo, hrk, hNw, hA⟩ hi h
  obtain ⟨hd, hlen⟩ := z_insd hi
  have hlen : len = 1 := of_decide_eq_true hlen
  subst hlen
  simp only [z_step] at h
  split at h
  · next x r =>
    cases hs1 : z_s1 (z_lg mid) ls j.val (.ref x) with
    | none => rw [hs1] at h; cases h
    | some L' =>
      rw [hs1] at h
      obtain ⟨rfl, rfl, rfl, rfl, rfl, rfl⟩ := z_nx_in h
      refine ⟨Nat.le_refl _, Nat.le_refl _, fun _ kk => ?_⟩
      intro H locs lsA cells slots hl hR hq hc hs
      exact lv_astore_n hx hb hd rfl hl.1 (by rw [← hl.2.1]; exact z_s1_lt hs1) rfl (fun lsB hlB => kk H locs lsB cells slots (hl.st1 hs1 rfl hlB) hR hq hc hs)
  · next r =>
    cases hs1 : z_s1 (z_lg mid) ls j.val .null with
    | none => rw [hs1] at h; cases h
    | some L' =>
      rw [hs1] at h
      obtain ⟨rfl, rfl, rfl, rfl, rfl, rfl⟩ := z_nx_in h
      refine ⟨Nat.le_refl _, Nat.le_refl _, fun _ kk => ?_⟩
      intro H locs lsA cells slots hl hR hq hc hs
      exact lv_astore_nN hx hb hd rfl hl.1 (by rw [← hl.2.1]; exact z_s1_lt hs1) rfl (fun lsB hlB => kk H locs lsB cells slots (hl.st1 hs1 rfl hlB) hR hq hc hs)
  · cases h
theorem zs_iinc (j : Nat) (v : Int) : z_Stp (.iinc j v) := by
  rintro ⟨p, l, e, R, s, m, args, below, meth, c, Q, D, n0, nst, kst, E, Amb⟩ mid lev len pc ls st n k G pc' ls' st' n' k' G' ⟨hx, hb, hr, hml, hown, hts, hin, hfr, hlo, hrk, hNw, hA⟩ hi h
  obtain ⟨hd, hlen⟩ := z_insd hi
  have hlen : len = 3 := of_decide_eq_true hlen
  subst hlen
  simp only [z_step] at h
  split at h
  · next x hx0 =>
    cases hs1 : z_s1 (z_lg mid) ls j (.int (x + Int32.ofInt v)) with
    | none => rw [hs1] at h; cases h
    | some L' =>
      rw [hs1] at h
      obtain ⟨rfl, rfl, rfl, rfl, rfl, rfl⟩ := z_nx_in h
      refine ⟨Nat.le_refl _, Nat.le_refl _, fun _ kk => ?_⟩
      intro H locs lsA cells slots hl hR hq hc hs
      obtain ⟨kj, hkj⟩ := List.getElem?_of_mem (z_as_mem.mpr hx0)
      exact lv_iinc hx hb hd hl.1 hkj rfl (by rw [← hl.2.1]; exact z_s1_lt hs1) rfl (fun lsB hlB => kk H locs lsB cells slots (hl.st1 hs1 rfl hlB) hR hq hc hs)
  · cases h
theorem zs_goto (off : Int) : z_Stp (.goto off) := by
  rintro ⟨p, l, e, R, s, m, args, below, meth, c, Q, D, n0, nst, kst, E, Amb⟩ mid lev len pc ls st n k G pc' ls' st' n' k' G' ⟨hx, hb, hr, hml, hown, hts, hin, hfr, hlo, hrk, hNw, hA⟩ hi h
  obtain ⟨hd, hlen⟩ := z_insd hi
  have hlen : len = 3 := of_decide_eq_true hlen
  subst hlen
  simp only [z_step] at h
  obtain ⟨et, rfl, rfl, rfl, rfl, rfl⟩ := z_jp_in h
  refine ⟨Nat.le_refl _, Nat.le_refl _, fun _ kk => ?_⟩
  intro H locs lsA cells slots hl hR hq hc hs
  exact lv_goto hx hb hd et (kk H locs lsA cells slots hl hR hq hc hs)
theorem zs_if_eq (off : Int) : z_Stp (.ifCond .eq off) := by
  rintro ⟨p, l, e, R, s, m, args, below, meth, c, Q, D, n0, nst, kst, E, Amb⟩ mid lev len pc ls st n k G pc' ls' st' n' k' G' ⟨hx, hb, hr, hml, hown, hts, hin, hfr, hlo, hrk, hNw, hA⟩ hi h
  obtain ⟨hd, hlen⟩ := z_insd hi
  have hlen : len = 3 := of_decide_eq_true hlen
  subst hlen
  simp only [z_step] at h
  split at h
  · unfold z_cj at h
    split at h
    · next h0 =>
      have ht : (pc : Int) + off = (z_tgt pc off : Int) := by unfold z_tgt; omega
      split at h
      · next hb0 =>
        have hcd := of_decide_eq_true hb0
        obtain ⟨rfl, rfl, rfl, rfl, rfl, rfl⟩ := z_nx_in h
        refine ⟨Nat.le_refl _, Nat.le_refl _, fun _ kk => ?_⟩
        intro H locs lsA cells slots hl hR hq hc hs
        exact lv_if_eq hx hb hd (tgt := z_tgt pc off) ht (fun _ => kk H locs lsA cells slots hl hR hq hc hs) (fun z => absurd hcd z)
      · next hb0 =>
        have hcd := of_decide_eq_false hb0
        obtain ⟨rfl, rfl, rfl, rfl, rfl, rfl⟩ := z_nx_in h
        refine ⟨Nat.le_refl _, Nat.le_refl _, fun _ kk => ?_⟩
        intro H locs lsA cells slots hl hR hq hc hs
        exact lv_if_eq hx hb hd (tgt := z_tgt pc off) ht (fun z => absurd z hcd) (fun _ => kk H locs lsA cells slots hl hR hq hc hs)
    · cases h
  · cases h
theorem zs_icmp_eq (off : Int) : z_Stp (.if_icmp .eq off) := by
  rintro ⟨p, l, e, R, s, m, args, below, meth, c, Q, D, n0, nst, kst, E, Amb⟩ mid lev len pc ls st n k G pc' ls' st' n' k' G' ⟨hx, hb, hr, hml, hown, hts, hin, hfr, hlo, hrk, hNw, hA⟩ hi h
  obtain ⟨hd, hlen⟩ := z_insd hi
  have hlen : len = 3 := of_decide_eq_true hlen
  subst hlen
  simp only [z_step] at h
  split at h
  · unfold z_cj at h
    split at h
    · next h0 =>
      have ht : (pc : Int) + off = (z_tgt pc off : Int) := by unfold z_tgt; omega
      split at h
      · next hb0 =>
        have hcd := of_decide_eq_true hb0
        obtain ⟨rfl, rfl, rfl, rfl, rfl, rfl⟩ := z_nx_in h
        refine ⟨Nat.le_refl _, Nat.le_refl _, fun _ kk => ?_⟩
        intro H locs lsA cells slots hl hR hq hc hs
        exact lv_icmp_eq hx hb hd (tgt := z_tgt pc off) ht (fun _ => kk H locs lsA cells slots hl hR hq hc hs) (fun z => absurd hcd z)
      · next hb0 =>
        have hcd := of_decide_eq_false hb0
        obtain ⟨rfl, rfl, rfl, rfl, rfl, rfl⟩ := z_nx_in h
        refine ⟨Nat.le_refl _, Nat.le_refl _, fun _ kk => ?_⟩
        intro H locs lsA cells slots hl hR hq hc hs
        exact lv_icmp_eq hx hb hd (tgt := z_tgt pc off) ht (fun z => absurd z hcd) (fun _ => kk H locs lsA cells slots hl hR hq hc hs)
    · cases h
  · cases h
theorem zs_if_ne (off : Int) : z_Stp (.ifCond .ne off) := by
  rintro ⟨p, l, e, R, s, m, args, below, meth, c, Q, D, n0, nst, kst, E, Amb⟩ mid lev len pc ls st n k G pc' ls' st' n' k' G' ⟨hx, hb, hr, hml, hown, hts, hin, hfr, hlo, hrk, hNw, hA⟩ hi h
  obtain ⟨hd, hlen⟩ := z_insd hi
  have hlen : len = 3 := of_decide_eq_true hlen
  subst hlen
  simp only [z_step] at h
  split at h
  · unfold z_cj at h
    split at h
    · next h0 =>
      have ht : (pc : Int) + off = (z_tgt pc off : Int) := by unfold z_tgt; omega
      split at h
      · next hb0 =>
        have hcd := of_decide_eq_true hb0
        obtain ⟨rfl, rfl, rfl, rfl, rfl, rfl⟩ := z_nx_in h
        refine ⟨Nat.le_refl _, Nat.le_refl _, fun _ kk => ?_⟩
        intro H locs lsA cells slots hl hR hq hc hs
        exact lv_if_ne hx hb hd (tgt := z_tgt pc off) ht (fun _ => kk H locs lsA cells slots hl hR hq hc hs) (fun z => absurd z hcd)
      · next hb0 =>
        have hcd := of_decide_eq_false hb0
        obtain ⟨rfl, rfl, rfl, rfl, rfl, rfl⟩ := z_nx_in h
        refine ⟨Nat.le_refl _, Nat.le_refl _, fun _ kk => ?_⟩
        intro H locs lsA cells slots hl hR hq hc hs
        exact lv_if_ne hx hb hd (tgt := z_tgt pc off) ht (fun z => absurd z hcd) (fun _ => kk H locs lsA cells slots hl hR hq hc hs)
    · cases h
  · cases h
theorem zs_icmp_ne (off : Int) : z_Stp (.if_icmp .ne off) := by
  rintro ⟨p, l, e, R, s, m, args, below, meth, c, Q, D, n0, nst, kst, E, Amb⟩ mid lev len pc ls st n k G pc' ls' st' n' k' G' ⟨hx, hb, hr, hml, hown, hts, hin, hfr, hlo, hrk, hNw, hA⟩ hi h
  obtain ⟨hd, hlen⟩ := z_insd hi
  have hlen : len = 3 := of_decide_eq_true hlen
  subst hlen
  simp only [z_step] at h
  split at h
  · unfold z_cj at h
    split at h
    · next h0 =>
      have ht : (pc : Int) + off = (z_tgt pc off : Int) := by unfold z_tgt; omega
      split at h
      · next hb0 =>
        have hcd := of_decide_eq_true hb0
        obtain ⟨rfl, rfl, rfl, rfl, rfl, rfl⟩ := z_nx_in h
        refine ⟨Nat.le_refl _, Nat.le_refl _, fun _ kk => ?_⟩
        intro H locs lsA cells slots hl hR hq hc hs
        exact lv_icmp_ne hx hb hd (tgt := z_tgt pc off) ht (fun _ => kk H locs lsA cells slots hl hR hq hc hs) (fun z => absurd z hcd)
      · next hb0 =>
        have hcd := of_decide_eq_false hb0
        obtain ⟨rfl, rfl, rfl, rfl, rfl, rfl⟩ := z_nx_in h
        refine ⟨Nat.le_refl _, Nat.le_refl _, fun _ kk => ?_⟩
        intro H locs lsA cells slots hl hR hq hc hs
        exact lv_icmp_ne hx hb hd (tgt := z_tgt pc off) ht (fun z => absurd z hcd) (fun _ => kk H locs lsA cells slots hl hR hq hc hs)
    · cases h
  · cases h
theorem zs_if_lt (off : Int) : z_Stp (.ifCond .lt off) := by
  rintro ⟨p, l, e, R, s, m, args, below, meth, c, Q, D, n0, nst, kst, E, Amb⟩ mid lev len pc ls st n k G pc' ls' st' n' k' G' ⟨hx, hb, hr, hml, hown, hts, hin, hfr, hlo, hrk, hNw, hA⟩ hi h
  obtain ⟨hd, hlen⟩ := z_insd hi
  have hlen : len = 3 := of_decide_eq_true hlen
  subst hlen
  simp only [z_step] at h
  split at h
  · unfold z_cj at h
    split at h
    · next h0 =>
      have ht : (pc : Int) + off = (z_tgt pc off : Int) := by unfold z_tgt; omega
      split at h
      · next hb0 =>
        have hcd := of_decide_eq_true hb0
        obtain ⟨rfl, rfl, rfl, rfl, rfl, rfl⟩ := z_nx_in h
        refine ⟨Nat.le_refl _, Nat.le_refl _, fun _ kk => ?_⟩
        intro H locs lsA cells slots hl hR hq hc hs
        exact lv_if_lt hx hb hd (tgt := z_tgt pc off) ht (fun _ => kk H locs lsA cells slots hl hR hq hc hs) (fun z => absurd hcd z)
      · next hb0 =>
        have hcd := of_decide_eq_false hb0
        obtain ⟨rfl, rfl, rfl, rfl, rfl, rfl⟩ := z_nx_in h
        refine ⟨Nat.le_refl _, Nat.le_refl _, fun _ kk => ?_⟩
        intro H locs lsA cells slots hl hR hq hc hs
        exact lv_if_lt hx hb hd (tgt := z_tgt pc off) ht (fun z => absurd z hcd) (fun _ => kk H locs lsA cells slots hl hR hq hc hs)
    · cases h
  · cases h
theorem zs_icmp_lt (off : Int) : z_Stp (.if_icmp .lt off) := by
  rintro ⟨p, l, e, R, s, m, args, below, meth, c, Q, D, n0, nst, kst, E, Amb⟩ mid lev len pc ls st n k G pc' ls' st' n' k' G' ⟨hx, hb, hr, hml, hown, hts, hin, hfr, hlo, hrk, hNw, hA⟩ hi h
  obtain ⟨hd, hlen⟩ := z_insd hi
  have hlen : len = 3 := of_decide_eq_true hlen
  subst hlen
  simp only [z_step] at h
  split at h
  · unfold z_cj at h
    split at h
    · next h0 =>
      have ht : (pc : Int) + off = (z_tgt pc off : Int) := by unfold z_tgt; omega
      split at h
      · next hb0 =>
        have hcd := of_decide_eq_true hb0
        obtain ⟨rfl, rfl, rfl, rfl, rfl, rfl⟩ := z_nx_in h
        refine ⟨Nat.le_refl _, Nat.le_refl _, fun _ kk => ?_⟩
        intro H locs lsA cells slots hl hR hq hc hs
        exact lv_icmp_lt hx hb hd (tgt := z_tgt pc off) ht (fun _ => kk H locs lsA cells slots hl hR hq hc hs) (fun z => absurd hcd z)
      · next hb0 =>
        have hcd := of_decide_eq_false hb0
        obtain ⟨rfl, rfl, rfl, rfl, rfl, rfl⟩ := z_nx_in h
        refine ⟨Nat.le_refl _, Nat.le_refl _, fun _ kk => ?_⟩
        intro H locs lsA cells slots hl hR hq hc hs
        exact lv_icmp_lt hx hb hd (tgt := z_tgt pc off) ht (fun z => absurd z hcd) (fun _ => kk H locs lsA cells slots hl hR hq hc hs)
    · cases h
  · cases h
theorem zs_if_ge (off : Int) : z_Stp (.ifCond .ge off) := by
  rintro ⟨p, l, e, R, s, m, args, below, meth, c, Q, D, n0, nst, kst, E, Amb⟩ mid lev len pc ls st n k G pc' ls' st' n' k' G' ⟨hx, hb, hr, hml, hown, hts, hin, hfr, hlo, hrk, hNw, hA⟩ hi h
  obtain ⟨hd, hlen⟩ := z_insd hi
  have hlen : len = 3 := of_decide_eq_true hlen
  subst hlen
  simp only [z_step] at h
  split at h
  · unfold z_cj at h
    split at h
    · next h0 =>
      have ht : (pc : Int) + off = (z_tgt pc off : Int) := by unfold z_tgt; omega
      split at h
      · next hb0 =>
        have hcd := of_decide_eq_true hb0
        obtain ⟨rfl, rfl, rfl, rfl, rfl, rfl⟩ := z_nx_in h
        refine ⟨Nat.le_refl _, Nat.le_refl _, fun _ kk => ?_⟩
        intro H locs lsA cells slots hl hR hq hc hs
        exact lv_if_ge hx hb hd (tgt := z_tgt pc off) ht (fun _ => kk H locs lsA cells slots hl hR hq hc hs) (fun z => absurd hcd z)
      · next hb0 =>
        have hcd := of_decide_eq_false hb0
        obtain ⟨rfl, rfl, rfl, rfl, rfl, rfl⟩ := z_nx_in h
        refine ⟨Nat.le_refl _, Nat.le_refl _, fun _ kk => ?_⟩
        intro H locs lsA cells slots hl hR hq hc hs
        exact lv_if_ge hx hb hd (tgt := z_tgt pc off) ht (fun z => absurd z hcd) (fun _ => kk H locs lsA cells slots hl hR hq hc hs)
    · cases h
  · cases h
theorem zs_icmp_ge (off : Int) : z_Stp (.if_icmp .ge off) := by
  rintro ⟨p, l, e, R, s, m, args, below, meth, c, Q, D, n0, nst, kst, E, Amb⟩ mid lev len pc ls st n k G pc' ls' st' n' k' G' ⟨hx, hb, hr, hml, hown, hts, hin, hfr, hlo, hrk, hNw, hA⟩ hi h
  obtain ⟨hd, hlen⟩ := z_insd hi
  have hlen : len = 3 := of_decide_eq_true hlen
  subst hlen
  simp only [z_step] at h
  split at h
  · unfold z_cj at h
    split at h
    · next h0 =>
      have ht : (pc : Int) + off = (z_tgt pc off : Int) := by unfold z_tgt; omega
      split at h
      · next hb0 =>
        have hcd := of_decide_eq_true hb0
        obtain ⟨rfl, rfl, rfl, rfl, rfl, rfl⟩ := z_nx_in h
        refine ⟨Nat.le_refl _, Nat.le_refl _, fun _ kk => ?_⟩
        intro H locs lsA cells slots hl hR hq hc hs
        exact lv_icmp_ge hx hb hd (tgt := z_tgt pc off) ht (fun _ => kk H locs lsA cells slots hl hR hq hc hs) (fun z => absurd hcd z)
      · next hb0 =>
        have hcd := of_decide_eq_false hb0
        obtain ⟨rfl, rfl, rfl, rfl, rfl, rfl⟩ := z_nx_in h
        refine ⟨Nat.le_refl _, Nat.le_refl _, fun _ kk => ?_⟩
        intro H locs lsA cells slots hl hR hq hc hs
        exact lv_icmp_ge hx hb hd (tgt := z_tgt pc off) ht (fun z => absurd z hcd) (fun _ => kk H locs lsA cells slots hl hR hq hc hs)
    · cases h
  · cases h
theorem zs_if_gt (off : Int) : z_Stp (.ifCond .gt off) := by
  rintro ⟨p, l, e, R, s, m, args, below, meth, c, Q, D, n0, nst, kst, E, Amb⟩ mid lev len pc ls st n k G pc' ls' st' n' k' G' ⟨hx, hb, hr, hml, hown, hts, hin, hfr, hlo, hrk, hNw, hA⟩ hi h
  obtain ⟨hd, hlen⟩ := z_insd hi
  have hlen : len = 3 := of_decide_eq_true hlen
  subst hlen
  simp only [z_step] at h
  split at h
  · unfold z_cj at h
    split at h
    · next h0 =>
      have ht : (pc : Int) + off = (z_tgt pc off : Int) := by unfold z_tgt; omega
      split at h
      · next hb0 =>
        have hcd := of_decide_eq_true hb0
        obtain ⟨rfl, rfl, rfl, rfl, rfl, rfl⟩ := z_nx_in h
        refine ⟨Nat.le_refl _, Nat.le_refl _, fun _ kk => ?_⟩
        intro H locs lsA cells slots hl hR hq hc hs
        exact lv_if_gt hx hb hd (tgt := z_tgt pc off) ht (fun _ => kk H locs lsA cells slots hl hR hq hc hs) (fun z => absurd hcd z)
      · next hb0 =>
        have hcd := of_decide_eq_false hb0
        obtain ⟨rfl, rfl, rfl, rfl, rfl, rfl⟩ := z_nx_in h
        refine ⟨Nat.le_refl _, Nat.le_refl _, fun _ kk => ?_⟩
        intro H locs lsA cells slots hl hR hq hc hs
        exact lv_if_gt hx hb hd (tgt := z_tgt pc off) ht (fun z => absurd z hcd) (fun _ => kk H locs lsA cells slots hl hR hq hc hs)
    · cases h
  · cases h
theorem zs_icmp_gt (off : Int) : z_Stp (.if_icmp .gt off) := by
  rintro ⟨p, l, e, R, s, m, args, below, meth, c, Q, D, n0, nst, kst, E, Amb⟩ mid lev len pc ls st n k G pc' ls' st' n' k' G' ⟨hx, hb, hr, hml, hown, hts, hin, hfr, hlo, hrk, hNw, hA⟩ hi h
  obtain ⟨hd, hlen⟩ := z_insd hi
  have hlen : len = 3 := of_decide_eq_true hlen
  subst hlen
  simp only [z_step] at h
  split at h
  · unfold z_cj at h
    split at h
    · next h0 =>
      have ht : (pc : Int) + off = (z_tgt pc off : Int) := by unfold z_tgt; omega
      split at h
      · next hb0 =>
        have hcd := of_decide_eq_true hb0
        obtain ⟨rfl, rfl, rfl, rfl, rfl, rfl⟩ := z_nx_in h
        refine ⟨Nat.le_refl _, Nat.le_refl _, fun _ kk => ?_⟩
        intro H locs lsA cells slots hl hR hq hc hs
        exact lv_icmp_gt hx hb hd (tgt := z_tgt pc off) ht (fun _ => kk H locs lsA cells slots hl hR hq hc hs) (fun z => absurd hcd z)
      · next hb0 =>
        have hcd := of_decide_eq_false hb0
        obtain ⟨rfl, rfl, rfl, rfl, rfl, rfl⟩ := z_nx_in h
        refine ⟨Nat.le_refl _, Nat.le_refl _, fun _ kk => ?_⟩
        intro H locs lsA cells slots hl hR hq hc hs
        exact lv_icmp_gt hx hb hd (tgt := z_tgt pc off) ht (fun z => absurd z hcd) (fun _ => kk H locs lsA cells slots hl hR hq hc hs)
    · cases h
  · cases h
theorem zs_if_le (off : Int) : z_Stp (.ifCond .le off) := by
  rintro ⟨p, l, e, R, s, m, args, below, meth, c, Q, D, n0, nst, kst, E, Amb⟩ mid lev len pc ls st n k G pc' ls' st' n' k' G' ⟨hx, hb, hr, hml, hown, hts, hin, hfr, hlo, hrk, hNw, hA⟩ hi h
  obtain ⟨hd, hlen⟩ := z_insd hi
  have hlen : len = 3 := of_decide_eq_true hlen
  subst hlen
  simp only [z_step] at h
  split at h
  · unfold z_cj at h
    split at h
    · next h0 =>
      have ht : (pc : Int) + off = (z_tgt pc off : Int) := by unfold z_tgt; omega
      split at h
      · next hb0 =>
        have hcd := of_decide_eq_true hb0
        obtain ⟨rfl, rfl, rfl, rfl, rfl, rfl⟩ := z_nx_in h
        refine ⟨Nat.le_refl _, Nat.le_refl _, fun _ kk => ?_⟩
        intro H locs lsA cells slots hl hR hq hc hs
        exact lv_if_le hx hb hd (tgt := z_tgt pc off) ht (fun _ => kk H locs lsA cells slots hl hR hq hc hs) (fun z => absurd hcd z)
      · next hb0 =>
        have hcd := of_decide_eq_false hb0
        obtain ⟨rfl, rfl, rfl, rfl, rfl, rfl⟩ := z_nx_in h
        refine ⟨Nat.le_refl _, Nat.le_refl _, fun _ kk => ?_⟩
        intro H locs lsA cells slots hl hR hq hc hs
        exact lv_if_le hx hb hd (tgt := z_tgt pc off) ht (fun z => absurd z hcd) (fun _ => kk H locs lsA cells slots hl hR hq hc hs)
    · cases h
  · cases h
theorem zs_icmp_le (off : Int) : z_Stp (.if_icmp .le off) := by
  rintro ⟨p, l, e, R, s, m, args, below, meth, c, Q, D, n0, nst, kst, E, Amb⟩ mid lev len pc ls st n k G pc' ls' st' n' k' G' ⟨hx, hb, hr, hml, hown, hts, hin, hfr, hlo, hrk, hNw, hA⟩ hi h
  obtain ⟨hd, hlen⟩ := z_insd hi
  have hlen : len = 3 := of_decide_eq_true hlen
  subst hlen
  simp only [z_step] at h
  split at h
  · unfold z_cj at h
    split at h
    · next h0 =>
      have ht : (pc : Int) + off = (z_tgt pc off : Int) := by unfold z_tgt; omega
      split at h
      · next hb0 =>
        have hcd := of_decide_eq_true hb0
        obtain ⟨rfl, rfl, rfl, rfl, rfl, rfl⟩ := z_nx_in h
        refine ⟨Nat.le_refl _, Nat.le_refl _, fun _ kk => ?_⟩
        intro H locs lsA cells slots hl hR hq hc hs
        exact lv_icmp_le hx hb hd (tgt := z_tgt pc off) ht (fun _ => kk H locs lsA cells slots hl hR hq hc hs) (fun z => absurd hcd z)
      · next hb0 =>
        have hcd := of_decide_eq_false hb0
        obtain ⟨rfl, rfl, rfl, rfl, rfl, rfl⟩ := z_nx_in h
        refine ⟨Nat.le_refl _, Nat.le_refl _, fun _ kk => ?_⟩
        intro H locs lsA cells slots hl hR hq hc hs
        exact lv_icmp_le hx hb hd (tgt := z_tgt pc off) ht (fun z => absurd z hcd) (fun _ => kk H locs lsA cells slots hl hR hq hc hs)
    · cases h
  · cases h
