/-! WHAT CATCHES -/
def z_wdH (y : Nat) (hh : List (Nat × Nat × Nat × Nat)) : List Cond := Cond.codeWith (z_nm y) (z_by y) (z_ml y) (z_rt y) hh :: z_T
def z_MetH (l : Launch) (E : z_E) (Amb : State → Heap → Prop) (n0 : Nat) (D : va_G) (y : Nat) (hh : List (Nat × Nat × Nat × Nat)) (as : List Value) (n k : Nat) (G : z_H) (v : Option Value) (n1 k1 : Nat) (G1 : z_H) : Prop :=
  vx_Met l (z_nm y) (z_wdH y hh) (z_room (z_rk y) (n1 - n) (k1 - k)) (z_Pc E Amb n0 D as n G) (z_Qc E Amb n0 D v n1 G1) (fun _ _ _ => False) (n1 - n) (k1 - k) (fun q => n0 ≤ q)
def z_tb : z_X → List (Nat × Nat × Nat × Nat) → Prop := fun (_, _, _, _, _, _, _, _, _, c, _, _, _, _, _, _, _) hh => c.exceptionTable.toList = tableOf hh
def z_HQ (X : z_X) (y : Nat) (hh : List (Nat × Nat × Nat × Nat)) (r : Int32) (n1 k1 : Nat) (G1 : z_H) : Prop := (∀ pc ls, decode (z_by y) pc = .ok (.ireturn, 1) → z_WW X pc y ls [.int r] n1 k1 G1) ∧ z_tb X hh
theorem z_metH_of {E : z_E} {y : Nat} {as : List Value} {le : z_L} {n k : Nat} {G : z_H} {r : Int32} {n1 k1 : Nat} {G1 : z_H} {hh : List (Nat × Nat × Nat × Nat)} (hY : z_OKY y) (hrt : z_rt y = some .int) (he : z_ent y as = some le) (hn : n ≤ n1) (hk : k ≤ k1)
    (h : ∀ X : z_X, z_Cx X y 0 → z_Ex X = E → z_Gd z_Gd0 X → z_Lim X n1 k1 → z_HQ X y hh r n1 k1 G1 → z_WW X 0 y le [] n k G) (l : Launch) (Amb : State → Heap → Prop) (n0 : Nat) (D : va_G) (hA : z_AmbOK n0 Amb) (hg : z_Gd0 l n0 Amb) : z_MetH l E Amb n0 D y hh as n k G (some (.int r)) n1 k1 G1 := by
  refine vx_ofWH (cc := z_by y) (maxL := z_ml y) (ret := z_rt y) (hh := hh) hY.1 rfl ?_
  intro p e s m args below meth c s₁ B hml hv
  obtain ⟨rfl, hRel, hNw⟩ := hv
  have hpre : ∀ w ∈ z_wdH y hh, w.before as.toArray s = true := atoms_spec (ws := z_wdH y hh) B.pre
  have hts : ∀ w ∈ z_T, w.before as.toArray s = true := fun w hw => hpre w (List.mem_cons_of_mem _ hw)
  have ht : c.exceptionTable.toList = tableOf hh := vx_table (x := z_nm y) B (hpre _ List.mem_cons_self)
  have hown : s.vm.findClass (z_nm y).cls = some m.cls := findClass_of_methodNamed B.named
  have hnm : meth.name = (z_nm y).name := (name_of_methodNamed B.named B.method).1
  have hlocks := B.notSynchronized
  have hRl := z_entRl he
  rw [lg_entry_eq]
  generalize (lg_sl as ++ List.replicate (z_ml y - (lg_sl as).length) Slot.unset).toArray = lsA at hRl ⊢
  refine h (p, l, e, (headSpec (z_wdH y hh) (z_room (z_rk y) (n1 - n) (k1 - k))).room, s, m, as.toArray, below, meth, c, vx_MQ below (z_Qc E Amb n0 D (some (.int r)) n1 G1) (fun _ _ _ => False) as.toArray s (n1 - n) (k1 - k) (fun q => n0 ≤ q), D, n0, n, k, E, Amb)
    ⟨B.exec, B.bytes, B.returns, hml, hown, hts, fun hi => by rw [hnm]; exact hY.2.2.1 hi, Nat.le_refl _, Nat.le_refl _, hY.2.1, hNw, hA⟩ rfl hg ⟨by show n1 ≤ n + (n1 - n); omega, by show k1 ≤ k + (k1 - k); omega⟩ ⟨?_, ht⟩ s.heap [] lsA 0 0 hRl hRel (fun q hq => nomatch hq) (by omega) (by omega)
  intro pc ls hd H locs lsB cells slots hl hR hq hc hs
  have hc' : cells = n1 - n := by omega
  have hs' : slots = k1 - k := by omega
  subst hc' hs'
  exact vx_ret (W.iret B.exec B.bytes (by rw [B.returns]; exact hrt) (fun t ht2 hW => ⟨rfl, by rw [ht2]; exact hR.moved hA hW.alike⟩) hq hd)
/-- thrown over a frame at pc, one cell more -/
def z_KX : z_X → Nat → Nat → z_L → List Value → Nat → Nat → z_H → String → Prop := fun (p, l, e, R, s, m, args, below, meth, c, Q, D, n0, nst, kst, E, Amb) pc mid ls rest n k G cn =>
  ∀ (q : Addr) (ce : Cell) (H1 : Heap) (locs1 : List Loc) (lsA : Array Slot) (cells slots : Nat), z_Rl mid lsA ls → z_Rel E Amb n0 D s (n + 1) G H1 → (∀ z ∈ locs1, n0 ≤ z.base) → cells + nst = n + 1 → slots + kst = k + 6 → H1[q]? = some ce → ce.vm = .none → s.vm.findClass cn = some ce.cls → vx_W p l e R s m args below meth c H1 locs1 cells slots Q (F0 m pc lsA rest) q
theorem z_afterX {p : Program} {l : Launch} {e : Env} {R : Room} {s : State} {m : MethodId} {args : Array Value} {below : List Frame} {meth : Method} {c : Code} {Q : State → Prop} {D : va_G} {n0 nst kst : Nat} {E : z_E} {Amb : State → Heap → Prop} {mid pc : Nat} {ls : z_L} {st rest : List Value} {n k : Nat} {G : z_H} {cn : String} {H : Heap} {locs : List Loc} {lsA : Array Slot} {cells slots : Nat} {Qa : State → Outcome → State → Prop} (hQa : ∀ a b t, ¬ Qa a b t)
    (hA : z_AmbOK n0 Amb) (kk : z_KX (p, l, e, R, s, m, args, below, meth, c, Q, D, n0, nst, kst, E, Amb) pc mid ls rest n k G cn)
    (hl : z_Rl mid lsA ls) (hq : ∀ q ∈ locs, n0 ≤ q.base) (hc : cells + nst = n) (hs : slots + kst = k)
    (hr : vx_Run p l e R s m args below meth c H locs cells slots 1 6 (F0 m pc lsA st) rest Qa (z_XC E Amb n0 D cn (n + 1) G) (fun q => n0 ≤ q)) : W p l e R s m args below meth c H locs cells slots Q (F0 m pc lsA st) := by
  intro T hT X
  rcases hr T hT X with ⟨v, st₀, t, T', L, h0, X', hL, e1, e2, hF, st'⟩ | ⟨q, st₀, t, T', L, E', ce, h0, X', hL, e1, e2, ⟨rfl, hRt⟩, hce, hcv, hcl, st'⟩
  · exact (hQa _ _ _ hF).elim
  · have hR1 : z_Rel E Amb n0 D s (n + 1) G T'.heap := by
      rw [e1]
      exact z_Rel.moved hA (by rw [← e2]; exact X'.warmed.alike.symm) hRt
    obtain ⟨t2, a1, b1⟩ := kk q ce T'.heap (locs ++ L) lsA (cells + 1) (slots + 6) hl hR1 (fun z hz => (List.mem_append.mp hz).elim (hq z) (hL z)) (by omega) (by omega) (by rw [e1]; exact hce) hcv hcl T' rfl X'
    exact ⟨t2, st'.trans a1, b1⟩
/-- the row x of the table takes it -/
theorem z_catch {X : z_X} {mid lev pc : Nat} {ls : z_L} {rest : List Value} {n k : Nat} {G : z_H} {cn : String} {hh : List (Nat × Nat × Nat × Nat)} (C : z_Cx X mid lev) (hg : z_Gd z_Gd0 X) (ht : z_tb X hh) (pre : List (Nat × Nat × Nat × Nat)) (x : Nat × Nat × Nat × Nat) (suf : List (Nat × Nat × Nat × Nat)) (hs : hh = pre ++ x :: suf)
    (hpass : ∀ z ∈ pre, z.2.2.2 ≠ 0 ∧ ∃ nm : String, Cond.classLink (z_nm mid).cls z.2.2.2 nm ∈ z_T ∧ ∀ (n0 : Nat) (U : State) (H : Heap), z_Amb n0 U H → va_Nc cn nm U) (hx : x.1 ≤ pc ∧ pc < x.2.1) (h0 : x.2.2.2 ≠ 0)
    (hlink : Cond.classLink (z_nm mid).cls x.2.2.2 cn ∈ z_T) (hcast : Cond.castable cn cn ∈ z_N)
    (kk : ∀ q, z_WW X x.2.2.1 mid ls [.ref q] (n + 1) (k + 6) G) : z_KX X pc mid ls rest n k G cn := by
  obtain ⟨p, l, e, R, s, m, args, below, meth, c, Q, D, n0, nst, kst, E, Amb⟩ := X
  obtain ⟨hx0, hb, hr, hml, hown, hts, hin, hfr0, hlo0, hrk1, hNw, hA⟩ := C
  obtain ⟨hfl, hAmb⟩ : l.stackTraces = false ∧ Amb = z_Amb n0 := hg
  have ht : c.exceptionTable.toList = tableOf hh := ht
  intro q ce H1 locs1 lsA cells slots hl hR hq hc hsl hcell hv hcl
  have hAm : z_Amb n0 s H1 := by have := hR.2.2.2.2.2.1; rw [hAmb] at this; exact this
  refine vx_catch (own := (z_nm mid).cls) (name := cn) (E := cn) hown (tableOf pre) { startPc := x.1, endPc := x.2.1, handlerPc := x.2.2.1, catchType := x.2.2.2 } (tableOf suf) (by rw [ht, hs]; unfold tableOf; rw [List.map_append, List.map_cons]) ?_ ?_ h0 (hts _ hlink) (va_tabs rfl rfl (hNw _ hcast)) hcell hv hcl (kk q H1 locs1 lsA cells slots hl hR hq hc hsl)
  · intro z hz
    unfold tableOf at hz
    obtain ⟨w, hw, rfl⟩ := List.mem_map.mp hz
    obtain ⟨g0, nm, g1, g2⟩ := hpass w hw
    exact Or.inr ⟨g0, nm, hts _ g1, g2 n0 s H1 hAm⟩
  · unfold covers
    simp [hx.1, hx.2]
