/-! THE WALK OF ANY METHOD. -/
/-- what is true of each method -/
def z_OKY (y : Nat) : Prop := plainName (z_nm y).cls = true ∧ 1 ≤ z_rk y ∧ (z_init y = true → (z_nm y).name = "<init>") ∧ (z_rtA y = true → ∃ rt, z_rt y = some rt ∧ ((∃ n, rt = .object n) ∨ ∃ t, rt = .array t))
def z_OKk (mid j y na np ci : Nat) : Nat → Prop
  | 0 => na = np + 1 ∧ Jvm.Cond.methodLink (z_nm mid).cls j (z_nm y) ∈ z_T ∧ Jvm.Cond.instanceMethod (z_nm y) ∈ z_T ∧ Jvm.Cond.selects (z_nm y).cls (z_nm y) (z_nm y) ∈ z_T ∧ ∃ (T : u_T) (N : Nat), z_cl[ci]? = some ((z_nm y).cls, T, N)
  | 1 => na = np ∧ Jvm.Cond.methodLink (z_nm mid).cls j (z_nm y) ∈ z_T ∧ Jvm.Cond.static (z_nm y) ∈ z_T
  | 2 => na = np + 1 ∧ Jvm.Cond.methodLink (z_nm mid).cls j (z_nm y) ∈ z_T ∧ Jvm.Cond.instanceMethod (z_nm y) ∈ z_T ∧ (z_nm y).name = "<init>" ∧ z_rt y = none
  | 3 => na = np + 1 ∧ (∃ host, Jvm.Cond.methodLinkNest (z_nm mid).cls j (z_nm y) host ∈ z_N) ∧ Jvm.Cond.instanceMethod (z_nm y) ∈ z_T ∧ Jvm.Cond.selects (z_nm y).cls (z_nm y) (z_nm y) ∈ z_T ∧ ∃ (T : u_T) (N : Nat), z_cl[ci]? = some ((z_nm y).cls, T, N)
  | 4 => na = np ∧ (∃ host, Jvm.Cond.methodLinkNest (z_nm mid).cls j (z_nm y) host ∈ z_N) ∧ Jvm.Cond.static (z_nm y) ∈ z_T
  | 5 => na = np + 1 ∧ (∃ host, Jvm.Cond.methodLinkNest (z_nm mid).cls j (z_nm y) host ∈ z_N) ∧ Jvm.Cond.instanceMethod (z_nm y) ∈ z_T ∧ (z_nm y).name = "<init>" ∧ z_rt y = none
  | _ => False
def z_OKM (mid j : Nat) : Prop := ∀ (kind y na self lv ci : Nat) (t : List Nat), z_me mid j = kind :: y :: na :: self :: lv :: ci :: t → z_prm y = false →
  Jvm.Cond.code (z_nm y) (z_by y) (z_ml y) (z_rt y) ∈ z_T ∧ Jvm.Cond.initialized (z_nm y).cls ∈ z_T ∧ (z_nm y).cls ≠ "java/lang/invoke/MethodHandle" ∧ (z_nm y).cls ≠ "java/lang/invoke/VarHandle" ∧ z_ml y ≤ 21 ∧ z_OKY y ∧
  ∃ np : Nat, (parseMethodDescriptor (z_nm y).desc).map (fun d => d.parameters.length) = some np ∧ z_OKk mid j y na np ci kind
def z_room (r mc ms : Nat) : Room := { frames := r, cells := mc, slots := ms, locals := 40 * r }
def z_Pc (E : z_E) (Amb : State → Heap → Prop) (n0 : Nat) (D : va_G) (as : List Value) (n : Nat) (G : z_H) : Array Value → State → Prop := va_Pc as (fun U => z_Rel E Amb n0 D U n G U.heap ∧ z_Nw U)
def z_Qc (E : z_E) (Amb : State → Heap → Prop) (n0 : Nat) (D : va_G) (r : Option Value) (n : Nat) (G : z_H) : Array Value → State → Outcome → State → Prop := fun _ _ o t => o = .returned r ∧ z_Rel E Amb n0 D t n G t.heap
def z_Met (l : Launch) (E : z_E) (Amb : State → Heap → Prop) (n0 : Nat) (D : va_G) (y lev : Nat) (as : List Value) (n k : Nat) (G : z_H) (r : Option Value) (n' k' : Nat) (G' : z_H) : Prop :=
  Met l (z_nm y) (z_wd y) (z_room (z_rk y + lev) (n' - n) (k' - k)) (z_Pc E Amb n0 D as n G) (z_Qc E Amb n0 D r n' G') (n' - n) (k' - k) (fun q => n0 ≤ q)
theorem z_blind {E : z_E} {Amb : State → Heap → Prop} {n0 : Nat} {D : va_G} {as : List Value} {n : Nat} {G : z_H} (hA : z_AmbOK n0 Amb) : FrameBlind (z_Pc E Amb n0 D as n G) := by
  intro a U g mk q
  obtain ⟨q1, q2, q3⟩ := q
  exact ⟨q1, z_Rel.moved (u := U) (U := U.calling g mk a) hA (Vm.Alike.refl U.vm) q2, z_Nw.same (u := U) (U := U.calling g mk a) rfl q3⟩
theorem z_goodwd {y : Nat} (h : Jvm.Cond.code (z_nm y) (z_by y) (z_ml y) (z_rt y) ∈ z_T) : GoodIn z_T (z_wd y) := by
  intro w hw
  have hm : w ∈ z_T := by
    rcases List.mem_cons.mp hw with e | e
    · rw [e]; exact h
    · exact e
  exact ⟨hm, good_of_word (List.mem_filter.mp hm).2⟩
/-- behind a call: what came back -/
theorem z_after {p : Program} {l : Launch} {e : Env} {R : Room} {s : State} {m : MethodId} {args : Array Value} {below : List Frame} {meth : Method} {c : Code} {Q : State → Prop} {D : va_G} {n0 nst kst : Nat} {E : z_E} {Amb : State → Heap → Prop} {mid pc : Nat} {ls : z_L} {rest st : List Value} {n k : Nat} {v : Option Value} {n1 k1 : Nat} {G1 : z_H} {H : Heap} {locs : List Loc} {lsA : Array Slot} {cells slots : Nat} {av : Array Value}
    (hA : z_AmbOK n0 Amb) (hn : n ≤ n1) (hk : k ≤ k1) (kk : z_WW (p, l, e, R, s, m, args, below, meth, c, Q, D, n0, nst, kst, E, Amb) (pc + 3) mid ls (z_pu v rest) n1 k1 G1)
    (hl : z_Rl mid lsA ls) (hq : ∀ q ∈ locs, n0 ≤ q.base) (hc : cells + nst = n) (hs : slots + kst = k)
    (hr : va_Run p l e R s m args below meth c H locs cells slots (n1 - n) (k1 - k) (F0 m pc lsA st) rest (z_Qc E Amb n0 D v n1 G1 av) (fun q => n0 ≤ q)) : W p l e R s m args below meth c H locs cells slots Q (F0 m pc lsA st) := by
  intro T hT X
  obtain ⟨v', st₀, t, T', L, h0, X', hL, e1, e2, ⟨hv, hRt⟩, st'⟩ := hr T hT X
  cases hv
  have hR1 : z_Rel E Amb n0 D s n1 G1 T'.heap := by
    rw [e1]
    exact z_Rel.moved hA (by rw [← e2]; exact X'.warmed.alike.symm) hRt
  obtain ⟨t2, b1, b2⟩ := kk T'.heap (locs ++ L) lsA (cells + (n1 - n)) (slots + (k1 - k)) hl hR1 (fun q hq2 => (List.mem_append.mp hq2).elim (hq q) (hL q)) (by omega) (by omega) T' rfl X'
  exact ⟨t2, st' t2 b1, b2⟩
theorem z_recv {E : z_E} {Amb : State → Heap → Prop} {n0 : Nat} {D : va_G} {s : State} {n : Nat} {G : z_H} {H : Heap} (hR : z_Rel E Amb n0 D s n G H) {a ci : Nat} {C : String} {T : u_T} {N : Nat} (hcl : z_cl[ci]? = some (C, T, N)) (h : z_clsOf G a = some ci) : ∃ cellB : Cell, H[a]? = some cellB ∧ cellB.vm.isStatics = false ∧ s.vm.findClass C = some cellB.cls := by
  unfold z_clsOf at h
  split at h
  · next ci0 fs hG =>
    cases h
    exact va_recv hR.2.2.1 (hR.P1 hG) (q0 := 0) (ci := ci) (q := (C, T, N)) hcl rfl
  · cases h
/-- a static call over a deeper stack -/
theorem z_runS18 {p : Program} {l : Launch} {e : Env} {R : Room} {s : State} {m : MethodId} {args : Array Value} {below : List Frame} {meth : Method} {c : Code} {H : Heap} {locs : List Loc} {cells slots : Nat} {y : MethodName} {bytes cc : ByteArray} {maxL nL mc ms n index : Nat} {ret : Option FieldType} {ws ws' : List Cond} {rm : Room} {Pc : Array Value → State → Prop} {Qc : Array Value → State → Outcome → State → Prop} {free : Addr → Prop} {Ts : List Cond} {own : String} {As rest : List Value} {g : JFrame}
    (S : CallFix p m c cc nL s args Ts own) (hM : Met l y ws rm Pc Qc mc ms free) (ht : ∀ w ∈ Ts, w.before args s = true) (hG : GoodIn Ts ws) (hw : ws = Cond.code y bytes maxL ret :: ws') (hrc : rm.cells = mc) (hrs : rm.slots = ms) (hini : (Cond.initialized y.cls).before args s = true) (hl : (Cond.methodLink own index y).before args s = true)
    (hd : y.cls ≠ "java/lang/invoke/MethodHandle" ∧ y.cls ≠ "java/lang/invoke/VarHandle" ∧ (parseMethodDescriptor y.desc).map (fun d => d.parameters.length) = some n) (hfr : rm.frames + 1 ≤ R.frames) (hlo : 18 + (maxL + 11) + rm.locals ≤ R.locals) (hstt : (Cond.static y).before args s = true) (hp : PreS s H Pc As)
    (hg : g.method = m) (hn : As.length = n) (hsize : g.locals.size = nL) (hstack : g.stack = As.reverse ++ rest) (hW : 2 * g.monitorRoom + (rest.map fun v => v.category).sum ≤ 18) (hdg : decode cc g.pc = .ok (.invokestatic index, 3)) (hf : cells + mc ≤ R.cells ∧ slots + ms ≤ R.slots) :
    va_Run p l e R s m args below meth c H locs cells slots mc ms g rest (Qc As.toArray) (free) := by
  have hcin : Cond.code y bytes maxL ret ∈ ws := by rw [hw]; exact List.mem_cons_self
  have hcode : (Cond.code y bytes maxL ret).before args s = true := ht _ (hG _ hcin).1
  have hlen : ∀ sig, parseMethodDescriptor y.desc = some sig → n = sig.parameters.length := by
    intro sig h
    have h2 := hd.2.2
    rw [h] at h2
    exact (Option.some.inj h2).symm
  have hK : Back l R p e below s args y 3 18 (PreOf R mc ms Pc) (PostOf Qc mc ms free) := back_of (bytes := bytes) (maxL := maxL) (ret := ret) hM hp.1 hrc hrs hfr hlo (pay_in ht hG) hcin (fun a' U hW => word_at hW (Or.inl (by first | rfl | simp [Cond.onTables, Cond.keeps, Cond.steady])) hini)
  obtain ⟨hx, hb, hml, ho, -⟩ := S
  intro T hT X
  obtain ⟨v, vm₁, ⟨U', l2, c2, s2⟩, hW₁, X', ⟨g', mk, t, L, e1, e2, hq, h1, hL, h2, h3⟩, st⟩ := callS X hx (bytes := bytes) (maxL := maxL) (ret := ret) ho hl hstt hini hcode ⟨hd.1, hd.2.1⟩ hK hg (hsize.trans hml.symm) (argsL := As) (rest := rest) (fun sig h => hn.trans (hlen sig h)) hstack hW (by rw [hb]; exact hdg)
    (fun vm₁ hW₁ => ⟨hf.1, hf.2, hp.2 (T.setVm vm₁) hT hW₁⟩)
  dsimp only [Pt.U, Pt.locs, Pt.cells, Pt.slots] at X' e1 e2 h1 h2 h3 st
  subst h1; subst h2; subst h3
  exact ⟨v, (T.setVm vm₁).calling g' mk As.toArray, t, U', L, hT, X', hL, e1, e2, hq, st⟩
theorem z_cat18 {r : List Value} (h : r.length ≤ 9) : (r.map fun v => v.category).sum ≤ 18 := by
  have key : ∀ (q : List Value), (q.map fun v => v.category).sum ≤ 2 * q.length := by
    intro q
    induction q with
    | nil => exact Nat.le_refl _
    | cons v t ih =>
      simp only [List.map_cons, List.sum_cons, List.length_cons]
      rcases lv_cat v with e | e <;> omega
  exact Nat.le_trans (key r) (by omega)
/-- a callee's contract, in the caller's setting -/
def z_MetX : z_X → Nat → Nat → List Value → Nat → Nat → z_H → Option Value → Nat → Nat → z_H → Prop := fun (_, l, _, _, _, _, _, _, _, _, _, D, n0, _, _, E, Amb) y lv as n k G v n1 k1 G1 => z_Met l E Amb n0 D y lv as n k G v n1 k1 G1
set_option maxHeartbeats 4000000 in
theorem zs_call {X : z_X} {mid lev j pc : Nat} {ls : z_L} {st : List Value} {n k : Nat} {G : z_H} {i : Instr} {y lv : Nat} {as : List Value} {rest : List Value} {kind ci : Nat} {na self lv0 : Nat} {t0 : List Nat} {v : Option Value} {n1 k1 : Nat} {G1 : z_H}
    (C : z_Cx X mid lev) (hOK : z_OKM mid j) (hi : z_ins mid pc = some (i, 3)) (hik : (i = .invokevirtual j ∧ (kind = 0 ∨ kind = 3)) ∨ (i = .invokestatic j ∧ (kind = 1 ∨ kind = 4)) ∨ (i = .invokespecial j ∧ (kind = 2 ∨ kind = 5)))
    (he : z_me mid j = kind :: y :: na :: self :: lv0 :: ci :: t0) (hp : z_prm y = false) (hst : st = as.reverse ++ rest) (hna : as.length = na) (hr4 : z_dp kind y rest.length = true) (hrc : z_rcv kind G as ci = true)
    (hrk : z_rk y + lv < z_rk mid + lev) (hn : n ≤ n1) (hk : k ≤ k1)
    (hM : z_MetX X y lv as n k G v n1 k1 G1) (hL : z_Lim X n1 k1) (kk : z_WW X (pc + 3) mid ls (z_pu v rest) n1 k1 G1) : z_WW X pc mid ls st n k G := by
  obtain ⟨p, l, e, R, s, m, args, below, meth, c, Q, D, n0, nst, kst, E, Amb⟩ := X
  obtain ⟨hx, hb, hr, hml, hown, hts, hin, hfr, hlo, hrk1, hNw, hA⟩ := C
  obtain ⟨hL1, hL2⟩ : n1 ≤ nst + R.cells ∧ k1 ≤ kst + R.slots := hL
  obtain ⟨hd, -⟩ := z_insd hi
  have hM : z_Met l E Amb n0 D y lv as n k G v n1 k1 G1 := hM
  intro H locs lsA cells slots hl hR hq hc hs
  obtain ⟨hcode, hini, hmh, hvh, hml21, -, np, hnp, hcase⟩ := hOK _ _ _ _ _ _ _ he hp
  have S : CallFix p m c (z_by mid) (z_ml mid) s args z_T (z_nm mid).cls := ⟨hx, hb, hml, hown, hts⟩
  have hGI := z_goodwd hcode
  have hpre : ∀ U : State, U.heap = H → s.WarmedH U.vm → z_Pc E Amb n0 D as n G as.toArray U := fun U hU hW => ⟨rfl, by rw [hU]; exact z_Rel.moved hA hW.alike hR, z_Nw.warm hW hNw⟩
  have hroom : (z_room (z_rk y + lv) (n1 - n) (k1 - k)).frames + 1 ≤ R.frames ∧ 8 + (z_ml y + 11) + (z_room (z_rk y + lv) (n1 - n) (k1 - k)).locals ≤ R.locals := by
    constructor
    · show z_rk y + lv + 1 ≤ _; omega
    · show 8 + (z_ml y + 11) + 40 * (z_rk y + lv) ≤ _; omega
  have hf : cells + (n1 - n) ≤ R.cells ∧ slots + (k1 - k) ≤ R.slots := ⟨by omega, by omega⟩
  refine z_after (av := as.toArray) hA hn hk kk hl hq hc hs ?_
  by_cases hl4 : rest.length ≤ 4
  case neg =>
    have hdp : kind = 1 ∧ rest.length ≤ 9 ∧ z_ml y ≤ 11 := by
      unfold z_dp at hr4
      simp only [hl4, decide_false, Bool.false_or, Bool.and_eq_true, beq_iff_eq, decide_eq_true_eq] at hr4
      exact ⟨hr4.1.1.1, hr4.1.1.2, hr4.1.2⟩
    obtain ⟨rfl, h9, h11⟩ := hdp
    rcases hik with ⟨-, hkd⟩ | ⟨rfl, hkd⟩ | ⟨-, hkd⟩
    · exact absurd hkd (by decide)
    · obtain ⟨hna2, hlk, hsta⟩ := hcase
      refine z_runS18 S hM hts hGI rfl rfl rfl (hts _ hini) (hts _ hlk) ⟨hmh, hvh, hnp⟩ hroom.1 ?_ (hts _ hsta) ⟨z_blind hA, hpre⟩ rfl (by omega) hl.1.1 hst ?_ hd hf
      · show 18 + (z_ml y + 11) + 40 * (z_rk y + lv) ≤ _
        omega
      · show 0 + _ ≤ 18
        have := z_cat18 h9
        omega
    · exact absurd hkd (by decide)
  have h8 := z_cat8 hl4
  have hW8 : 2 * (F0 m pc lsA st).monitorRoom + (rest.map fun v => v.category).sum ≤ 8 := lv_room h8
  rcases hik with ⟨rfl, hkd⟩ | ⟨rfl, hkd⟩ | ⟨rfl, hkd⟩
  · -- virtual
    obtain ⟨a, As, rfl⟩ : ∃ a As, as = .ref a :: As := by
      rcases hkd with rfl | rfl
      · unfold z_rcv at hrc
        split at hrc <;> first | exact ⟨_, _, rfl⟩ | (exfalso; simp_all)
      · unfold z_rcv at hrc
        split at hrc <;> first | exact ⟨_, _, rfl⟩ | (exfalso; simp_all)
    have hci : z_clsOf G a = some ci := by
      rcases hkd with rfl | rfl
      · exact of_decide_eq_true hrc
      · exact of_decide_eq_true hrc
    have hst2 : st = As.reverse ++ .ref a :: rest := by rw [hst]; simp
    rcases hkd with rfl | rfl
    · obtain ⟨hna2, hlk, hin2, hsel, T, N, hcl⟩ := hcase
      refine va_runV S hM ⟨callB_of np hts hGI rfl rfl rfl (hts _ hini) (hts _ hlk) ⟨hmh, hvh, hnp⟩ hroom, hts _ hin2, hts _ hsel⟩ ⟨z_blind hA, z_recv hR hcl hci, hpre⟩ rfl ?_ hl.1.1 hst2 hW8 hd hf
      rw [List.length_cons] at hna; omega
    · obtain ⟨hna2, ⟨host, hlk⟩, hin2, hsel, T, N, hcl⟩ := hcase
      refine va_runVN S hM ⟨va_cnB np hts hGI rfl rfl rfl (hNw _ hlk) (hts _ hini) ⟨hmh, hvh, hnp⟩ hroom, hts _ hin2, hts _ hsel⟩ ⟨z_blind hA, z_recv hR hcl hci, hpre⟩ rfl ?_ hl.1.1 hst2 hW8 hd hf
      rw [List.length_cons] at hna; omega
  · -- static
    rcases hkd with rfl | rfl
    · obtain ⟨hna2, hlk, hsta⟩ := hcase
      exact va_runS S hM ⟨callB_of np hts hGI rfl rfl rfl (hts _ hini) (hts _ hlk) ⟨hmh, hvh, hnp⟩ hroom, hts _ hsta⟩ ⟨z_blind hA, hpre⟩ rfl (by omega) hl.1.1 hst hW8 hd hf
    · obtain ⟨hna2, ⟨host, hlk⟩, hsta⟩ := hcase
      exact va_runSN S hM ⟨va_cnB np hts hGI rfl rfl rfl (hNw _ hlk) (hts _ hini) ⟨hmh, hvh, hnp⟩ hroom, hts _ hsta, trivial⟩ ⟨z_blind hA, hpre⟩ rfl (by omega) hl.1.1 hst hW8 hd hf
  · -- special
    obtain ⟨a, As, rfl⟩ : ∃ a As, as = .ref a :: As := by
      rcases hkd with rfl | rfl
      · unfold z_rcv at hrc
        split at hrc <;> first | exact ⟨_, _, rfl⟩ | (exfalso; simp_all)
      · unfold z_rcv at hrc
        split at hrc <;> first | exact ⟨_, _, rfl⟩ | (exfalso; simp_all)
    have hst2 : st = As.reverse ++ .ref a :: rest := by rw [hst]; simp
    rcases hkd with rfl | rfl
    · obtain ⟨hna2, hlk, hin2, hname, hrt⟩ := hcase
      have hw2 : z_wd y = Jvm.Cond.code (z_nm y) (z_by y) (z_ml y) none :: z_T := by unfold z_wd; rw [hrt]
      refine va_runI S hM ⟨callB_of np hts hGI hw2 rfl rfl (hts _ hini) (hts _ hlk) ⟨hmh, hvh, hnp⟩ hroom, hname, hts _ hin2⟩ ⟨z_blind hA, hpre⟩ rfl ?_ hl.1.1 hst2 hW8 hd hf
      rw [List.length_cons] at hna; omega
    · obtain ⟨hna2, ⟨host, hlk⟩, hin2, hname, hrt⟩ := hcase
      have hw2 : z_wd y = Jvm.Cond.code (z_nm y) (z_by y) (z_ml y) none :: z_T := by unfold z_wd; rw [hrt]
      refine va_runIN S hM ⟨va_cnB np hts hGI hw2 rfl rfl (hNw _ hlk) (hts _ hini) ⟨hmh, hvh, hnp⟩ hroom, hname, hts _ hin2⟩ ⟨z_blind hA, hpre⟩ rfl ?_ hl.1.1 hst2 hW8 hd hf
      rw [List.length_cons] at hna; omega
def z_Ret (X : z_X) (mid lev : Nat) (r : Option Value) (n k : Nat) (G : z_H) : Prop := ∀ (len pc : Nat) (ls : z_L) (st : List Value) (i : Instr), z_ins mid pc = some (i, len) → z_step (z_Ex X) mid lev i len pc ls st n k G = some (.inl r) → z_WW X pc mid ls st n k G
theorem z_vl_nr {o : Option Value} {pc : Nat} {ls : z_L} {st : List Value} {n k : Nat} {G : z_H} {r : Option Value} (h : z_vl o pc ls st n k G = some (.inl r)) : False := by
  unfold z_vl at h; split at h <;> cases h
theorem z_hp_nr {o : Option z_H} {pc : Nat} {ls : z_L} {st : List Value} {n k : Nat} {r : Option Value} (h : z_hp o pc ls st n k = some (.inl r)) : False := by
  unfold z_hp at h; split at h <;> cases h
theorem z_st_nr {o : Option z_L} {pc : Nat} {st : List Value} {n k : Nat} {G : z_H} {r : Option Value} (h : z_st o pc st n k G = some (.inl r)) : False := by
  unfold z_st at h; split at h <;> cases h
theorem z_jp_nr {pc : Nat} {off : Int} {ls : z_L} {st : List Value} {n k : Nat} {G : z_H} {r : Option Value} (h : z_jp pc off ls st n k G = some (.inl r)) : False := by
  unfold z_jp at h; split at h <;> cases h
