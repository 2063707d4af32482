/-! THE CLAIM OUT OF ONE WALK OF THE LAW'S BODY. Your part is whole_start (and what it stands on); all else here is the same for every law, but numbers. -/
def R_law : String := "BellThatIsADoorLaw"
def lw_P (b : Addr) (xs : List Int32) (args : Array Value) (s : State) : Prop := args = #[.ref b] ∧ s.IntsAt b xs ∧ xs.length ≤ 3072 ∧ (Jvm.Cond.and given_1 narrow_1).before args s = true
def lw_Q (_ : Array Value) (s : State) (o : Outcome) (t : State) : Prop := o = .returned (some (.int 1)) ∧ Framed s o t [] 601024 7293034
def lw_Z (below : List Frame) (a : Array Value) (s : State) : State → Prop := fun t => ∃ o, t.status = .running ∧ Ended t below o ∧ lw_Q a s o t
/-- the law's own end, with 1 on the stack, nothing written that was there before, its room as the claim has it -/
theorem lw_ret {p : Program} {l : Launch} {e : Env} {s : State} {m : MethodId} {below : List Frame} {meth : Method} {c : Code} {b : Nat} (hx : p.tables.exec = Jvm.exec) (hb : c.code = code) (hr : meth.sig.returnType = ret) (hlocks : meth.locks = false) {pc : Nat} {H : Heap} {ls : Array Slot} (hdg : decode code pc = .ok (.ireturn, 1)) : W p l e room_1 s m #[Value.ref b] below meth c H [] 601024 7293034 (lw_Z below #[Value.ref b] s) (F0 m pc ls [.int 1]) := by
  intro T hT X
  obtain ⟨fs, hret, hrun, hended, hW, hframe⟩ := X.leave (v := some (.int 1)) (hlocks := hlocks) (fun h => by rw [hr] at h; cases h)
  have hmeth' : T.vm.method? m = some meth := X.method'
  refine ⟨T.setFrames fs, ?_, .returned (some (.int 1)), hrun, hended, rfl, ⟨_, rfl⟩, hW, hframe⟩
  jvm_step X.here [X.here.top, hx, hb, hdg, hmeth', hr, ret, narrow_b1]
  (try refine ⟨rfl, ?_⟩); (try refine ⟨rfl, ?_⟩)
  first | (intro acts; rw [hret _ acts rfl rfl rfl]) | rw [hret _ _ rfl rfl rfl]
  exact Steps.refl _
/-- what holds at the law's entry: the machine, the code, the tables' words (any of lw_tbl by 'hts w (by decide +kernel)'), the script of L ints xs at the cell b, what the Statement gives of the start (any of its parts by flat_of_before) -/
def lw_At (p : Program) (s : State) (m : MethodId) (meth : Method) (c : Code) (b L : Nat) (xs : Nat → Int32) : Prop :=
  p.tables.exec = Jvm.exec ∧ c.code = code ∧ meth.sig.returnType = ret ∧ c.maxLocals = 8 ∧ s.vm.findClass R_law = some m.cls ∧ (∀ w ∈ lw_tbl, w.before #[Value.ref b] s = true) ∧ va_X b L xs s s.heap ∧ b < s.heap.size ∧ meth.locks = false ∧ (Jvm.Cond.and given_1 narrow_1).before #[Value.ref b] s = true
theorem ws_nw {s : State} {a : Array Value} (hts : ∀ w ∈ lw_tbl, w.before a s = true) : z_Nw s := by
  intro w hw
  have h := hts w (List.mem_filter.mp hw).1
  have hk := (List.mem_filter.mp hw).2
  unfold z_nw at hk
  split at hk
  · exact va_tabs rfl rfl h
  · exact va_tabs rfl rfl h
  · exact va_tabs rfl rfl h
  · exact h
  · exact h
  · exact va_tabs rfl rfl h
  · cases hk
theorem ws_amb {s : State} {a : Array Value} (hts : ∀ w ∈ lw_tbl, w.before a s = true) (hgv : (Jvm.Cond.and given_1 narrow_1).before a s = true) : z_Amb s.heap.size s s.heap := by
  have hf := flat_of_before _ hgv
  have hA : ∀ q : Nat, q < s.heap.size → ¬ s.heap.size ≤ q := fun q hq => Nat.not_le.mpr hq
  exact ⟨vx_Zqof (hts _ (by decide +kernel)) (hts _ (by decide +kernel)) (hf _ (by decide +kernel)) hA, vx_Zqof (hts _ (by decide +kernel)) (hts _ (by decide +kernel)) (hf _ (by decide +kernel)) hA, va_Nc.of (hf _ (by decide +kernel)), va_Nc.of (hf _ (by decide +kernel)), va_Nc.of (hf _ (by decide +kernel)), va_Nc.of (hf _ (by decide +kernel))⟩
theorem ws_fl {l : Launch} (h : l.flags = flags0) : l.stackTraces = false := by
  unfold Launch.stackTraces
  rw [h]
  decide +kernel
theorem ws_K {s : State} {a : Array Value} (hts : ∀ w ∈ lw_tbl, w.before a s = true) : ∃ D : va_G, va_K D z_cl [] s := by
  have hk : ∀ c : Nat, ∃ p : ClassId × (Nat → Nat), ∀ q, z_cl[c]? = some q → u_Kn s q.1 q.2.1 q.2.2 p.1 p.2 := by
    intro c
    rcases Nat.lt_or_ge c 13 with hc | hc
    · have hc' : c = 0 ∨ c = 1 ∨ c = 2 ∨ c = 3 ∨ c = 4 ∨ c = 5 ∨ c = 6 ∨ c = 7 ∨ c = 8 ∨ c = 9 ∨ c = 10 ∨ c = 11 ∨ c = 12 := by omega
      rcases hc' with rfl | rfl | rfl | rfl | rfl | rfl | rfl | rfl | rfl | rfl | rfl | rfl | rfl
      · obtain ⟨cC, iS, h⟩ := u_known (C := "BellThatIsADoor$Bell") (T := z_F0) (N := 6) (n := 6) hts (show ∀ w ∈ (List.range 6).map (u_lay "BellThatIsADoor$Bell" z_F0), w ∈ lw_tbl by decide +kernel) (hts _ (by decide +kernel))
        exact ⟨(cC, iS), fun q hq => by cases hq; exact h⟩
      · obtain ⟨cC, iS, h⟩ := u_known (C := "BellThatIsADoor$Hen") (T := z_F1) (N := 6) (n := 6) hts (show ∀ w ∈ (List.range 6).map (u_lay "BellThatIsADoor$Hen" z_F1), w ∈ lw_tbl by decide +kernel) (hts _ (by decide +kernel))
        exact ⟨(cC, iS), fun q hq => by cases hq; exact h⟩
      · obtain ⟨cC, iS, h⟩ := u_known (C := "BellThatIsADoor$Echo") (T := z_F2) (N := 6) (n := 6) hts (show ∀ w ∈ (List.range 6).map (u_lay "BellThatIsADoor$Echo" z_F2), w ∈ lw_tbl by decide +kernel) (hts _ (by decide +kernel))
        exact ⟨(cC, iS), fun q hq => by cases hq; exact h⟩
      · obtain ⟨cC, iS, h⟩ := u_known (C := "BellThatIsADoor$Door") (T := z_F3) (N := 6) (n := 6) hts (show ∀ w ∈ (List.range 6).map (u_lay "BellThatIsADoor$Door" z_F3), w ∈ lw_tbl by decide +kernel) (hts _ (by decide +kernel))
        exact ⟨(cC, iS), fun q hq => by cases hq; exact h⟩
      · obtain ⟨cC, iS, h⟩ := u_known (C := "BellThatIsADoor$Maid") (T := z_F4) (N := 6) (n := 6) hts (show ∀ w ∈ (List.range 6).map (u_lay "BellThatIsADoor$Maid" z_F4), w ∈ lw_tbl by decide +kernel) (hts _ (by decide +kernel))
        exact ⟨(cC, iS), fun q hq => by cases hq; exact h⟩
      · obtain ⟨cC, iS, h⟩ := u_known (C := "BellThatIsADoor$Suited") (T := z_F5) (N := 6) (n := 6) hts (show ∀ w ∈ (List.range 6).map (u_lay "BellThatIsADoor$Suited" z_F5), w ∈ lw_tbl by decide +kernel) (hts _ (by decide +kernel))
        exact ⟨(cC, iS), fun q hq => by cases hq; exact h⟩
      · obtain ⟨cC, iS, h⟩ := u_known (C := "BellThatIsADoor$Cough") (T := z_F6) (N := 6) (n := 6) hts (show ∀ w ∈ (List.range 6).map (u_lay "BellThatIsADoor$Cough" z_F6), w ∈ lw_tbl by decide +kernel) (hts _ (by decide +kernel))
        exact ⟨(cC, iS), fun q hq => by cases hq; exact h⟩
      · obtain ⟨cC, iS, h⟩ := u_known (C := "BellThatIsADoor$Marble") (T := z_F7) (N := 6) (n := 6) hts (show ∀ w ∈ (List.range 6).map (u_lay "BellThatIsADoor$Marble" z_F7), w ∈ lw_tbl by decide +kernel) (hts _ (by decide +kernel))
        exact ⟨(cC, iS), fun q hq => by cases hq; exact h⟩
      · obtain ⟨cC, iS, h⟩ := u_known (C := "BellThatIsADoor$Marsh") (T := z_F8) (N := 11) (n := 11) hts (show ∀ w ∈ (List.range 11).map (u_lay "BellThatIsADoor$Marsh" z_F8), w ∈ lw_tbl by decide +kernel) (hts _ (by decide +kernel))
        exact ⟨(cC, iS), fun q hq => by cases hq; exact h⟩
      · obtain ⟨cC, iS, h⟩ := u_known (C := "BellThatIsADoor$Row") (T := z_F9) (N := 2) (n := 2) hts (show ∀ w ∈ (List.range 2).map (u_lay "BellThatIsADoor$Row" z_F9), w ∈ lw_tbl by decide +kernel) (hts _ (by decide +kernel))
        exact ⟨(cC, iS), fun q hq => by cases hq; exact h⟩
      · obtain ⟨cC, iS, h⟩ := u_known (C := "BellThatIsADoor$Errand") (T := z_F10) (N := 5) (n := 5) hts (show ∀ w ∈ (List.range 5).map (u_lay "BellThatIsADoor$Errand" z_F10), w ∈ lw_tbl by decide +kernel) (hts _ (by decide +kernel))
        exact ⟨(cC, iS), fun q hq => by cases hq; exact h⟩
      · obtain ⟨cC, iS, h⟩ := u_known (C := "BellThatIsADoor") (T := z_F11) (N := 11) (n := 11) hts (show ∀ w ∈ (List.range 11).map (u_lay "BellThatIsADoor" z_F11), w ∈ lw_tbl by decide +kernel) (hts _ (by decide +kernel))
        exact ⟨(cC, iS), fun q hq => by cases hq; exact h⟩
      · obtain ⟨cC, iS, h⟩ := u_known (C := "BellThatIsADoorModel") (T := z_F12) (N := 21) (n := 21) hts (show ∀ w ∈ (List.range 21).map (u_lay "BellThatIsADoorModel" z_F12), w ∈ lw_tbl by decide +kernel) (hts _ (by decide +kernel))
        exact ⟨(cC, iS), fun q hq => by cases hq; exact h⟩
    · refine ⟨(0, fun _ => 0), fun q hq => ?_⟩
      rw [List.getElem?_eq_none (Nat.le_trans (by decide +kernel : z_cl.length ≤ 13) hc)] at hq
      cases hq
  obtain ⟨f, hf⟩ := Classical.axiomOfChoice hk
  exact ⟨(fun c => (f c).1, fun c => (f c).2), fun c q hq => hf c q hq, fun k q hq => by cases hq⟩
theorem ws_start (OK : z_OKall) {p : Program} {e : Env} {s : State} {m : MethodId} {below : List Frame} {meth : Method} {c : Code} (l : Launch) (hflags : l.flags = flags0) {b L : Nat} {xs : Nat → Int32} (C0 : lw_At p s m meth c b L xs)
    (hlaw : ∃ n' k' G', z_evM (b, L, xs) i_L_law 0 [.ref b] s.heap.size 0 (fun _ => none) = some (some (.int 1), n', k', G') ∧ s.heap.size ≤ n' ∧ n' ≤ s.heap.size + 1158 ∧ k' ≤ 57372) : W p l e room_1 s m #[Value.ref b] below meth c s.heap [] 0 0 (lw_Z below #[Value.ref b] s) (entryFrame m ([Value.ref b] : List Value).toArray 8) := by
  obtain ⟨hx, hcode, hret, hml, hown, hts, hX, hbl, hlocks, hgv⟩ := C0
  obtain ⟨n', k', G', hev, hn, hn2, hk2⟩ := hlaw
  unfold z_evM at hev
  rw [if_neg (by decide +kernel)] at hev
  obtain ⟨le, he, hev3⟩ := Option.bind_eq_some_iff.mp hev
  obtain ⟨f, hf⟩ := (z_ev_iff _ _ _ _ _ _ _ _ _ _).mp hev3
  obtain ⟨a1, a2, a3⟩ := z_sound (Gd := z_Gd0) OK 15 (z_primOK OK 15) (b, L, xs) f i_L_law 0 (by decide +kernel) 0 le [] s.heap.size 0 (fun _ => none) _ n' k' G' hf
  obtain ⟨D, hD⟩ := ws_K hts
  have hT : ∀ w ∈ z_T, w.before #[Value.ref b] s = true := fun w hw => hts w (List.mem_filter.mp hw).1
  have hRl := z_entRl he
  have hr15 : z_rk i_L_law = 15 := by decide +kernel
  have hm8 : z_ml i_L_law = 8 := by decide +kernel
  rw [lg_entry_eq]
  rw [hm8] at hRl
  generalize (lg_sl [Value.ref b] ++ List.replicate (8 - (lg_sl [Value.ref b]).length) Slot.unset).toArray = lsA at hRl ⊢
  have hzb : z_by i_L_law = code := rfl
  have hzr : z_rt i_L_law = ret := rfl
  refine a3 (p, l, e, room_1, s, m, #[Value.ref b], below, meth, c, lw_Z below #[Value.ref b] s, D, s.heap.size, s.heap.size, 0, (b, L, xs), z_Amb s.heap.size) ⟨hx, hcode.trans hzb.symm, hret.trans hzr.symm, by rw [hml, hm8], hown, hT, fun h => absurd h (by decide +kernel), by rw [hr15]; decide, by rw [hr15]; decide, by omega, ws_nw hts, z_Amb_ok _⟩ rfl ⟨ws_fl hflags, rfl⟩ ⟨?_, ?_⟩ ?_ s.heap [] lsA 0 0 hRl ⟨rfl, Nat.le_refl _, hD, hX, hbl, ws_amb hts hgv, fun a c hc => nomatch hc⟩ (fun q hq => nomatch hq) (by omega) rfl
  · show n' ≤ s.heap.size + room_1.cells
    have : 1158 ≤ room_1.cells := by decide
    omega
  · show k' ≤ 0 + room_1.slots
    have : 57372 ≤ room_1.slots := by decide
    omega
  · intro len pc ls st i hi hs H locs lsB cells slots hl hR hq hc hsl
    obtain ⟨hd, hlen⟩ := z_insd hi
    rcases z_step_ret hs with ⟨rfl, x, rfl, hx1, ht⟩ | ⟨rfl, x, rfl, hx1, ht⟩ | ⟨rfl, ht, w, rfl, hx1, hw⟩ | ⟨rfl, rfl, hx1, ht⟩
    · cases hx1
      have hlen : len = 1 := of_decide_eq_true hlen
      subst hlen
      exact W.forget (locs := []) (L := locs) hq (W.widen (by omega) (by omega) (lw_ret hx hcode hret hlocks (by rw [← hzb]; exact hd)))
    · cases hx1
    · rcases hw with rfl | ⟨q, rfl⟩ <;> cases hx1
    · cases hx1
-- ===== YOUR PART BEGINS =====
/-- from the entry, for every script of at most 3072 ints, the law comes to its end with true -/
theorem whole_start {p : Program} {e : Env} {s : State} {m : MethodId} {below : List Frame} {meth : Method} {c : Code} (l : Launch) (hflags : l.flags = flags0) {b L : Nat} {xs : Nat → Int32} (hL : L ≤ 3072) (C0 : lw_At p s m meth c b L xs) : W p l e room_1 s m #[Value.ref b] below meth c s.heap [] 0 0 (lw_Z below #[Value.ref b] s) (entryFrame m ([Value.ref b] : List Value).toArray 8) := by
  obtain ⟨n', k', G', h1, h2, h3, h4, h5⟩ := lw_law (E := (b, L, xs)) 0 s.heap.size C0.2.2.2.2.2.2.2.1 hL
  exact ws_start z_okAll l hflags C0 ⟨n', k', G', h1, h2, h3, by omega⟩
-- ===== YOUR PART ENDS =====
set_option maxHeartbeats 4000000 in
theorem lw_walk (l : Launch) (hflags : l.flags = flags0) (b : Addr) (xs : List Int32) : MetFree l x (headSpec (Jvm.Cond.code x code maxLocals ret :: tables_1) room_1) (lw_P b xs) (fun _ _ _ _ _ => True) lw_Q := by
  refine MetFree.of_bodyS (code := code) (maxLocals := maxLocals) (ret := ret) (by decide) ?_ ?_
  · intro args s m h hn
    obtain ⟨meth, c, h1, h2, h3, h4, h5, h6, -, -⟩ := Cond.code_spec hn (atoms_spec (ws := Jvm.Cond.code x code maxLocals ret :: tables_1) h _ List.mem_cons_self)
    exact ⟨meth, c, h1, h2, h3, h4, h5, h6⟩
  · intro p e s m args below meth c s₁ B hml0 hP _
    obtain ⟨rfl, hx, hbd, hgv⟩ := hP
    obtain ⟨scr, harrAt, hlist, hof, hsmall⟩ := hx
    obtain ⟨hcb, hkn, -, -⟩ := State.arrayAt?_spec harrAt
    have hown : s.vm.findClass R_law = some m.cls := findClass_of_methodNamed B.named
    have hts0 : ∀ c ∈ (Jvm.Cond.code x code maxLocals ret :: tables_1), c.before #[Value.ref b] s = true := atoms_spec (ws := Jvm.Cond.code x code maxLocals ret :: tables_1) B.pre
    have hts : ∀ w ∈ lw_tbl, w.before #[Value.ref b] s = true := k2_hts_sels lw_privs (fun w hw => hts0 w (List.mem_cons_of_mem _ hw)) lw_privs_ok
    have hml : c.maxLocals = 8 := B.maxLocals_eq (hts0 _ List.mem_cons_self)
    have X₀ : Stand p l e room_1 s m #[Value.ref b] below meth c s₁ [] 0 0 := Stand.of_body B
    have hh0 : s₁.heap = s.heap := by rw [B.state]; rfl
    have hsz : scr.slots.size = xs.length := by rw [← Array.length_toList, hlist, List.length_map]
    have hval : ∀ j : Nat, j < xs.length → scr.slots[j]? = some (.int (xs.getD j 0)) := fun j hj => by
      rw [← Array.getElem?_toList, hlist]
      simp [hj]
    have hbl : b < s.heap.size := (Array.getElem?_eq_some_iff.mp hcb).1
    have hX : va_X b xs.length (fun j => xs.getD j 0) s s.heap := ⟨scr, hcb, hof, hkn, hsz, hval⟩
    have K : W p l e room_1 s m #[Value.ref b] below meth c s₁.heap [] 0 0 (lw_Z below #[Value.ref b] s) (entryFrame m ([Value.ref b] : List Value).toArray 8) := by
      rw [hh0]
      exact whole_start l hflags hbd ⟨B.exec, B.bytes, B.returns, hml, hown, hts, hX, hbl, B.notSynchronized, hgv⟩
    obtain ⟨t, a1, o, b1, b2, b3⟩ := K s₁ rfl X₀
    exact ⟨t, o, a1, b1, b2, b3⟩
theorem lw_pre_spec {args : Array Value} {s : State} (h : (Jvm.Cond.and given_1 narrow_1).before args s = true) (hr : rest_1_c.before args s = true) : ∃ (b : Addr) (xs : List Int32), lw_P b xs args s := by
  have hs := flat_of_before _ h
  have hq := flat_of_before _ hr
  have hc : (Cond.count 1).before args s = true := hs _ (by decide +kernel)
  have harr : (Cond.arrayOf (.arg 0) .int).before args s = true := hs _ (by decide +kernel)
  have hle : (Cond.le (.length (.arg 0)) (.int 3072)).before args s = true := hs _ (by decide +kernel)
  have hlen : (Cond.isInt (.length (.arg 0))).before args s = true := hq _ (by decide +kernel)
  have hall : (Cond.all (.arg 0) (.isInt (.elem (.arg 0) (.index 0)))).before args s = true := hq _ (by decide +kernel)
  obtain ⟨b, xs, hb, hx⟩ := State.ints_of_pre rfl harr hlen hall
  have hsm : xs.length < 2 ^ 31 := hx.choose_spec.2.2.2
  have hev : (Term.length (.arg 0)).eval args s none [] s = some (.int xs.length.toInt32) := hx.length_eval hb
  have hv := Cond.le_ints hev (show (Term.int 3072).eval args s none [] s = some (.int 3072) from rfl)
  have hd : xs.length.toInt32 ≤ 3072 := by
    simpa [Cond.before, Cond.holds, hv] using hle
  have hN : xs.length ≤ 3072 := (Int32.ofNat_le_ofNat hsm (by decide)).mp (show Int32.ofNat xs.length ≤ Int32.ofNat 3072 from hd)
  exact ⟨b, xs, Cond.one_arg hc (show args[0]? = some (.ref b) from hb), hx, hN, h⟩
theorem lw_comes (l : Launch) (hflags : l.flags = flags0) : Comes l x (Jvm.Cond.code x code maxLocals ret :: tables_1) room_1 (fun tb e args s => Calls_1 tb e args s ∧ rest_1 tb e args s ∧ Pre_1 tb e args s)
    (fun _ _ args s o t => lw_Q args s o t) := by
  intro p e ha hc hk s m args below hf hfit hheap happ hpre
  obtain ⟨b, xs, hP⟩ := lw_pre_spec hpre.2.2 hpre.2.1
  obtain ⟨k, o, h1, h2, h3, hQ⟩ := lw_walk l hflags b xs p e ha hc hk s m args below hf ((Spec.applies_iff_loose hf).mp happ).1 hP trivial
  exact ⟨k, o, h1, h2, h3, hQ⟩
theorem lw_frame {s t : State} {o : Outcome} {args : Array Value} (h : Framed s o t [] 601024 7293034) :
    Framed s o t (fieldLocs frame_1_writes args s ++ arrayLocs frame_1_arrays args s ++ staticLocs frame_1_statics s) 601024 7293034 := h
theorem lw_limb (L : Cond) (hL : ∀ (args : Array Value) (s t : State), L.after args s (.returned (some (.int 1))) t = true) :
    ArmFor flags0 classFile x code maxLocals ret World_1 tables_1 room_1 Calls_1 rest_1 Pre_1
      (fun tb e a s o t => postC L tb e a s o t ∧ Framed s o t (fieldLocs frame_1_writes a s ++ arrayLocs frame_1_arrays a s ++ staticLocs frame_1_statics s) 601024 7293034) := by
  intro l hflags _ _ p e ha hc hk s m args below hf hfit hheap happ hpre
  obtain ⟨k, o, h1, h2, h3, rfl, hF⟩ := lw_comes l hflags p e ha hc hk s m args below hf hfit hheap happ hpre
  exact ⟨k, _, h1, h2, h3, hL args s _, lw_frame hF⟩
theorem i_vc : Claimed_1_1 ∧ Claimed_1_2 := ⟨lw_limb limb_1_1 (fun args s t => by simp [limb_1_1, Cond.after, Cond.holds, Cond.value]), lw_limb limb_1_2 (fun args s t => Cond.after_iff.mpr (by
  first | (rw [show limb_1_2 = Cond.eq .result (.int 1) from rfl, Cond.eq_ints (x := 1) (y := 1) rfl rfl]; simp; done) | (simp [limb_1_2, Cond.value, Term.eval]; done)))⟩
