theorem z_nx_nc {pc : Nat} {ls : z_L} {st : List Value} {n k : Nat} {G : z_H} {c : Nat × Nat × List Value × Nat × z_L × List Value} (h : z_nx pc ls st n k G = some (.inr (.inr c))) : False := by unfold z_nx at h; cases h
theorem z_vl_nc {o : Option Value} {pc : Nat} {ls : z_L} {st : List Value} {n k : Nat} {G : z_H} {c : Nat × Nat × List Value × Nat × z_L × List Value} (h : z_vl o pc ls st n k G = some (.inr (.inr c))) : False := by unfold z_vl at h; split at h <;> cases h
theorem z_hp_nc {o : Option z_H} {pc : Nat} {ls : z_L} {st : List Value} {n k : Nat} {c : Nat × Nat × List Value × Nat × z_L × List Value} (h : z_hp o pc ls st n k = some (.inr (.inr c))) : False := by unfold z_hp at h; split at h <;> cases h
theorem z_st_nc {o : Option z_L} {pc : Nat} {st : List Value} {n k : Nat} {G : z_H} {c : Nat × Nat × List Value × Nat × z_L × List Value} (h : z_st o pc st n k G = some (.inr (.inr c))) : False := by unfold z_st at h; split at h <;> cases h
theorem z_jp_nc {pc : Nat} {off : Int} {ls : z_L} {st : List Value} {n k : Nat} {G : z_H} {c : Nat × Nat × List Value × Nat × z_L × List Value} (h : z_jp pc off ls st n k G = some (.inr (.inr c))) : False := by unfold z_jp at h; split at h <;> cases h
theorem z_nx_nr {pc : Nat} {ls : z_L} {st : List Value} {n k : Nat} {G : z_H} {r : Option Value} (h : z_nx pc ls st n k G = some (.inl r)) : False := by unfold z_nx at h; cases h
theorem z_nx_mono {pc : Nat} {ls : z_L} {st : List Value} {n k : Nat} {G : z_H} {pc' : Nat} {ls' : z_L} {st' : List Value} {n' k' : Nat} {G' : z_H} (h : z_nx pc ls st n k G = some (.inr (.inl (pc', ls', st', n', k', G')))) : n ≤ n' ∧ k ≤ k' := by
  obtain ⟨-, -, -, rfl, rfl, -⟩ := z_nx_in h; exact ⟨Nat.le_refl _, Nat.le_refl _⟩
theorem z_jp_mono {pc : Nat} {off : Int} {ls : z_L} {st : List Value} {n k : Nat} {G : z_H} {pc' : Nat} {ls' : z_L} {st' : List Value} {n' k' : Nat} {G' : z_H} (h : z_jp pc off ls st n k G = some (.inr (.inl (pc', ls', st', n', k', G')))) : n ≤ n' ∧ k ≤ k' := by
  obtain ⟨-, -, -, rfl, rfl, -⟩ := z_jp_in h; exact ⟨Nat.le_refl _, Nat.le_refl _⟩
theorem z_vl_mono {o : Option Value} {pc : Nat} {ls : z_L} {st : List Value} {n k : Nat} {G : z_H} {pc' : Nat} {ls' : z_L} {st' : List Value} {n' k' : Nat} {G' : z_H} (h : z_vl o pc ls st n k G = some (.inr (.inl (pc', ls', st', n', k', G')))) : n ≤ n' ∧ k ≤ k' := by
  unfold z_vl at h; split at h
  · exact z_nx_mono h
  · cases h
theorem z_hp_mono {o : Option z_H} {pc : Nat} {ls : z_L} {st : List Value} {n k : Nat} {pc' : Nat} {ls' : z_L} {st' : List Value} {n' k' : Nat} {G' : z_H} (h : z_hp o pc ls st n k = some (.inr (.inl (pc', ls', st', n', k', G')))) : n ≤ n' ∧ k ≤ k' := by
  unfold z_hp at h; split at h
  · exact z_nx_mono h
  · cases h
theorem z_st_mono {o : Option z_L} {pc : Nat} {st : List Value} {n k : Nat} {G : z_H} {pc' : Nat} {ls' : z_L} {st' : List Value} {n' k' : Nat} {G' : z_H} (h : z_st o pc st n k G = some (.inr (.inl (pc', ls', st', n', k', G')))) : n ≤ n' ∧ k ≤ k' := by
  unfold z_st at h; split at h
  · exact z_nx_mono h
  · cases h
set_option maxHeartbeats 4000000 in
theorem z_step_mono {E : z_E} {mid lev : Nat} {i : Instr} {len pc : Nat} {ls : z_L} {st : List Value} {n k : Nat} {G : z_H} {pc' : Nat} {ls' : z_L} {st' : List Value} {n' k' : Nat} {G' : z_H} (h : z_step E mid lev i len pc ls st n k G = some (.inr (.inl (pc', ls', st', n', k', G')))) : n ≤ n' ∧ k ≤ k' := by
  cases i <;> simp only [z_step, z_kc, z_kl, z_knew, z_kan, z_kis, z_ksp, z_cj] at h <;> (repeat' split at h) <;> first | exact z_nx_mono h | exact z_jp_mono h | exact z_vl_mono h | exact z_hp_mono h | exact z_st_mono h | exact (z_call_ne h).elim | (have := z_nx_mono h; omega) | (cases h; done)
set_option maxHeartbeats 4000000 in
theorem z_step_call {E : z_E} {mid lev : Nat} {i : Instr} {len pc : Nat} {ls : z_L} {st : List Value} {n k : Nat} {G : z_H} {c : Nat × Nat × List Value × Nat × z_L × List Value} (h : z_step E mid lev i len pc ls st n k G = some (.inr (.inr c))) :
    ∃ j, (i = .invokevirtual j ∧ z_call [0, 3] mid lev (pc + 3) ls st G (z_me mid j) = some (.inr (.inr c))) ∨ (i = .invokestatic j ∧ z_call [1, 4] mid lev (pc + 3) ls st G (z_me mid j) = some (.inr (.inr c))) ∨ (i = .invokespecial j ∧ z_call [2, 5] mid lev (pc + 3) ls st G (z_me mid j) = some (.inr (.inr c))) := by
  cases i <;> simp only [z_step, z_kc, z_kl, z_knew, z_kan, z_kis, z_ksp, z_cj] at h <;> (repeat' split at h) <;> first | (cases h; done) | exact (z_nx_nc h).elim | exact (z_jp_nc h).elim | exact (z_vl_nc h).elim | exact (z_hp_nc h).elim | exact (z_st_nc h).elim | exact ⟨_, Or.inl ⟨rfl, h⟩⟩ | exact ⟨_, Or.inr (Or.inl ⟨rfl, h⟩)⟩ | exact ⟨_, Or.inr (Or.inr ⟨rfl, h⟩)⟩
set_option maxHeartbeats 4000000 in
theorem z_step_ret {E : z_E} {mid lev : Nat} {i : Instr} {len pc : Nat} {ls : z_L} {st : List Value} {n k : Nat} {G : z_H} {r : Option Value} (h : z_step E mid lev i len pc ls st n k G = some (.inl r)) :
    (i = .ireturn ∧ ∃ x, st = [.int x] ∧ r = some (.int x) ∧ (z_rt mid = some .int ∨ (z_rt mid = some .boolean ∧ (x = 0 ∨ x = 1)))) ∨ (i = .lreturn ∧ ∃ x, st = [.long x] ∧ r = some (.long x) ∧ z_rt mid = some .long) ∨ (i = .areturn ∧ z_rtA mid = true ∧ ∃ v, st = [v] ∧ r = some v ∧ (v = .null ∨ ∃ a, v = .ref a)) ∨ (i = .return_ ∧ st = [] ∧ r = none ∧ z_rt mid = none) := by
  cases i <;> simp only [z_step, z_kc, z_kl, z_knew, z_kan, z_kis, z_ksp, z_cj] at h <;> (repeat' split at h) <;> first | exact (z_nx_nr h).elim | exact (z_jp_nr h).elim | exact (z_vl_nr h).elim | exact (z_hp_nr h).elim | exact (z_st_nr h).elim | exact (z_call_nr h).elim | (cases h; done) | (next hc => cases h; exact Or.inl ⟨rfl, _, rfl, rfl, hc⟩) | (next hc => cases h; exact Or.inr (Or.inl ⟨rfl, _, rfl, rfl, hc⟩)) | (next hc => cases h; exact Or.inr (Or.inr (Or.inl ⟨rfl, hc, _, rfl, rfl, Or.inr ⟨_, rfl⟩⟩))) | (next hc => cases h; exact Or.inr (Or.inr (Or.inl ⟨rfl, hc, _, rfl, rfl, Or.inl rfl⟩))) | (next hc => cases h; exact Or.inr (Or.inr (Or.inr ⟨rfl, rfl, rfl, hc⟩)))
/-- what a launch and its statics must be like, for the methods that throw: a parameter -/
def z_Gd (Gd : Launch → Nat → (State → Heap → Prop) → Prop) : z_X → Prop := fun (_, l, _, _, _, _, _, _, _, _, _, _, n0, _, _, _, Amb) => Gd l n0 Amb
/-- how a method's walk gives its contract -/
theorem z_met_of {Gd : Launch → Nat → (State → Heap → Prop) → Prop} {E : z_E} {y lv : Nat} {as : List Value} {le : z_L} {n k : Nat} {G : z_H} {v : Option Value} {n1 k1 : Nat} {G1 : z_H} (hY : z_OKY y) (he : z_ent y as = some le) (hn : n ≤ n1) (hk : k ≤ k1)
    (h : ∀ X : z_X, z_Cx X y lv → z_Ex X = E → z_Gd Gd X → z_Lim X n1 k1 → z_Ret X y lv v n1 k1 G1 → z_WW X 0 y le [] n k G) (l : Launch) (Amb : State → Heap → Prop) (n0 : Nat) (D : va_G) (hA : z_AmbOK n0 Amb) (hg : Gd l n0 Amb) : z_Met l E Amb n0 D y lv as n k G v n1 k1 G1 := by
  refine Met.ofW (cc := z_by y) (maxL := z_ml y) (ret := z_rt y) hY.1 rfl ?_
  intro p e s m args below meth c s₁ B hml hv
  obtain ⟨rfl, hRel, hNw⟩ := hv
  have hx := B.exec
  have hb := B.bytes
  have hr := B.returns
  have hts : ∀ w ∈ z_T, w.before as.toArray s = true := fun w hw => atoms_spec (ws := z_wd y) B.pre w (List.mem_cons_of_mem _ hw)
  have hown : s.vm.findClass (z_nm y).cls = some m.cls := findClass_of_methodNamed B.named
  have hlocks := B.notSynchronized
  have hnm : meth.name = (z_nm y).name := (name_of_methodNamed B.named B.method).1
  unfold z_ent at he
  split at he
  · next hent =>
    cases he
    have hl0 := lv_entry as hent.1
    rw [lg_entry_eq]
    generalize (lg_sl as ++ List.replicate (z_ml y - (lg_sl as).length) Slot.unset).toArray = lsA at hl0 ⊢
    have hRl : z_Rl y lsA (z_en as (z_ml y)) := by
      refine ⟨z_has_mono hl0 ?_, by simp [z_en], ?_⟩
      · rintro ⟨i, w⟩ hq
        have hq := z_as_mem.mp hq
        have hlt := z_lo_lt hq
        unfold z_lo z_en at hq
        have hlt2 : i < z_ml y := by simpa [z_en] using hlt
        simp only [List.getElem?_map, List.getElem?_range hlt2, Option.map_some] at hq
        cases hf : (lv_args 0 as).find? (fun q => q.1 == i) with
        | none => rw [hf] at hq; cases hq
        | some q =>
          rw [hf] at hq
          have h1 := List.mem_of_find?_eq_some hf
          have h2 := List.find?_some hf
          simp only [beq_iff_eq] at h2
          simp only [Option.map_some, Option.some.injEq] at hq
          obtain ⟨q1, q2⟩ := q
          subst hq
          subst h2
          exact h1
      · intro i w hw hcat
        have hlt := z_lo_lt hw
        have hall := List.all_eq_true.mp hent.2 i (List.mem_range.mpr hlt)
        unfold z_lo at hw
        split at hw
        · next o ho =>
          subst hw
          rw [ho] at hall
          simp only [hcat, Bool.or_eq_true] at hall
          rcases hall with z | z
          · exact absurd z (by decide)
          · simpa using z
        · cases hw
    refine h (p, l, e, (headSpec (z_wd y) (z_room (z_rk y + lv) (n1 - n) (k1 - k))).room, s, m, as.toArray, below, meth, c, MQ below (z_Qc E Amb n0 D v n1 G1) as.toArray s (n1 - n) (k1 - k) (fun q => n0 ≤ q), D, n0, n, k, E, Amb)
      ⟨hx, hb, hr, hml, hown, hts, fun hi => by rw [hnm]; exact hY.2.2.1 hi, Nat.le_refl _, Nat.le_refl _, hY.2.1, hNw, hA⟩ rfl hg ⟨by show n1 ≤ n + (n1 - n); omega, by show k1 ≤ k + (k1 - k); omega⟩ ?_ s.heap [] lsA 0 0 hRl hRel (fun q hq => nomatch hq) (by omega) (by omega)
    intro len pc ls st i hi hs
    obtain ⟨hd, hlen⟩ := z_insd hi
    intro H locs lsB cells slots hl hR hq hc hsl
    have hc' : cells = n1 - n := by omega
    have hs' : slots = k1 - k := by omega
    subst hc'
    subst hs'
    rcases z_step_ret hs with ⟨rfl, x, rfl, rfl, ht⟩ | ⟨rfl, x, rfl, rfl, ht⟩ | ⟨rfl, ht, w, rfl, rfl, hw⟩ | ⟨rfl, rfl, rfl, ht⟩
    · have hlen : len = 1 := of_decide_eq_true hlen
      subst hlen
      rcases ht with ht | ⟨ht, hx01⟩
      · exact W.iret hx hb (by rw [hr]; exact ht) (fun t ht2 hW => ⟨rfl, by rw [ht2]; exact hR.moved hA hW.alike⟩) hq hd
      · exact W.zret hx hb (by rw [hr]; exact ht) (by rcases hx01 with rfl | rfl <;> decide) (fun t ht2 hW => ⟨rfl, by rw [ht2]; exact hR.moved hA hW.alike⟩) hq hd
    · have hlen : len = 1 := of_decide_eq_true hlen
      subst hlen
      exact W.lret hx hb (by rw [hr]; exact ht) (fun t ht2 hW => ⟨rfl, by rw [ht2]; exact hR.moved hA hW.alike⟩) hq hd
    · have hlen : len = 1 := of_decide_eq_true hlen
      subst hlen
      obtain ⟨rt, hrt, hrt2⟩ := hY.2.2.2 ht
      exact W.aret hx hb (by rw [hr]; exact hrt) hrt2 hw (fun t ht2 hW => ⟨rfl, by rw [ht2]; exact hR.moved hA hW.alike⟩) hq hd
    · have hlen : len = 1 := of_decide_eq_true hlen
      subst hlen
      exact W.vret hx hb (by rw [hr]; exact ht) (fun t ht2 hW => ⟨rfl, by rw [ht2]; exact hR.moved hA hW.alike⟩) hq hd
  · cases he
def z_OKP (mid j : Nat) : Prop := ∀ (kind y na self lv ci : Nat) (t : List Nat), z_me mid j = kind :: y :: na :: self :: lv :: ci :: t → z_prm y = true → kind = 1
def z_OKall : Prop := (∀ mid j, z_OKF mid j) ∧ (∀ mid j, z_OKC mid j) ∧ (∀ mid j, z_OKN mid j) ∧ z_OKI ∧ z_OKT ∧ z_OKJ ∧ (∀ mid j, z_OKV mid j) ∧ (∀ mid j, z_OKM mid j) ∧ ∀ mid j, z_OKP mid j
set_option maxHeartbeats 4000000 in
theorem z_stpAll (OK : z_OKall) (i : Instr) : z_Stp i := by
  obtain ⟨hF, hC, hN, hI, hT, hJ, hV, -, -⟩ := OK
  cases i
  case iconst v => exact zs_iconst v
  case bipush v => exact zs_bipush v
  case sipush v => exact zs_sipush v
  case lconst v => exact zs_lconst v
  case ldc j => exact zs_ldc j (fun m => hC m j)
  case ldc_w j => exact zs_ldc_w j (fun m => hC m j)
  case ldc2_w j => exact zs_ldc2_w j (fun m => hC m j)
  case aconst_null => exact zs_null
  case iload j => exact zs_iload j
  case iload_n j => exact zs_iload_n j
  case lload j => exact zs_lload j
  case lload_n j => exact zs_lload_n j
  case aload j => exact zs_aload j
  case aload_n j => exact zs_aload_n j
  case istore j => exact zs_istore j
  case istore_n j => exact zs_istore_n j
  case lstore j => exact zs_lstore j
  case lstore_n j => exact zs_lstore_n j
  case astore j => exact zs_astore j
  case astore_n j => exact zs_astore_n j
  case iinc j v => exact zs_iinc j v
  case iadd => exact zs_iadd
  case isub => exact zs_isub
  case imul => exact zs_imul
  case iand => exact zs_iand
  case ior => exact zs_ior
  case ixor => exact zs_ixor
  case idiv => exact zs_idiv
  case irem => exact zs_irem
  case ladd => exact zs_ladd
  case lsub => exact zs_lsub
  case lmul => exact zs_lmul
  case ldiv => exact zs_ldiv
  case lrem => exact zs_lrem
  case ishl => exact zs_ishl
  case ishr => exact zs_ishr
  case iushr => exact zs_iushr
  case i2l => exact zs_i2l
  case i2b => exact zs_i2b
  case i2s => exact zs_i2s
  case lcmp => exact zs_lcmp
  case dup => exact zs_dup
  case dup2 => exact zs_dup2
  case pop => exact zs_pop
  case goto off => exact zs_goto off
  case ifCond cd off => cases cd <;> first | exact zs_if_eq off | exact zs_if_ne off | exact zs_if_lt off | exact zs_if_ge off | exact zs_if_gt off | exact zs_if_le off
  case if_icmp cd off => cases cd <;> first | exact zs_icmp_eq off | exact zs_icmp_ne off | exact zs_icmp_lt off | exact zs_icmp_ge off | exact zs_icmp_gt off | exact zs_icmp_le off
  case ifnull off => exact zs_ifnull off
  case ifnonnull off => exact zs_ifnonnull off
  case tableswitch d lo hi offs => exact zs_tableswitch d lo hi offs
  case lookupswitch d ps => exact zs_lookupswitch d ps
  case getfield j => exact zs_getfield j (fun m => hF m j)
  case putfield j => exact zs_putfield j (fun m => hF m j)
  case iaload => exact zs_iaload
  case laload => exact zs_laload
  case aaload => exact zs_aaload
  case arraylength => exact zs_arraylength
  case iastore => exact zs_iastore
  case lastore => exact zs_lastore
  case aastore => exact zs_aastore hT
  case new j => exact zs_new j (fun m => hN m j)
  case newarray ty => exact zs_newarray ty hI
  case anewarray j => exact zs_anewarray j (fun m => hN m j)
  case invokespecial j => exact zs_invokespecial j hJ (fun m => hV m j)
  case invokestatic j => exact zs_invokestatic j hJ (fun m => hV m j)
  case invokevirtual j => intro X mid lev len pc ls st n k G pc' ls' st' n' k' G' _ _ h; exact (z_call_ne h).elim
  case ireturn => intro X mid lev len pc ls st n k G pc' ls' st' n' k' G' _ _ h; simp only [z_step, z_kc, z_kl, z_knew, z_kan, z_kis, z_ksp, z_cj] at h; (repeat' split at h) <;> cases h
  case lreturn => intro X mid lev len pc ls st n k G pc' ls' st' n' k' G' _ _ h; simp only [z_step, z_kc, z_kl, z_knew, z_kan, z_kis, z_ksp, z_cj] at h; (repeat' split at h) <;> cases h
  case areturn => intro X mid lev len pc ls st n k G pc' ls' st' n' k' G' _ _ h; simp only [z_step, z_kc, z_kl, z_knew, z_kan, z_kis, z_ksp, z_cj] at h; (repeat' split at h) <;> cases h
  case return_ => intro X mid lev len pc ls st n k G pc' ls' st' n' k' G' _ _ h; simp only [z_step, z_kc, z_kl, z_knew, z_kan, z_kis, z_ksp, z_cj] at h; (repeat' split at h) <;> cases h
  all_goals (intro X mid lev len pc ls st n k G pc' ls' st' n' k' G' _ _ h; exact nomatch (show (none : z_D) = some _ from h))
/-- calls of the two methods that catch, as far as a walk of such a rank makes them -/
def z_PrimOK (Gd : Launch → Nat → (State → Heap → Prop) → Prop) (rmax : Nat) : Prop := ∀ (X : z_X) (mid lev j pc : Nat) (ls : z_L) (st : List Value) (n k : Nat) (G : z_H) (y lv : Nat) (as rest : List Value) (v : Option Value) (n1 k1 : Nat) (G1 : z_H), z_rk mid + lev ≤ rmax → z_Cx X mid lev → z_Gd Gd X → z_ins mid pc = some (.invokestatic j, 3) →
  z_call [1, 4] mid lev (pc + 3) ls st G (z_me mid j) = some (.inr (.inr (y, lv, as, pc + 3, ls, rest))) → z_prm y = true → z_prim y as n k G = some (v, n1, k1, G1) → z_Lim X n1 k1 → z_WW X (pc + 3) mid ls (z_pu v rest) n1 k1 G1 → z_WW X pc mid ls st n k G
theorem z_prim_mono {y : Nat} {as : List Value} {n k : Nat} {G : z_H} {v : Option Value} {n1 k1 : Nat} {G1 : z_H} (h : z_prim y as n k G = some (v, n1, k1, G1)) : n ≤ n1 ∧ k ≤ k1 := by
  unfold z_prim at h
  (repeat' split at h) <;> cases h <;> omega
set_option maxHeartbeats 4000000 in
theorem z_sound {Gd : Launch → Nat → (State → Heap → Prop) → Prop} (OK : z_OKall) (rmax : Nat) (Hp : z_PrimOK Gd rmax) (E : z_E) : ∀ (f mid lev : Nat), z_rk mid + lev ≤ rmax → ∀ (pc : Nat) (ls : z_L) (st : List Value) (n k : Nat) (G : z_H) (r : Option Value) (n' k' : Nat) (G' : z_H), z_run E f mid lev pc ls st n k G = some (r, n', k', G') →
    n ≤ n' ∧ k ≤ k' ∧ ∀ X : z_X, z_Cx X mid lev → z_Ex X = E → z_Gd Gd X → z_Lim X n' k' → z_Ret X mid lev r n' k' G' → z_WW X pc mid ls st n k G := by
  intro f
  induction f with
  | zero => intro mid lev hrm pc ls st n k G r n' k' G' h; cases h
  | succ f ih =>
    intro mid lev hrm pc ls st n k G r n' k' G' h
    rw [z_run] at h
    cases hi : z_ins mid pc with
    | none => simp only [hi] at h; cases h
    | some q =>
      obtain ⟨i, len⟩ := q
      simp only [hi] at h
      cases hs : z_step E mid lev i len pc ls st n k G with
      | none => simp only [hs] at h; cases h
      | some d =>
        simp only [hs] at h
        match d, h, hs with
        | .inl r0, h, hs =>
          cases h
          exact ⟨Nat.le_refl _, Nat.le_refl _, fun X C hE hg hL hRet => hRet len pc ls st i hi (by rw [hE]; exact hs)⟩
        | .inr (.inl (pc', ls', st', n1, k1, G1)), h, hs =>
          obtain ⟨a1, a2, a3⟩ := ih mid lev hrm _ _ _ _ _ _ _ _ _ _ h
          obtain ⟨b1, b2⟩ := z_step_mono hs
          refine ⟨Nat.le_trans b1 a1, Nat.le_trans b2 a2, fun X C hE hg hL hRet => ?_⟩
          refine (z_stpAll OK i X mid lev len pc ls st n k G pc' ls' st' n1 k1 G1 C hi (by rw [hE]; exact hs)).2.2 ?_ (a3 X C hE hg hL hRet)
          obtain ⟨p, l, e, R, s, m, args, below, meth, c, Q, D, n0, nst, kst, E, Amb⟩ := X
          obtain ⟨hL1, hL2⟩ : n' ≤ nst + R.cells ∧ k' ≤ kst + R.slots := hL
          exact ⟨Nat.le_trans a1 hL1, Nat.le_trans a2 hL2⟩
        | .inr (.inr (y, lv, as, pc', ls', rest)), h, hs =>
          obtain ⟨⟨v, n1, k1, G1⟩, hc, h⟩ := Option.bind_eq_some_iff.mp h
          obtain ⟨a1, a2, a3⟩ := ih mid lev hrm _ _ _ _ _ _ _ _ _ _ h
          dsimp only at a1 a2 a3
          obtain ⟨j, hj⟩ := z_step_call hs
          have hlen : len = 3 := by
            have h9 := (z_insd hi).2
            rcases hj with ⟨rfl, -⟩ | ⟨rfl, -⟩ | ⟨rfl, -⟩ <;> exact of_decide_eq_true h9
          subst hlen
          have hin : ∃ (kind na self lv0 ci : Nat) (t : List Nat), z_me mid j = kind :: y :: na :: self :: lv0 :: ci :: t ∧ ((i = .invokevirtual j ∧ (kind = 0 ∨ kind = 3)) ∨ (i = .invokestatic j ∧ (kind = 1 ∨ kind = 4)) ∨ (i = .invokespecial j ∧ (kind = 2 ∨ kind = 5))) ∧ st = as.reverse ++ rest ∧ as.length = na ∧ z_dp kind y rest.length = true ∧ z_rcv kind G as ci = true ∧ pc + 3 = pc' ∧ ls = ls' := by
            rcases hj with ⟨e, hj⟩ | ⟨e, hj⟩ | ⟨e, hj⟩ <;> obtain ⟨kind, na, self, lv0, ci, t, g1, g2, g3⟩ := z_call_in hj
            · exact ⟨kind, na, self, lv0, ci, t, g1, Or.inl ⟨e, by simpa using g2⟩, g3⟩
            · exact ⟨kind, na, self, lv0, ci, t, g1, Or.inr (Or.inl ⟨e, by simpa using g2⟩), g3⟩
            · exact ⟨kind, na, self, lv0, ci, t, g1, Or.inr (Or.inr ⟨e, by simpa using g2⟩), g3⟩
          obtain ⟨kind, na, self, lv0, ci, t, g1, g2, g3, g4, g5, g6, rfl, rfl⟩ := hin
          by_cases hp : z_prm y = true
          · rw [if_pos hp] at hc
            obtain ⟨b1, b2⟩ := z_prim_mono hc
            refine ⟨Nat.le_trans b1 a1, Nat.le_trans b2 a2, fun X C hE hg hL hRet => ?_⟩
            have hk1 := OK.2.2.2.2.2.2.2.2 mid j _ _ _ _ _ _ _ g1 hp
            subst hk1
            have hjs : i = .invokestatic j ∧ z_call [1, 4] mid lev (pc + 3) ls st G (z_me mid j) = some (.inr (.inr (y, lv, as, pc + 3, ls, rest))) := by
              rcases hj with ⟨e, hj⟩ | h9 | ⟨e, hj⟩
              · rcases g2 with ⟨-, z⟩ | ⟨e2, -⟩ | ⟨e2, -⟩
                · exact absurd z (by decide)
                · rw [e] at e2; cases e2
                · rw [e] at e2; cases e2
              · exact h9
              · rcases g2 with ⟨e2, -⟩ | ⟨e2, -⟩ | ⟨-, z⟩
                · rw [e] at e2; cases e2
                · rw [e] at e2; cases e2
                · exact absurd z (by decide)
            obtain ⟨rfl, hj1⟩ := hjs
            have hL1 : z_Lim X n1 k1 := by
              obtain ⟨p, l, e, R, s, m, args, below, meth, c, Q, D, n0, nst, kst, E, Amb⟩ := X
              obtain ⟨hL1, hL2⟩ : n' ≤ nst + R.cells ∧ k' ≤ kst + R.slots := hL
              exact ⟨Nat.le_trans a1 hL1, Nat.le_trans a2 hL2⟩
            exact Hp X mid lev j pc ls st n k G y lv as rest v n1 k1 G1 hrm C hg hi hj1 hp hc hL1 (a3 X C hE hg hL hRet)
          · rw [if_neg hp] at hc
            have hp : z_prm y = false := by simpa using hp
            by_cases hr : z_rk y + lv < z_rk mid + lev
            · rw [if_pos hr] at hc
              obtain ⟨le, he, hc⟩ := Option.bind_eq_some_iff.mp hc
              obtain ⟨b1, b2, b3⟩ := ih y lv (by omega) _ _ _ _ _ _ _ _ _ _ hc
              refine ⟨Nat.le_trans b1 a1, Nat.le_trans b2 a2, fun X C hE hg hL hRet => ?_⟩
              have hL1 : z_Lim X n1 k1 := by
                obtain ⟨p, l, e, R, s, m, args, below, meth, c, Q, D, n0, nst, kst, E, Amb⟩ := X
                obtain ⟨hL1, hL2⟩ : n' ≤ nst + R.cells ∧ k' ≤ kst + R.slots := hL
                exact ⟨Nat.le_trans a1 hL1, Nat.le_trans a2 hL2⟩
              have hY : z_OKY y := (OK.2.2.2.2.2.2.2.1 mid j _ _ _ _ _ _ _ g1 hp).2.2.2.2.2.1
              refine zs_call C (OK.2.2.2.2.2.2.2.1 mid j) hi g2 g1 hp g3 g4 g5 g6 hr b1 b2 ?_ hL1 (a3 X C hE hg hL hRet)
              obtain ⟨p, l, e, R, s, m, args, below, meth, c, Q, D, n0, nst, kst, E1, Amb⟩ := X
              obtain ⟨-, -, -, -, -, -, -, -, -, -, -, hA⟩ := id C
              cases (show E1 = E from hE)
              exact z_met_of hY he b1 b2 b3 l Amb n0 D hA hg
            · rw [if_neg hr] at hc; cases hc
