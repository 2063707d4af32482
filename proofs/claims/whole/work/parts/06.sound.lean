/-! CALLS, RETURNS, AND THE WHOLE WALK. -/
theorem z_cat8 {r : List Value} (h : r.length ≤ 4) : (r.map fun v => v.category).sum ≤ 8 := by
  have key : ∀ (q : List Value), (q.map fun v => v.category).sum ≤ 2 * q.length := by
    intro q
    induction q with
    | nil => exact Nat.le_refl _
    | cons v t ih =>
      simp only [List.map_cons, List.sum_cons, List.length_cons]
      rcases lv_cat v with e | e <;> omega
  exact Nat.le_trans (key r) (by omega)
theorem z_call_ne {kinds : List Nat} {mid lev pc : Nat} {ls : z_L} {st : List Value} {G : z_H} {q : List Nat} {c : Nat × z_L × List Value × Nat × Nat × z_H} (h : z_call kinds mid lev pc ls st G q = some (.inr (.inl c))) : False := by
  unfold z_call at h
  split at h
  · split at h
    · split at h
      · split at h
        · split at h
          · cases h
          · cases h
        · cases h
      · cases h
    · cases h
  · cases h
theorem z_call_nr {kinds : List Nat} {mid lev pc : Nat} {ls : z_L} {st : List Value} {G : z_H} {q : List Nat} {r : Option Value} (h : z_call kinds mid lev pc ls st G q = some (.inl r)) : False := by
  unfold z_call at h
  split at h
  · split at h
    · split at h
      · split at h
        · split at h
          · cases h
          · cases h
        · cases h
      · cases h
    · cases h
  · cases h
theorem z_take_eq : ∀ (na : Nat) (st acc as rest : List Value), z_take na st acc = some (as, rest) → acc.reverse ++ st = as.reverse ++ rest ∧ as.length = acc.length + na := by
  intro na
  induction na with
  | zero => intro st acc as rest h; cases h; exact ⟨rfl, rfl⟩
  | succ na ih =>
    intro st acc as rest h
    cases st with
    | nil => cases h
    | cons v st =>
      obtain ⟨h1, h2⟩ := ih st (v :: acc) as rest h
      refine ⟨?_, by rw [h2, List.length_cons]; omega⟩
      rw [← h1, List.reverse_cons]
      simp
theorem z_call_in {kinds : List Nat} {mid lev pc : Nat} {ls : z_L} {st : List Value} {G : z_H} {q : List Nat} {y lv : Nat} {as : List Value} {pc' : Nat} {ls' : z_L} {rest : List Value} (h : z_call kinds mid lev pc ls st G q = some (.inr (.inr (y, lv, as, pc', ls', rest)))) :
    ∃ (kind na self lv0 ci : Nat) (t : List Nat), q = kind :: y :: na :: self :: lv0 :: ci :: t ∧ kind ∈ kinds ∧ st = as.reverse ++ rest ∧ as.length = na ∧ z_dp kind y rest.length = true ∧ z_rcv kind G as ci = true ∧ pc = pc' ∧ ls = ls' := by
  unfold z_call at h
  split at h
  · next kind y0 na self lv0 ci t =>
    split at h
    · next hk =>
      split at h
      · next as0 rest0 lv' ht hlv =>
        split at h
        · next hr =>
          split at h
          · next hrc =>
            simp only [Option.some.injEq, Sum.inr.injEq, Prod.mk.injEq] at h
            obtain ⟨rfl, rfl, rfl, rfl, rfl, rfl⟩ := h
            obtain ⟨h1, h2⟩ := z_take_eq _ _ _ _ _ ht
            exact ⟨kind, na, self, lv0, ci, t, rfl, by simpa using hk, h1, by simpa using h2, hr, hrc, rfl, rfl⟩
          · cases h
        · cases h
      · cases h
    · cases h
  · cases h
/-! the JDK's own: Object.<init>, max, min, abs, arraycopy -/
def z_OKJ : Prop := (Jvm.Cond.instanceMethod Lib.objectInit ∈ z_T ∧ Jvm.Cond.code Lib.objectInit ⟨#[0xb1]⟩ 1 none ∈ z_T) ∧ Jvm.Cond.initialized "java/lang/Math" ∈ z_T ∧
  (Jvm.Cond.static Lib.Math.max.name ∈ z_T ∧ Jvm.Cond.code Lib.Math.max.name Lib.Math.max.code 2 (some .int) ∈ z_T) ∧ (Jvm.Cond.static Lib.Math.min.name ∈ z_T ∧ Jvm.Cond.code Lib.Math.min.name Lib.Math.min.code 2 (some .int) ∈ z_T) ∧
  (Jvm.Cond.static Lib.Math.abs.name ∈ z_T ∧ Jvm.Cond.code Lib.Math.abs.name Lib.Math.abs.code 1 (some .int) ∈ z_T) ∧ Jvm.Cond.native arraycopyName ∈ z_T ∧ Jvm.Cond.static arraycopyName ∈ z_T ∧ Jvm.Cond.initialized "java/lang/System" ∈ z_T
def z_OKV (mid j : Nat) : Prop := (∀ t, z_me mid j = 6 :: t → Jvm.Cond.methodLink (z_nm mid).cls j Lib.objectInit ∈ z_T) ∧ (∀ t, z_me mid j = 7 :: t → Jvm.Cond.methodLink (z_nm mid).cls j Lib.Math.max.name ∈ z_T) ∧ (∀ t, z_me mid j = 8 :: t → Jvm.Cond.methodLink (z_nm mid).cls j Lib.Math.min.name ∈ z_T) ∧
  (∀ t, z_me mid j = 9 :: t → Jvm.Cond.methodLink (z_nm mid).cls j Lib.Math.abs.name ∈ z_T) ∧ ∀ t, z_me mid j = 10 :: t → Jvm.Cond.methodLink (z_nm mid).cls j arraycopyName ∈ z_T
theorem zs_invokespecial (j : Nat) (hJ : z_OKJ) (hV : ∀ mid, z_OKV mid j) : z_Stp (.invokespecial j) := by
  rintro ⟨p, l, e, R, s, m, args, below, meth, c, Q, D, n0, nst, kst, E, Amb⟩ mid lev len pc ls st n k G pc' ls' st' n' k' G' ⟨hx, hb, hr, hml, hown, hts, hin, hfr, hlo, hrk, hNw, hA⟩ hi h
  obtain ⟨hd, hlen⟩ := z_insd hi
  have hlen : len = 3 := of_decide_eq_true hlen
  subst hlen
  simp only [z_step, z_ksp] at h
  split at h
  · next t he =>
    split at h
    · next a r =>
      split at h
      · next hr4 =>
        obtain ⟨rfl, rfl, rfl, rfl, rfl, rfl⟩ := z_nx_in h
        refine ⟨Nat.le_refl _, Nat.le_refl _, fun _ kk => ?_⟩
        intro H locs lsA cells slots hl hR hq hc hs
        have h8 := z_cat8 hr4
        exact W.objInit hx hb hown (hts _ ((hV mid).1 t he)) (hts _ hJ.1.1) (hts _ hJ.1.2) rfl (by rw [hml]; exact hl.1.1) rfl hd (by omega) (by show 2 * 0 + _ + 12 ≤ _; omega) (kk H locs lsA cells slots hl hR hq hc hs)
      · cases h
    · cases h
  · exact (z_call_ne h).elim
set_option maxHeartbeats 4000000 in
theorem zs_arraycopy {X : z_X} {mid lev pc : Nat} {ls : z_L} {n k : Nat} {G : z_H} {j : Nat} {G1 : z_H} {cn dp sp : Int32} {a1 a0 : Nat} {r : List Value} (C : z_Cx X mid lev) (hJ : z_OKJ) (hm : Jvm.Cond.methodLink (z_nm mid).cls j arraycopyName ∈ z_T) (hi : z_ins mid pc = some (.invokestatic j, 3))
    (hv : z_cp G a0 sp a1 dp cn = some G1) (hr4 : r.length ≤ 4) (kk : z_WW X (pc + 3) mid ls r n k G1) : z_WW X pc mid ls (.int cn :: .int dp :: .ref a1 :: .int sp :: .ref a0 :: r) n k G := by
  obtain ⟨p, l, e, R, s, m, args, below, meth, c, Q, D, n0, nst, kst, E, Amb⟩ := X
  obtain ⟨hx, hb, hr, hml, hown, hts, hin, hfr, hlo, hrk, hNw, hA⟩ := C
  obtain ⟨hd, -⟩ := z_insd hi
  intro H locs lsA cells slots hl hR hq hc hs
  have h8 := z_cat8 hr4
  unfold z_cp at hv
  split at hv
  · next N0 f N1 g hG0 hG1 =>
    split at hv
    · cases hv
    · next ho =>
      cases hv
      have h1 : ¬ sp < 0 := fun z => ho (Or.inl z)
      have h2 : ¬ dp < 0 := fun z => ho (Or.inr (Or.inl z))
      have h3 : ¬ cn < 0 := fun z => ho (Or.inr (Or.inr (Or.inl z)))
      have h4 : sp.toNatClampNeg + cn.toNatClampNeg ≤ N0 := Nat.not_lt.mp fun z => ho (Or.inr (Or.inr (Or.inr (Or.inl z))))
      have h5 : dp.toNatClampNeg + cn.toNatClampNeg ≤ N1 := Nat.not_lt.mp fun z => ho (Or.inr (Or.inr (Or.inr (Or.inr z))))
      obtain ⟨c0, -, hK0, hc0⟩ := hR.PA hG0
      obtain ⟨c1, -, hK1, hc1⟩ := hR.PA hG1
      have nn : ∀ z : Int32, ¬ z < 0 → z.toInt = (z.toNatClampNeg : Int) := by
        intro z hz
        have hz0 : (0 : Int) ≤ z.toInt := by
          have := Int32.not_lt.mp hz
          simpa using Int32.le_iff_toInt_le.mp this
        show z.toInt = ((z.toInt.toNat : Nat) : Int)
        omega
      intro T hT X
      obtain ⟨-, k0, hk0, cm0, hkk0⟩ := (hK0.2 0 _ rfl).1 N0 (fun j => .int (f j))
      obtain ⟨-, k1, hk1, cm1, hkk1⟩ := (hK1.2 0 _ rfl).1 N1 (fun j => .int (g j))
      obtain ⟨vm', X', step⟩ := X.arraycopy hx hown (hts _ hm) (hts _ hJ.2.2.2.2.2.1) (hts _ hJ.2.2.2.2.2.2.1) (hts _ hJ.2.2.2.2.2.2.2) (src := a0) (dst := a1) (cs := vp_cell c0 (N0, .inl f)) (cd := vp_cell c1 (N1, .inl g)) (srcPos := sp) (destPos := dp) (n := cn) (by rw [hT]; exact hc0) (by rw [hT]; exact hc1)
        (fun _ h => by cases h) (fun _ h => by cases h) (fun h => by cases h) (fun h => by cases h) hk0 hk1 hkk0 hkk1 (by rfl) h1 h2 h3
        (by rw [nn sp h1, nn cn h3]; show ¬ _ > ((arrV c0 N0 (fun j => .int (f j))).slots.size : Int); rw [arrV_size]; omega)
        (by rw [nn dp h2, nn cn h3]; show ¬ _ > ((arrV c1 N1 (fun j => .int (g j))).slots.size : Int); rw [arrV_size]; omega)
        (fun vm₁ _ i hi => by
          have e : (vp_cell c0 (N0, .inl f)).slots.getD (sp.toNatClampNeg + i) .null = .int (f (sp.toNatClampNeg + i)) := by
            show (arrV c0 N0 (fun j => .int (f j))).slots.getD _ _ = _
            rw [Array.getD_eq_getD_getElem?, arrV_read _ _ (by omega)]
            rfl
          refine ⟨?_, ?_⟩
          · rw [e]; rfl
          · rw [e]
            exact trivial)
        (g := F0 m pc lsA (.int cn :: .int dp :: .ref a1 :: .int sp :: .ref a0 :: r)) rfl (by rw [hml]; exact hl.1.1) (rest := r) rfl (by rw [hb]; exact hd) (by omega) (by rw [nativeFrameWords_plain 5 (by decide +kernel)]; show 2 * 0 + _ + _ ≤ _; omega)
      have e1 : copied (vp_cell c0 (N0, .inl f)) (vp_cell c1 (N1, .inl g)) sp dp cn = vp_cell c1 (N1, .inl (va_cpy f g sp.toNatClampNeg dp.toNatClampNeg cn.toNatClampNeg)) := va_copied (fun z => .int z) c0 c1 f g h4
      rw [e1] at X' step
      have hla : a1 < H.size := (Array.getElem?_eq_some_iff.mp hc1).1
      have hheap : ((T.setVm vm').setCell a1 (vp_cell c1 (N1, .inl (va_cpy f g sp.toNatClampNeg dp.toNatClampNeg cn.toNatClampNeg)))).heap = H.setIfInBounds a1 (vp_cell c1 (N1, .inl (va_cpy f g sp.toNatClampNeg dp.toNatClampNeg cn.toNatClampNeg))) := by rw [← hT]; rfl
      have oq : ∀ q : Nat, q ≠ a1 → (H.setIfInBounds a1 (vp_cell c1 (N1, .inl (va_cpy f g sp.toNatClampNeg dp.toNatClampNeg cn.toNatClampNeg))))[q]? = H[q]? := fun q hq => by simp [Array.getElem?_setIfInBounds, Ne.symm hq]
      have hR1 := hR.set (c := .inr (.int, N1, .inl (va_cpy f g sp.toNatClampNeg dp.toNatClampNeg cn.toNatClampNeg))) hA hG1 ⟨c1, (show (H.setIfInBounds a1 _)[a1]? = some _ by simp [Array.getElem?_setIfInBounds, hla]), (hK1.2 0 _ rfl).1, (hK1.2 0 _ rfl).2⟩ (by simp) oq
      have hna : n0 ≤ a1 := (hR.2.2.2.2.2.2 a1 _ hG1).1
      obtain ⟨t, b1, b2⟩ := kk _ _ lsA cells slots hl hR1 (by
        intro q hq2
        rcases List.mem_append.mp hq2 with h | h
        · exact hq q h
        · obtain ⟨z, -, hz⟩ := List.mem_map.mp h
          rw [← hz]
          exact hna) hc hs _ hheap X'
      exact ⟨t, step t b1, b2⟩
  · cases hv
theorem zs_invokestatic (j : Nat) (hJ : z_OKJ) (hV : ∀ mid, z_OKV mid j) : z_Stp (.invokestatic j) := by
  intro X0 mid lev len pc ls st n k G pc' ls' st' n' k' G' hCx hi h
  have C0 := hCx
  obtain ⟨p, l, e, R, s, m, args, below, meth, c, Q, D, n0, nst, kst, E, Amb⟩ := X0
  obtain ⟨hx, hb, hr, hml, hown, hts, hin, hfr, hlo, hrk, hNw, hA⟩ := hCx
  obtain ⟨hd, hlen⟩ := z_insd hi
  have hlen : len = 3 := of_decide_eq_true hlen
  subst hlen
  simp only [z_step, z_kis] at h
  split at h
  · next t he =>
    split at h
    · next r =>
      split at h
      · next hr4 =>
        obtain ⟨rfl, rfl, rfl, rfl, rfl, rfl⟩ := z_nx_in h
        refine ⟨Nat.le_refl _, Nat.le_refl _, fun hL kk => ?_⟩
        obtain ⟨hL1, hL2⟩ : n ≤ nst + R.cells ∧ k ≤ kst + R.slots := hL
        intro H locs lsA cells slots hl hR hq hc hs
        have h8 := z_cat8 hr4
        exact va_mmax hx hb (by rw [hml]; exact hl.1.1.symm) hown (hts _ ((hV mid).2.1 t he)) (hts _ hJ.2.2.1.1) (hts _ hJ.2.1) (hts _ hJ.2.2.1.2) (by omega) (by omega) (by omega) (by omega) hd (kk H locs lsA cells slots hl hR hq hc hs)
      · cases h
    · cases h
  · next t he =>
    split at h
    · next r =>
      split at h
      · next hr4 =>
        obtain ⟨rfl, rfl, rfl, rfl, rfl, rfl⟩ := z_nx_in h
        refine ⟨Nat.le_refl _, Nat.le_refl _, fun hL kk => ?_⟩
        obtain ⟨hL1, hL2⟩ : n ≤ nst + R.cells ∧ k ≤ kst + R.slots := hL
        intro H locs lsA cells slots hl hR hq hc hs
        have h8 := z_cat8 hr4
        exact va_mmin hx hb (by rw [hml]; exact hl.1.1.symm) hown (hts _ ((hV mid).2.2.1 t he)) (hts _ hJ.2.2.2.1.1) (hts _ hJ.2.1) (hts _ hJ.2.2.2.1.2) (by omega) (by omega) (by omega) (by omega) hd (kk H locs lsA cells slots hl hR hq hc hs)
      · cases h
    · cases h
  · next t he =>
    split at h
    · next r =>
      split at h
      · next hr4 =>
        obtain ⟨rfl, rfl, rfl, rfl, rfl, rfl⟩ := z_nx_in h
        refine ⟨Nat.le_refl _, Nat.le_refl _, fun hL kk => ?_⟩
        obtain ⟨hL1, hL2⟩ : n ≤ nst + R.cells ∧ k ≤ kst + R.slots := hL
        intro H locs lsA cells slots hl hR hq hc hs
        have h8 := z_cat8 hr4
        exact va_mabs hx hb (by rw [hml]; exact hl.1.1.symm) hown (hts _ ((hV mid).2.2.2.1 t he)) (hts _ hJ.2.2.2.2.1.1) (hts _ hJ.2.1) (hts _ hJ.2.2.2.2.1.2) (by omega) (by omega) (by omega) (by omega) hd (kk H locs lsA cells slots hl hR hq hc hs)
      · cases h
    · cases h
  · next t he =>
    split at h
    · next cn dp a1 sp a0 r =>
      split at h
      · next hr4 =>
        cases hv : z_cp G a0 sp a1 dp cn with
        | none => rw [hv] at h; cases h
        | some G1 =>
          rw [hv] at h
          obtain ⟨rfl, rfl, rfl, rfl, rfl, rfl⟩ := z_nx_in h
          exact ⟨Nat.le_refl _, Nat.le_refl _, fun _ kk => zs_arraycopy C0 hJ ((hV mid).2.2.2.2 t he) hi hv hr4 kk⟩
      · cases h
    · cases h
  · exact (z_call_ne h).elim
