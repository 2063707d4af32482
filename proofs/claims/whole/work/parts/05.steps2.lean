/-! THE STEPS THAT ASK THE TABLES. -/
def z_clsOK (C : String) (T : u_T) (N : Nat) (ft : Nat → FieldType) : Prop := (∀ w ∈ u_ws C T N, w ∈ z_T) ∧ (∀ k, k < N → parseFieldDescriptor (T k).2.2.1 = some (ft k)) ∧ ∀ a, a < N → ∀ b, b < N → a ≠ b → (T a).2.1 ≠ (T b).2.1
def z_tyc : Nat → FieldType → Prop
  | 0, t => t = .int
  | 1, t => t = .boolean
  | 2, t => ∃ C, t = .object C
  | 3, t => ∃ u, t = .array u
  | _, _ => False
def z_OKF (mid j : Nat) : Prop := ∀ (k lo hi ty fin : Nat) (t : List Nat), z_fe mid j = k :: lo :: hi :: ty :: fin :: t → ∃ ref name desc : String,
  (Jvm.Cond.fieldLink (z_nm mid).cls j ref name desc ∈ z_T ∨ (fin ≠ 1 ∧ ∃ host, Jvm.Cond.fieldLinkNest (z_nm mid).cls j ref name desc host ∈ z_N)) ∧
  ∀ ci, lo ≤ ci → ci ≤ hi → ∃ (C : String) (T : u_T) (N : Nat) (ft : Nat → FieldType), z_cl[ci]? = some (C, T, N) ∧ z_clsOK C T N ft ∧ k < N ∧ (T k).2.1 = name ∧ (T k).2.2.1 = desc ∧ ((T k).1 = ref ∨ Jvm.Cond.sameField ref (T k).1 name desc ∈ z_T) ∧ z_tyc ty (ft k) ∧
    (fin = 0 → (T k).2.2.2 = false) ∧ (fin = 1 → (T k).2.2.2 = true ∧ (T k).1 = (z_nm mid).cls)
def z_OKC (mid j : Nat) : Prop := (∀ v t, z_ce mid j = 0 :: v :: t → Jvm.Cond.constant (z_nm mid).cls j (Int32.ofNat v) ∈ z_T) ∧ ∀ v t, z_ce mid j = 1 :: v :: t → Jvm.Cond.constantLong (z_nm mid).cls j (Int64.ofNat v) ∈ z_T
def z_OKN (mid j : Nat) : Prop := (∀ ci N t, z_ne mid j = 0 :: ci :: N :: t → ∃ (C : String) (T : u_T) (ft : Nat → FieldType), z_cl[ci]? = some (C, T, N) ∧ z_clsOK C T N ft ∧ Jvm.Cond.classLink (z_nm mid).cls j C ∈ z_T ∧ Jvm.Cond.instantiable C N ∈ z_T ∧ Jvm.Cond.initialized C ∈ z_T ∧ ∀ q, q < N → defaultValue (ft q) = vp_V (z_blank ci) q) ∧
  ∀ ci t, z_ae mid j = 1 :: ci :: t → Jvm.Cond.classLink (z_nm mid).cls j (z_cnm ci) ∈ z_T ∧ Jvm.Cond.arrayOver (.object (z_cnm ci)) ∈ z_N
def z_OKI : Prop := Jvm.Cond.arrayClass .int ∈ z_T ∧ Jvm.Cond.arrayClass .long ∈ z_T
/-- a row of references takes an object of such a class: the same class, or one under it -/
def z_OKT : Prop := ∀ C ci, z_takes C ci = true → ∃ (C' : String) (T : u_T) (N : Nat), z_cl[ci]? = some (C', T, N) ∧ (C' = C ∨ Jvm.Cond.castable C' C ∈ z_N)
theorem z_fitS {ty : Nat} {f : FieldType} {v : Value} (h : z_fit ty v = true) (ht : z_tyc ty f) : narrow f v = v ∧ fits f v = true := by
  unfold z_fit at h
  split at h
  · have : f = .int := ht
    subst this; exact ⟨rfl, rfl⟩
  · next x =>
    have : f = .boolean := ht
    subst this
    simp only [Bool.or_eq_true, beq_iff_eq] at h
    rcases h with rfl | rfl <;> exact ⟨by decide, by decide⟩
  · obtain ⟨C, rfl⟩ := ht; exact ⟨rfl, rfl⟩
  · obtain ⟨C, rfl⟩ := ht; exact ⟨rfl, rfl⟩
  · obtain ⟨C, rfl⟩ := ht; exact ⟨rfl, rfl⟩
  · obtain ⟨C, rfl⟩ := ht; exact ⟨rfl, rfl⟩
  · cases h
theorem z_inb {i : Int32} {N : Nat} (h : ¬ z_out i N = true) : vp_in i N := by
  intro hq
  apply h
  unfold z_out
  simp only [Bool.or_eq_true, decide_eq_true_eq]
  exact hq
theorem zs_ifnull (off : Int) : z_Stp (.ifnull off) := by
  rintro ⟨p, l, e, R, s, m, args, below, meth, c, Q, D, n0, nst, kst, E, Amb⟩ mid lev len pc ls st n k G pc' ls' st' n' k' G' ⟨hx, hb, hr, hml, hown, hts, hin, hfr, hlo, hrk, hNw, hA⟩ hi h
  obtain ⟨hd, hlen⟩ := z_insd hi
  have hlen : len = 3 := of_decide_eq_true hlen
  subst hlen
  simp only [z_step] at h
  split at h
  · obtain ⟨et, rfl, rfl, rfl, rfl, rfl⟩ := z_jp_in h
    refine ⟨Nat.le_refl _, Nat.le_refl _, fun _ kk => ?_⟩
    intro H locs lsA cells slots hl hR hq hc hs
    exact lv_ifnullN hx hb hd et (kk H locs lsA cells slots hl hR hq hc hs)
  · obtain ⟨rfl, rfl, rfl, rfl, rfl, rfl⟩ := z_nx_in h
    refine ⟨Nat.le_refl _, Nat.le_refl _, fun _ kk => ?_⟩
    intro H locs lsA cells slots hl hR hq hc hs
    exact lv_ifnull hx hb hd (kk H locs lsA cells slots hl hR hq hc hs)
  · cases h
theorem zs_ifnonnull (off : Int) : z_Stp (.ifnonnull off) := by
  rintro ⟨p, l, e, R, s, m, args, below, meth, c, Q, D, n0, nst, kst, E, Amb⟩ mid lev len pc ls st n k G pc' ls' st' n' k' G' ⟨hx, hb, hr, hml, hown, hts, hin, hfr, hlo, hrk, hNw, hA⟩ hi h
  obtain ⟨hd, hlen⟩ := z_insd hi
  have hlen : len = 3 := of_decide_eq_true hlen
  subst hlen
  simp only [z_step] at h
  split at h
  · obtain ⟨rfl, rfl, rfl, rfl, rfl, rfl⟩ := z_nx_in h
    refine ⟨Nat.le_refl _, Nat.le_refl _, fun _ kk => ?_⟩
    intro H locs lsA cells slots hl hR hq hc hs
    exact lv_ifnonnullN hx hb hd (kk H locs lsA cells slots hl hR hq hc hs)
  · obtain ⟨et, rfl, rfl, rfl, rfl, rfl⟩ := z_jp_in h
    refine ⟨Nat.le_refl _, Nat.le_refl _, fun _ kk => ?_⟩
    intro H locs lsA cells slots hl hR hq hc hs
    exact lv_ifnonnull hx hb hd et (kk H locs lsA cells slots hl hR hq hc hs)
  · cases h
theorem z_sw_offset : ∀ (ps : List (Int × Int)) (d x : Int), z_sw ps d x = Op.lookupswitch.offset ps d x := by
  intro ps
  induction ps with
  | nil => intro d x; rfl
  | cons q r ih =>
    intro d x
    obtain ⟨v, o⟩ := q
    rw [Op.lookupswitch.offset_cons]
    unfold z_sw
    rw [ih]
    by_cases h : x = v
    · rw [if_pos h, if_pos h.symm]
    · rw [if_neg h, if_neg (fun z => h z.symm)]
theorem zs_lookupswitch (d : Int) (ps : Array (Int × Int)) : z_Stp (.lookupswitch d ps) := by
  rintro ⟨p, l, e, R, s, m, args, below, meth, c, Q, D, n0, nst, kst, E, Amb⟩ mid lev len pc ls st n k G pc' ls' st' n' k' G' ⟨hx, hb, hr, hml, hown, hts, hin, hfr, hlo, hrk, hNw, hA⟩ hi h
  obtain ⟨hd, -⟩ := z_insd hi
  simp only [z_step] at h
  split at h
  · split at h
    · next hp =>
      obtain ⟨et, rfl, rfl, rfl, rfl, rfl⟩ := z_jp_in h
      refine ⟨Nat.le_refl _, Nat.le_refl _, fun _ kk => ?_⟩
      intro H locs lsA cells slots hl hR hq hc hs
      exact lv_lookup hx hb hd hp (z_sw_offset _ _ _).symm et (kk H locs lsA cells slots hl hR hq hc hs)
    · cases h
  · cases h
theorem z_sw_table (lo : Int) (offs : Array Int) (d x : Int) : ∀ (ms : List Nat), (∀ j ∈ ms, (j : Int) + lo ≠ x) → z_sw (ms.map fun (j : Nat) => (lo + (j : Int), offs.getD j 0)) d x = d := by
  intro ms
  induction ms with
  | nil => intro _; rfl
  | cons j r ih =>
    intro h
    have h1 := h j List.mem_cons_self
    show (if x = lo + (j : Int) then _ else z_sw _ d x) = d
    rw [if_neg (by omega)]
    exact ih (fun q hq => h q (List.mem_cons_of_mem _ hq))
theorem z_sw_table_in (lo : Int) (offs : Array Int) (d x : Int) (i : Nat) (hx : lo + (i : Int) = x) : ∀ (ms : List Nat), i ∈ ms → z_sw (ms.map fun (j : Nat) => (lo + (j : Int), offs.getD j 0)) d x = offs.getD i 0 := by
  intro ms
  induction ms with
  | nil => intro h; cases h
  | cons j r ih =>
    intro h
    show (if x = lo + (j : Int) then offs.getD j 0 else z_sw _ d x) = _
    by_cases e : x = lo + (j : Int)
    · rw [if_pos e]
      have : i = j := by omega
      rw [this]
    · rw [if_neg e]
      rcases List.mem_cons.mp h with h | h
      · subst h; exact absurd hx.symm e
      · exact ih h
theorem zs_tableswitch (d lo hi0 : Int) (offs : Array Int) : z_Stp (.tableswitch d lo hi0 offs) := by
  rintro ⟨p, l, e, R, s, m, args, below, meth, c, Q, D, n0, nst, kst, E, Amb⟩ mid lev len pc ls st n k G pc' ls' st' n' k' G' ⟨hx, hb, hr, hml, hown, hts, hin, hfr, hlo, hrk, hNw, hA⟩ hi h
  obtain ⟨hd, -⟩ := z_insd hi
  simp only [z_step] at h
  split at h
  · next x r =>
    split at h
    · next hsz =>
      obtain ⟨et, rfl, rfl, rfl, rfl, rfl⟩ := z_jp_in h
      refine ⟨Nat.le_refl _, Nat.le_refl _, fun _ kk => ?_⟩
      intro H locs lsA cells slots hl hR hq hc hs
      by_cases hout : x.toInt < lo ∨ hi0 < x.toInt
      · rw [z_sw_table] at et
        · exact lv_tableOut hx hb hd hout et (kk H locs lsA cells slots hl hR hq hc hs)
        · intro j hj
          have := List.mem_range.mp hj
          omega
      · have h1 : ¬ x.toInt < lo := fun z => hout (Or.inl z)
        have h2 : ¬ hi0 < x.toInt := fun z => hout (Or.inr z)
        have hlt : (x.toInt - lo).toNat < offs.size := by omega
        rw [z_sw_table_in lo offs d x.toInt (x.toInt - lo).toNat (by omega) _ (List.mem_range.mpr hlt)] at et
        exact lv_tableIn hx hb hd h1 h2 (off := offs.getD (x.toInt - lo).toNat 0) (by simp [Array.getD, hlt]) et (kk H locs lsA cells slots hl hR hq hc hs)
    · cases h
  · cases h
theorem zs_ldc (j : Nat) (hT : ∀ mid, z_OKC mid j) : z_Stp (.ldc j) := by
  rintro ⟨p, l, e, R, s, m, args, below, meth, c, Q, D, n0, nst, kst, E, Amb⟩ mid lev len pc ls st n k G pc' ls' st' n' k' G' ⟨hx, hb, hr, hml, hown, hts, hin, hfr, hlo, hrk, hNw, hA⟩ hi h
  obtain ⟨hd, hlen⟩ := z_insd hi
  have hlen : len = 2 := of_decide_eq_true hlen
  subst hlen
  simp only [z_step, z_kc] at h
  split at h
  · next v t hv =>
    obtain ⟨rfl, rfl, rfl, rfl, rfl, rfl⟩ := z_nx_in h
    refine ⟨Nat.le_refl _, Nat.le_refl _, fun _ kk => ?_⟩
    intro H locs lsA cells slots hl hR hq hc hs
    exact lv_ldc hx hb hown (hts _ ((hT mid).1 v t hv)) hd (kk H locs lsA cells slots hl hR hq hc hs)
  · cases h
theorem zs_ldc_w (j : Nat) (hT : ∀ mid, z_OKC mid j) : z_Stp (.ldc_w j) := by
  rintro ⟨p, l, e, R, s, m, args, below, meth, c, Q, D, n0, nst, kst, E, Amb⟩ mid lev len pc ls st n k G pc' ls' st' n' k' G' ⟨hx, hb, hr, hml, hown, hts, hin, hfr, hlo, hrk, hNw, hA⟩ hi h
  obtain ⟨hd, hlen⟩ := z_insd hi
  have hlen : len = 3 := of_decide_eq_true hlen
  subst hlen
  simp only [z_step, z_kc] at h
  split at h
  · next v t hv =>
    obtain ⟨rfl, rfl, rfl, rfl, rfl, rfl⟩ := z_nx_in h
    refine ⟨Nat.le_refl _, Nat.le_refl _, fun _ kk => ?_⟩
    intro H locs lsA cells slots hl hR hq hc hs
    exact lv_ldcw hx hb hown (hts _ ((hT mid).1 v t hv)) hd (kk H locs lsA cells slots hl hR hq hc hs)
  · cases h
theorem zs_ldc2_w (j : Nat) (hT : ∀ mid, z_OKC mid j) : z_Stp (.ldc2_w j) := by
  rintro ⟨p, l, e, R, s, m, args, below, meth, c, Q, D, n0, nst, kst, E, Amb⟩ mid lev len pc ls st n k G pc' ls' st' n' k' G' ⟨hx, hb, hr, hml, hown, hts, hin, hfr, hlo, hrk, hNw, hA⟩ hi h
  obtain ⟨hd, hlen⟩ := z_insd hi
  have hlen : len = 3 := of_decide_eq_true hlen
  subst hlen
  simp only [z_step, z_kl] at h
  split at h
  · next v t hv =>
    obtain ⟨rfl, rfl, rfl, rfl, rfl, rfl⟩ := z_nx_in h
    refine ⟨Nat.le_refl _, Nat.le_refl _, fun _ kk => ?_⟩
    intro H locs lsA cells slots hl hR hq hc hs
    exact lv_ldc2 hx hb hown (hts _ ((hT mid).2 v t hv)) hd (kk H locs lsA cells slots hl hR hq hc hs)
  · cases h
theorem z_same {args : Array Value} {s : State} {ref own name desc : String} (h : own = ref ∨ (Jvm.Cond.sameField ref own name desc).before args s = true) (x : ClassId × Class × Nat × Field) (ho : s.fieldFound? own name desc = some x) : s.fieldFound? ref name desc = some x := by
  rcases h with rfl | h
  · exact ho
  · exact u_same h x ho
theorem zs_getfield (j : Nat) (hT : ∀ mid, z_OKF mid j) : z_Stp (.getfield j) := by
  rintro ⟨p, l, e, R, s, m, args, below, meth, c, Q, D, n0, nst, kst, E, Amb⟩ mid lev len pc ls st n k G pc' ls' st' n' k' G' ⟨hx, hb, hr, hml, hown, hts, hin, hfr, hlo, hrk, hNw, hA⟩ hi h
  obtain ⟨hd, hlen⟩ := z_insd hi
  have hlen : len = 3 := of_decide_eq_true hlen
  subst hlen
  simp only [z_step] at h
  split at h
  · next a r =>
    cases hv : z_gf G a (z_fe mid j) with
    | none => rw [hv] at h; cases h
    | some v =>
      rw [hv] at h
      obtain ⟨rfl, rfl, rfl, rfl, rfl, rfl⟩ := z_nx_in h
      refine ⟨Nat.le_refl _, Nat.le_refl _, fun _ kk => ?_⟩
      intro H locs lsA cells slots hl hR hq hc hs
      have kk := kk H locs lsA cells slots hl hR hq hc hs
      generalize he : z_fe mid j = ent at hv
      unfold z_gf at hv
      split at hv
      · next k0 lo hi0 ty fin t =>
        split at hv
        · next ci fs hG =>
          split at hv
          · next hci =>
            obtain ⟨ref, name, desc, hlink, hcls⟩ := hT mid _ _ _ _ _ _ he
            obtain ⟨C, T, N, ft, g1, ⟨g2, g3, g4⟩, g5, rfl, rfl, g8, g9, g10, g11⟩ := hcls ci hci.1 hci.2
            have hin2 : ∀ w ∈ u_ws C T N, w ∈ z_T := g2
            have hsm : ∀ x, s.fieldFound? (T k0).1 (T k0).2.1 (T k0).2.2.1 = some x → s.fieldFound? ref (T k0).2.1 (T k0).2.2.1 = some x := fun x hx0 => z_same (g8.imp id (fun z => hts _ z)) x hx0
            rcases hlink with hlink | ⟨-, host, hlink⟩
            · exact va_get (D := D) (ci := ci) hx hb hts hin2 hown hR.2.2.1 (hR.P1 hG) 0 rfl g1 k0 g5 (hts _ hlink) hsm hv hd kk
            · exact va_getN (D := D) (ci := ci) hx hb hts hin2 hown hR.2.2.1 (hR.P1 hG) 0 rfl g1 k0 g5 (va_Nw.use rfl (hNw _ hlink)) hsm hv hd kk
          · cases hv
        · cases hv
      · cases hv
  · cases h
theorem zs_putfield (j : Nat) (hT : ∀ mid, z_OKF mid j) : z_Stp (.putfield j) := by
  rintro ⟨p, l, e, R, s, m, args, below, meth, c, Q, D, n0, nst, kst, E, Amb⟩ mid lev len pc ls st n k G pc' ls' st' n' k' G' ⟨hx, hb, hr, hml, hown, hts, hin, hfr, hlo, hrk, hNw, hA⟩ hi h
  obtain ⟨hd, hlen⟩ := z_insd hi
  have hlen : len = 3 := of_decide_eq_true hlen
  subst hlen
  simp only [z_step] at h
  split at h
  · next v a r =>
    cases hv : z_pf G a v (z_init mid) (z_fe mid j) with
    | none => rw [hv] at h; cases h
    | some G1 =>
      rw [hv] at h
      obtain ⟨rfl, rfl, rfl, rfl, rfl, rfl⟩ := z_nx_in h
      refine ⟨Nat.le_refl _, Nat.le_refl _, fun _ kk => ?_⟩
      intro H locs lsA cells slots hl hR hq hc hs
      generalize he : z_fe mid j = ent at hv
      unfold z_pf at hv
      split at hv
      · next k0 lo hi0 ty fin t =>
        split at hv
        · next ci fs hG =>
          split at hv
          · next hci =>
            cases hv
            obtain ⟨ref, name, desc, hlink, hcls⟩ := hT mid _ _ _ _ _ _ he
            obtain ⟨C, T, N, ft, g1, ⟨g2, g3, g4⟩, g5, rfl, rfl, g8, g9, g10, g11⟩ := hcls ci hci.1 hci.2.1
            have hin2 : ∀ w ∈ u_ws C T N, w ∈ z_T := g2
            have hsm : ∀ x, s.fieldFound? (T k0).1 (T k0).2.1 (T k0).2.2.1 = some x → s.fieldFound? ref (T k0).2.1 (T k0).2.2.1 = some x := fun x hx0 => z_same (g8.imp id (fun z => hts _ z)) x hx0
            obtain ⟨hn, hfit⟩ := z_fitS hci.2.2.2.1 g9
            have hap := va_apart (own := (z_nm mid).cls) hts hin2 ft g3 g4 hR.2.2.1 g1
            obtain ⟨hna, r0, h1, cell, q1, q2, q3, q4⟩ := hR.2.2.2.2.2.2 a _ hG
            have hr0 : r0 = (C, T, N) := Option.some.inj (h1.symm.trans g1)
            subst hr0
            obtain ⟨hS, hfc, kC, hkC, hkind⟩ := hR.2.2.1.1 ci _ g1
            obtain ⟨cf, kf, fi, f, hi2, hsl⟩ := hS k0 g5
            have hlay := hts _ (hin2 _ (u_in_lay g5))
            have hst := (u_facts hfc hkC (u_lays hts hin2 g5) hi2).1
            have fini : ∀ (H' : Heap), H'[a]? = some (cell.setSlot f.slot v) → H'.size = H.size → (∀ q, q ≠ a → H'[q]? = H[q]?) → W p l e R s m args below meth c H' (locs ++ [⟨a, f.slot⟩]) cells slots Q (F0 m (pc + 3) lsA r) := by
              intro H' e1 e2 e3
              rw [hsl] at e1
              refine kk H' _ lsA cells slots hl (hR.set hA hG ?_ e2 e3) ?_ hc hs
              · exact ⟨_, g1, t_OB.to (V := updV (vp_V fs) k0 v) ⟨_, e1, q2, q3, t_set q4 hap g5 v⟩ (fun j _ => vp_updV_set hci.2.2.1 v j)⟩
              · intro q hq2
                rcases List.mem_append.mp hq2 with z | z
                · exact hq q z
                · rw [List.mem_singleton.mp z]; exact hna
            unfold u_lay at hlay
            rcases hci.2.2.2.2 with hf0 | ⟨hf1, hini⟩
            · rw [if_neg (by rw [g10 hf0]; decide)] at hlay
              have h6 := u_store hfc hkC hkind hlay hi2 (g3 k0 g5) hn hfit
              rcases hlink with hlink | ⟨-, host, hlink⟩
              · exact W.putK hx hb (f := f) ⟨hown, hts _ hlink, ⟨_, _, _, hsm _ hi2⟩, hst⟩ (by rw [q2]; exact h6) q1 q3 (by rw [hsl]; exact k2_hasslot (q4 k0 g5)) rfl rfl hd fini
              · exact va_WputK hx hb (f := f) hown (va_Nw.use rfl (hNw _ hlink)) (hsm _ hi2) hst (by rw [q2]; exact h6) q1 q3 (by rw [hsl]; exact k2_hasslot (q4 k0 g5)) rfl rfl hd fini
            · obtain ⟨hfin, hdecl⟩ := g11 hf1
              rw [if_pos hfin] at hlay
              have hcf : m.cls = cf := by
                obtain ⟨_, _, c', _, _, _, -, -, hf', -, -, -, hown2, -⟩ := Cond.laysFinal_spec hlay
                have e1 : c' = cf := by have := hi2.symm.trans hf'; simp at this; exact this.1.symm
                rw [hdecl] at hown2
                rw [← e1]; exact Option.some.inj (hown.symm.trans hown2)
              have h6 := u_fits hfc hkC hkind (Or.inr hlay) hi2 (g3 k0 g5) hn hfit
              rcases hlink with hlink | ⟨hne, -⟩
              · exact W.putFinK hx hb hown (hts _ hlink) (hsm _ hi2) hst hcf (hin hini) (by rw [q2]; exact h6) q1 q3 (by rw [hsl]; exact k2_hasslot (q4 k0 g5)) rfl rfl hd fini
              · exact absurd hf1 hne
          · cases hv
        · cases hv
      · cases hv
  · cases h
theorem zs_iaload : z_Stp .iaload := by
  rintro ⟨p, l, e, R, s, m, args, below, meth, c, Q, D, n0, nst, kst, E, Amb⟩ mid lev len pc ls st n k G pc' ls' st' n' k' G' ⟨hx, hb, hr, hml, hown, hts, hin, hfr, hlo, hrk, hNw, hA⟩ hi h
  obtain ⟨hd, hlen⟩ := z_insd hi
  have hlen : len = 1 := of_decide_eq_true hlen
  subst hlen
  simp only [z_step] at h
  split at h
  · next i a r =>
    cases hv : z_ai E G a i with
    | none => simp only [z_Ex] at h; rw [hv] at h; cases h
    | some v =>
      simp only [z_Ex] at h
      rw [hv] at h
      obtain ⟨rfl, rfl, rfl, rfl, rfl, rfl⟩ := z_nx_in h
      refine ⟨Nat.le_refl _, Nat.le_refl _, fun _ kk => ?_⟩
      intro H locs lsA cells slots hl hR hq hc hs
      have kk := kk H locs lsA cells slots hl hR hq hc hs
      unfold z_ai at hv
      split at hv
      · next N f hG =>
        split at hv
        · cases hv
        · next ho =>
          cases hv
          obtain ⟨cA, hP, hK, -⟩ := hR.PA hG
          exact va_iald hx hb hK hP 0 0 rfl rfl (z_inb ho) hd kk
      · cases hv
      · split at hv
        · next hab =>
          split at hv
          · cases hv
          · next ho =>
            cases hv
            obtain ⟨scr, h1, h2, h3, h4, h5⟩ := hR.2.2.2.1
            have hvi := z_inb ho
            refine W.iald (cell := scr) (v := .int (E.2.2 i.toNatClampNeg)) hx hb (by rw [hab]; exact h1) h2 h3 (by rw [h4]; exact hvi) (h5 _ (Nat.not_le.mp fun q => hvi (Or.inr q))) rfl rfl hd kk
        · cases hv
  · cases h
theorem zs_laload : z_Stp .laload := by
  rintro ⟨p, l, e, R, s, m, args, below, meth, c, Q, D, n0, nst, kst, E, Amb⟩ mid lev len pc ls st n k G pc' ls' st' n' k' G' ⟨hx, hb, hr, hml, hown, hts, hin, hfr, hlo, hrk, hNw, hA⟩ hi h
  obtain ⟨hd, hlen⟩ := z_insd hi
  have hlen : len = 1 := of_decide_eq_true hlen
  subst hlen
  simp only [z_step] at h
  split at h
  · next i a r =>
    cases hv : z_al G a i with
    | none => rw [hv] at h; cases h
    | some v =>
      rw [hv] at h
      obtain ⟨rfl, rfl, rfl, rfl, rfl, rfl⟩ := z_nx_in h
      refine ⟨Nat.le_refl _, Nat.le_refl _, fun _ kk => ?_⟩
      intro H locs lsA cells slots hl hR hq hc hs
      have kk := kk H locs lsA cells slots hl hR hq hc hs
      unfold z_al at hv
      split at hv
      · next N f hG =>
        split at hv
        · cases hv
        · next ho =>
          cases hv
          obtain ⟨cA, hP, hK, -⟩ := hR.PA hG
          exact va_lald hx hb hK hP 0 0 rfl rfl (z_inb ho) hd kk
      · cases hv
  · cases h
theorem zs_aaload : z_Stp .aaload := by
  rintro ⟨p, l, e, R, s, m, args, below, meth, c, Q, D, n0, nst, kst, E, Amb⟩ mid lev len pc ls st n k G pc' ls' st' n' k' G' ⟨hx, hb, hr, hml, hown, hts, hin, hfr, hlo, hrk, hNw, hA⟩ hi h
  obtain ⟨hd, hlen⟩ := z_insd hi
  have hlen : len = 1 := of_decide_eq_true hlen
  subst hlen
  simp only [z_step] at h
  split at h
  · next i a r =>
    cases hv : z_aq G a i with
    | none => rw [hv] at h; cases h
    | some v =>
      rw [hv] at h
      obtain ⟨rfl, rfl, rfl, rfl, rfl, rfl⟩ := z_nx_in h
      refine ⟨Nat.le_refl _, Nat.le_refl _, fun _ kk => ?_⟩
      intro H locs lsA cells slots hl hR hq hc hs
      have kk := kk H locs lsA cells slots hl hR hq hc hs
      unfold z_aq at hv
      split at hv
      · next C N f hG =>
        split at hv
        · cases hv
        · next ho =>
          cases hv
          obtain ⟨cA, hP, hK, -⟩ := hR.PA hG
          exact va_aldq hx hb hK hP 0 0 rfl rfl (z_inb ho) hd kk
      · cases hv
  · cases h
theorem zs_arraylength : z_Stp .arraylength := by
  rintro ⟨p, l, e, R, s, m, args, below, meth, c, Q, D, n0, nst, kst, E, Amb⟩ mid lev len pc ls st n k G pc' ls' st' n' k' G' ⟨hx, hb, hr, hml, hown, hts, hin, hfr, hlo, hrk, hNw, hA⟩ hi h
  obtain ⟨hd, hlen⟩ := z_insd hi
  have hlen : len = 1 := of_decide_eq_true hlen
  subst hlen
  simp only [z_step] at h
  split at h
  · next a r =>
    cases hv : z_an E G a with
    | none => simp only [z_Ex] at h; rw [hv] at h; cases h
    | some v =>
      simp only [z_Ex] at h
      rw [hv] at h
      obtain ⟨rfl, rfl, rfl, rfl, rfl, rfl⟩ := z_nx_in h
      refine ⟨Nat.le_refl _, Nat.le_refl _, fun _ kk => ?_⟩
      intro H locs lsA cells slots hl hR hq hc hs
      have kk := kk H locs lsA cells slots hl hR hq hc hs
      unfold z_an at hv
      split at hv
      · next ty N f hG =>
        cases hv
        obtain ⟨cA, hP, hK, hcell⟩ := hR.PA hG
        exact va_alen hx hb hK hP 0 0 (x := (N, f)) rfl rfl rfl hd kk
      · cases hv
      · split at hv
        · next hab =>
          cases hv
          obtain ⟨scr, h1, h2, h3, h4, h5⟩ := hR.2.2.2.1
          exact W.alen (cell := scr) hx hb (by rw [hab]; exact h1) h2 (by rw [h4]; rfl) rfl rfl hd kk
        · cases hv
  · cases h
theorem zs_iastore : z_Stp .iastore := by
  rintro ⟨p, l, e, R, s, m, args, below, meth, c, Q, D, n0, nst, kst, E, Amb⟩ mid lev len pc ls st n k G pc' ls' st' n' k' G' ⟨hx, hb, hr, hml, hown, hts, hin, hfr, hlo, hrk, hNw, hA⟩ hi h
  obtain ⟨hd, hlen⟩ := z_insd hi
  have hlen : len = 1 := of_decide_eq_true hlen
  subst hlen
  simp only [z_step] at h
  split at h
  · next x i a r =>
    cases hv : z_pi G a i x with
    | none => rw [hv] at h; cases h
    | some G1 =>
      rw [hv] at h
      obtain ⟨rfl, rfl, rfl, rfl, rfl, rfl⟩ := z_nx_in h
      refine ⟨Nat.le_refl _, Nat.le_refl _, fun _ kk => ?_⟩
      intro H locs lsA cells slots hl hR hq hc hs
      unfold z_pi at hv
      split at hv
      · next N f hG =>
        split at hv
        · cases hv
        · next ho =>
          cases hv
          obtain ⟨cA, hP, hK, hcell⟩ := hR.PA hG
          have hvi := z_inb ho
          refine W.iast hx hb hcell ((hK.2 0 _ rfl).1 N (fun j => .int (f j))) (fun q => by cases q) (by show ¬ (i < 0 ∨ (arrV _ _ _).slots.size ≤ _); rw [arrV_size]; exact hvi) rfl rfl hd fun H1 e1 z oq => ?_
          refine kk H1 _ lsA cells slots hl (hR.set hA hG ⟨cA, ?_, (hK.2 0 _ rfl).1, (hK.2 0 _ rfl).2⟩ z oq) ?_ hc hs
          · show H1[a]? = some (vp_cell _ _)
            rw [e1]
            rw [vp_cell_i, vp_cell_i, arrV_store]
            congr 2
            funext q
            by_cases hq : q = i.toNatClampNeg
            · subst hq
              simp [updV, upd]
            · simp [updV, upd, hq]
          · intro q hq2
            rcases List.mem_append.mp hq2 with z | z
            · exact hq q z
            · rw [List.mem_singleton.mp z]; exact (hR.2.2.2.2.2.2 a _ hG).1
      · cases hv
  · cases h
theorem zs_lastore : z_Stp .lastore := by
  rintro ⟨p, l, e, R, s, m, args, below, meth, c, Q, D, n0, nst, kst, E, Amb⟩ mid lev len pc ls st n k G pc' ls' st' n' k' G' ⟨hx, hb, hr, hml, hown, hts, hin, hfr, hlo, hrk, hNw, hA⟩ hi h
  obtain ⟨hd, hlen⟩ := z_insd hi
  have hlen : len = 1 := of_decide_eq_true hlen
  subst hlen
  simp only [z_step] at h
  split at h
  · next x i a r =>
    cases hv : z_pl G a i x with
    | none => rw [hv] at h; cases h
    | some G1 =>
      rw [hv] at h
      obtain ⟨rfl, rfl, rfl, rfl, rfl, rfl⟩ := z_nx_in h
      refine ⟨Nat.le_refl _, Nat.le_refl _, fun _ kk => ?_⟩
      intro H locs lsA cells slots hl hR hq hc hs
      unfold z_pl at hv
      split at hv
      · next N f hG =>
        split at hv
        · cases hv
        · next ho =>
          cases hv
          obtain ⟨cA, hP, hK, hcell⟩ := hR.PA hG
          have hvi := z_inb ho
          refine W.last hx hb hcell ((hK.2 0 _ rfl).1 N (fun j => .long (f j))) (fun q => by cases q) (by show ¬ (i < 0 ∨ (arrV _ _ _).slots.size ≤ _); rw [arrV_size]; exact hvi) rfl rfl hd fun H1 e1 z oq => ?_
          refine kk H1 _ lsA cells slots hl (hR.set hA hG ⟨cA, ?_, (hK.2 0 _ rfl).1, (hK.2 0 _ rfl).2⟩ z oq) ?_ hc hs
          · show H1[a]? = some (vp_cell _ _)
            rw [e1]
            rw [vp_cell_l, vp_cell_l, arrV_store]
            congr 2
            funext q
            by_cases hq : q = i.toNatClampNeg
            · subst hq
              simp [updV, vp_updL]
            · simp [updV, vp_updL, hq]
          · intro q hq2
            rcases List.mem_append.mp hq2 with z | z
            · exact hq q z
            · rw [List.mem_singleton.mp z]; exact (hR.2.2.2.2.2.2 a _ hG).1
      · cases hv
  · cases h
theorem zs_aastore (hT : z_OKT) : z_Stp .aastore := by
  rintro ⟨p, l, e, R, s, m, args, below, meth, c, Q, D, n0, nst, kst, E, Amb⟩ mid lev len pc ls st n k G pc' ls' st' n' k' G' ⟨hx, hb, hr, hml, hown, hts, hin, hfr, hlo, hrk, hNw, hA⟩ hi h
  obtain ⟨hd, hlen⟩ := z_insd hi
  have hlen : len = 1 := of_decide_eq_true hlen
  subst hlen
  simp only [z_step] at h
  split at h
  · next v i a r =>
    cases hv : z_pq G a i v with
    | none => rw [hv] at h; cases h
    | some G1 =>
      rw [hv] at h
      obtain ⟨rfl, rfl, rfl, rfl, rfl, rfl⟩ := z_nx_in h
      refine ⟨Nat.le_refl _, Nat.le_refl _, fun _ kk => ?_⟩
      intro H locs lsA cells slots hl hR hq hc hs
      unfold z_pq at hv
      split at hv
      · next C N f hG =>
        split at hv
        · cases hv
        · next ho =>
          obtain ⟨cA, hP, hK, hcell⟩ := hR.PA hG
          have hvi := z_inb ho
          have hlt : i.toNatClampNeg < N := Nat.not_le.mp fun q => hvi (Or.inr q)
          have h0 : ¬ i < 0 := fun q => hvi (Or.inl q)
          split at hv
          · cases hv
            refine va_WaastN (C := C) hx hb hcell ((hK.2 0 _ rfl).1 N (fun j => va_rf (f j))) (fun q => by cases q) (by show ¬ (i < 0 ∨ (arrV _ _ _).slots.size ≤ _); rw [arrV_size]; exact hvi) rfl rfl hd fun H1 e1 z oq => ?_
            refine kk H1 _ lsA cells slots hl (hR.set hA hG ⟨cA, ?_, (hK.2 0 _ rfl).1, (hK.2 0 _ rfl).2⟩ z oq) ?_ hc hs
            · show H1[a]? = some (vp_cell _ _)
              rw [e1]
              rw [vp_cell_q, vp_cell_q, arrV_store]
              congr 2
              funext q
              by_cases hq : q = i.toNatClampNeg
              · subst hq
                simp [updV, va_up, va_rf]
              · simp [updV, va_up, hq]
            · intro q hq2
              rcases List.mem_append.mp hq2 with z | z
              · exact hq q z
              · rw [List.mem_singleton.mp z]; exact (hR.2.2.2.2.2.2 a _ hG).1
          · next b =>
            split at hv
            · next ci fs hb2 =>
              split at hv
              · next htk =>
                cases hv
                obtain ⟨C', T, N', g1, g2⟩ := hT C ci htk
                obtain ⟨r', hr', cellV, f1, f2, f3, -⟩ := (hR.2.2.2.2.2.2 b _ hb2).2
                have hcls := (hR.2.2.1.1 ci _ g1).2
                obtain ⟨kA, comp, k1, k2, k3, -⟩ := (hK.2 0 _ rfl).2
                obtain ⟨kE, hkE, -⟩ := Vm.findClass_spec k3
                obtain ⟨kC, hkC, -⟩ := hcls.2
                have hasg : s.vm.assignable (D.1 ci) comp = true := by
                  rcases g2 with rfl | hca
                  · have : comp = D.1 ci := Option.some.inj (k3.symm.trans hcls.1)
                    rw [this]
                    exact va_assign hcls
                  · obtain ⟨c0, t1, w1, w2, w3⟩ := Cond.castable_spec (va_Nw.use (A := args) rfl (hNw _ hca))
                    cases hcls.1.symm.trans w1
                    cases k3.symm.trans w2
                    exact w3
                refine W.aast hx hb hcell (fun q h => by cases h) (fun h => by cases h) k1 k2 rfl hkE ⟨h0, by show _ < (arrV _ _ _).slots.size; rw [arrV_size]; exact hlt⟩ f1 (fun q h => by rw [f3] at h; cases h) (by rw [f2]; exact hkC) (by rw [f2]; exact hasg) rfl rfl hd fun H1 e1 z oq => ?_
                refine kk H1 _ lsA cells slots hl (hR.set hA hG ⟨cA, ?_, (hK.2 0 _ rfl).1, (hK.2 0 _ rfl).2⟩ z oq) ?_ hc hs
                · show H1[a]? = some (vp_cell _ _)
                  rw [e1]
                  rw [vp_cell_q, vp_cell_q, arrV_store]
                  congr 2
                  funext q
                  by_cases hq : q = i.toNatClampNeg
                  · subst hq
                    simp [updV, va_up, va_rf]
                  · simp [updV, va_up, hq]
                · intro q hq2
                  rcases List.mem_append.mp hq2 with z | z
                  · exact hq q z
                  · rw [List.mem_singleton.mp z]; exact (hR.2.2.2.2.2.2 a _ hG).1
              · cases hv
            · cases hv
          · cases hv
      · cases hv
  · cases h
theorem zs_new (j : Nat) (hT : ∀ mid, z_OKN mid j) : z_Stp (.new j) := by
  rintro ⟨p, l, e, R, s, m, args, below, meth, c, Q, D, n0, nst, kst, E, Amb⟩ mid lev len pc ls st n k G pc' ls' st' n' k' G' ⟨hx, hb, hr, hml, hown, hts, hin, hfr, hlo, hrk, hNw, hA⟩ hi h
  obtain ⟨hd, hlen⟩ := z_insd hi
  have hlen : len = 3 := of_decide_eq_true hlen
  subst hlen
  simp only [z_step, z_knew] at h
  split at h
  · next ci N t he =>
    obtain ⟨rfl, rfl, rfl, rfl, rfl, rfl⟩ := z_nx_in h
    refine ⟨Nat.le_succ _, Nat.le_add_right _ _, fun hL kk => ?_⟩
    obtain ⟨hL1, hL2⟩ : n + 1 ≤ nst + R.cells ∧ k + N ≤ kst + R.slots := hL
    intro H locs lsA cells slots hl hR hq hc hs
    obtain ⟨C, T, ft, g1, ⟨g2, g3, g4⟩, g5, g6, g7, g8⟩ := (hT mid).1 ci N t he
    have hKn := hR.2.2.1.1 ci _ g1
    refine W.newcK hx hb hown (hts _ g5) (hts _ g6) (hts _ g7) rfl hd (by omega) (by omega) hKn.2.1 hR.1 fun H1 kC hkC e1 z1 o1 => ?_
    refine kk H1 locs lsA (cells + 1) (slots + N) hl (hR.push hA ⟨_, g1, (u_born ft hts g2 hKn hkC e1 g3).to g8⟩ z1 o1) hq (by omega) (by omega)
  · cases h
theorem z_K2 {D : va_G} {U : State} {cA : ClassId} {ty : FieldType} (h : z_OKI) : True := trivial
theorem zs_newarray (ty : ArrayType) (hT : z_OKI) : z_Stp (.newarray ty) := by
  rintro ⟨p, l, e, R, s, m, args, below, meth, c, Q, D, n0, nst, kst, E, Amb⟩ mid lev len pc ls st n k G pc' ls' st' n' k' G' ⟨hx, hb, hr, hml, hown, hts, hin, hfr, hlo, hrk, hNw, hA⟩ hi h
  obtain ⟨hd, hlen⟩ := z_insd hi
  have hlen : len = 2 := of_decide_eq_true hlen
  subst hlen
  simp only [z_step] at h
  split at h
  · next cn r =>
    split at h
    · cases h
    · next hcn =>
      have h1 : ¬ cn < 0 := fun z => hcn (Or.inl z)
      have h2 : cn.toNatClampNeg ≤ 4096 := Nat.not_lt.mp fun z => hcn (Or.inr z)
      split at h
      · obtain ⟨rfl, rfl, rfl, rfl, rfl, rfl⟩ := z_nx_in h
        refine ⟨Nat.le_succ _, Nat.le_add_right _ _, fun hL kk => ?_⟩
        obtain ⟨hL1, hL2⟩ : n + 1 ≤ nst + R.cells ∧ k + cn.toNatClampNeg ≤ kst + R.slots := hL
        intro H locs lsA cells slots hl hR hq hc hs
        refine va_newaK hx hb (atype := .int) (hts _ hT.1) rfl hd rfl h1 rfl (by show _ * 4 ≤ _; omega) (by omega) (by omega) hR.1 fun H1 cA e1 z1 o1 hAr hNm => ?_
        refine kk H1 locs lsA (cells + 1) (slots + cn.toNatClampNeg) hl (hR.push hA ⟨cA, e1, hAr, hNm⟩ z1 o1) hq (by omega) (by omega)
      · obtain ⟨rfl, rfl, rfl, rfl, rfl, rfl⟩ := z_nx_in h
        refine ⟨Nat.le_succ _, Nat.le_add_right _ _, fun hL kk => ?_⟩
        obtain ⟨hL1, hL2⟩ : n + 1 ≤ nst + R.cells ∧ k + cn.toNatClampNeg ≤ kst + R.slots := hL
        intro H locs lsA cells slots hl hR hq hc hs
        refine va_newaK hx hb (atype := .long) (hts _ hT.2) rfl hd rfl h1 rfl (by show _ * 8 ≤ _; omega) (by omega) (by omega) hR.1 fun H1 cA e1 z1 o1 hAr hNm => ?_
        refine kk H1 locs lsA (cells + 1) (slots + cn.toNatClampNeg) hl (hR.push hA ⟨cA, e1, hAr, hNm⟩ z1 o1) hq (by omega) (by omega)
      · cases h
  · cases h
theorem zs_anewarray (j : Nat) (hT : ∀ mid, z_OKN mid j) : z_Stp (.anewarray j) := by
  rintro ⟨p, l, e, R, s, m, args, below, meth, c, Q, D, n0, nst, kst, E, Amb⟩ mid lev len pc ls st n k G pc' ls' st' n' k' G' ⟨hx, hb, hr, hml, hown, hts, hin, hfr, hlo, hrk, hNw, hA⟩ hi h
  obtain ⟨hd, hlen⟩ := z_insd hi
  have hlen : len = 3 := of_decide_eq_true hlen
  subst hlen
  simp only [z_step, z_kan] at h
  split at h
  · next ci t he =>
   split at h
   · next cn r =>
    split at h
    · cases h
    · next hcn =>
      have h1 : ¬ cn < 0 := fun z => hcn (Or.inl z)
      have h2 : cn.toNatClampNeg ≤ 4096 := Nat.not_lt.mp fun z => hcn (Or.inr z)
      obtain ⟨rfl, rfl, rfl, rfl, rfl, rfl⟩ := z_nx_in h
      refine ⟨Nat.le_succ _, Nat.le_add_right _ _, fun hL kk => ?_⟩
      obtain ⟨hL1, hL2⟩ : n + 1 ≤ nst + R.cells ∧ k + cn.toNatClampNeg ≤ kst + R.slots := hL
      intro H locs lsA cells slots hl hR hq hc hs
      obtain ⟨g1, g2⟩ := (hT mid).2 ci t he
      refine W.anew hx hb hown (hts _ g1) (va_AO.use (hNw _ g2)) rfl hd rfl h1 (by omega) (by omega) (by omega) fun cA kA comp f1 f2 f3 f4 => ?_
      have hAr : ArrOfT s cA (.object (z_cnm ci)) := fun N z => ⟨(fun k h => by cases h), kA, f2, comp, f3⟩
      rw [hR.1]
      refine kk _ locs lsA (cells + 1) (slots + cn.toNatClampNeg) hl (hR.push hA ⟨cA, ?_, hAr, ⟨kA, comp, f2, f3, f4, f1⟩⟩ (by rw [Array.size_push, hR.1]) (fun q hq => by rw [Array.getElem?_push, if_neg (by rw [hR.1]; omega)])) hq (by omega) (by omega)
      rw [← hR.1, Array.getElem?_push_size, arrV_new]
      rfl
   · cases h
  · cases h
