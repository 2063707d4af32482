/-! ===== by program: the tables hold what the walk asks of them ===== -/
def z_owns : List String := ["BellThatIsADoor$Row", "BellThatIsADoor$Bell", "BellThatIsADoor$Door", "BellThatIsADoor$Hen", "BellThatIsADoor$Cough", "BellThatIsADoor$Maid", "BellThatIsADoor$Suited", "BellThatIsADoor$Echo", "BellThatIsADoor$Marble", "BellThatIsADoor$Marsh", "BellThatIsADoor$Errand", "BellThatIsADoor", "BellThatIsADoorModel", "java/lang/Integer", "BellThatIsADoorLaw"]
def z_own (oc : Nat) : String := (z_owns[oc]?).getD ""
theorem z_cls_own : ∀ m, m < 218 → (z_nm m).cls = z_own (z_oc m) := by decide +kernel
theorem z_oc_big {m : Nat} (h : 218 ≤ m) : z_oc m = 99 := by
  unfold z_oc
  rw [List.getElem?_eq_none (Nat.le_trans (by decide +kernel : z_ocs.length ≤ 218) h)]
  rfl
theorem z_lk_in {T : List (List (Nat × List Nat))} (hT : T.length ≤ 99) {m j a : Nat} {t : List Nat} (h : z_lk T m j = a :: t) : ∃ row, T[z_oc m]? = some row ∧ (j, a :: t) ∈ row ∧ (z_nm m).cls = z_own (z_oc m) := by
  unfold z_lk at h
  cases hr : T[z_oc m]? with
  | none => rw [hr] at h; simp at h
  | some row =>
    rw [hr] at h
    simp only [Option.getD_some] at h
    cases hf : row.find? (fun q => q.1 == j) with
    | none => rw [hf] at h; simp at h
    | some q =>
      rw [hf] at h
      have h1 := List.mem_of_find?_eq_some hf
      have h2 := List.find?_some hf
      simp only [beq_iff_eq] at h2
      obtain ⟨q1, q2⟩ := q
      simp only [Option.map_some, Option.getD_some] at h
      subst h
      subst h2
      refine ⟨row, rfl, h1, z_cls_own m ?_⟩
      rcases Nat.lt_or_ge m 218 with g | g
      · exact g
      · rw [z_oc_big g, List.getElem?_eq_none hT] at hr; cases hr
theorem z_wsIn {C : String} {T : u_T} {N : Nat} (ps : List Nat) (h : (List.range N).map (u_lay C T) = ps.filterMap (fun i => lw_tbl[i]?)) (hg : ((List.range N).map (u_lay C T)).all goodWord = true) : ∀ w ∈ u_ws C T N, w ∈ z_T := by
  intro w hw
  have hw : w ∈ (List.range N).map (u_lay C T) := hw
  have h1 := List.all_eq_true.mp hg w hw
  rw [h] at hw
  obtain ⟨i, -, hi⟩ := List.mem_filterMap.mp hw
  exact z_inT i hi h1
theorem z_cok0 : z_clsOK "BellThatIsADoor$Bell" z_F0 6 z_t0 := ⟨z_wsIn [322, 323, 324, 325, 326, 327] (by decide +kernel) (by decide +kernel), by decide +kernel, by decide +kernel⟩
theorem z_cok1 : z_clsOK "BellThatIsADoor$Hen" z_F1 6 z_t1 := ⟨z_wsIn [243, 244, 245, 246, 247, 248] (by decide +kernel) (by decide +kernel), by decide +kernel, by decide +kernel⟩
theorem z_cok2 : z_clsOK "BellThatIsADoor$Echo" z_F2 6 z_t2 := ⟨z_wsIn [300, 301, 302, 303, 304, 305] (by decide +kernel) (by decide +kernel), by decide +kernel, by decide +kernel⟩
theorem z_cok3 : z_clsOK "BellThatIsADoor$Door" z_F3 6 z_t3 := ⟨z_wsIn [222, 224, 226, 228, 230, 232] (by decide +kernel) (by decide +kernel), by decide +kernel, by decide +kernel⟩
theorem z_cok4 : z_clsOK "BellThatIsADoor$Maid" z_F4 6 z_t4 := ⟨z_wsIn [271, 272, 273, 274, 275, 276] (by decide +kernel) (by decide +kernel), by decide +kernel, by decide +kernel⟩
theorem z_cok5 : z_clsOK "BellThatIsADoor$Suited" z_F5 6 z_t5 := ⟨z_wsIn [284, 285, 286, 287, 288, 289] (by decide +kernel) (by decide +kernel), by decide +kernel, by decide +kernel⟩
theorem z_cok6 : z_clsOK "BellThatIsADoor$Cough" z_F6 6 z_t6 := ⟨z_wsIn [257, 258, 259, 260, 261, 262] (by decide +kernel) (by decide +kernel), by decide +kernel, by decide +kernel⟩
theorem z_cok7 : z_clsOK "BellThatIsADoor$Marble" z_F7 6 z_t7 := ⟨z_wsIn [313, 314, 315, 316, 317, 318] (by decide +kernel) (by decide +kernel), by decide +kernel, by decide +kernel⟩
theorem z_cok8 : z_clsOK "BellThatIsADoor$Marsh" z_F8 11 z_t8 := ⟨z_wsIn [95, 97, 99, 101, 103, 105, 107, 109, 111, 113, 115] (by decide +kernel) (by decide +kernel), by decide +kernel, by decide +kernel⟩
theorem z_cok9 : z_clsOK "BellThatIsADoor$Row" z_F9 2 z_t9 := ⟨z_wsIn [795, 797] (by decide +kernel) (by decide +kernel), by decide +kernel, by decide +kernel⟩
theorem z_cok10 : z_clsOK "BellThatIsADoor$Errand" z_F10 5 z_t10 := ⟨z_wsIn [134, 136, 138, 140, 142] (by decide +kernel) (by decide +kernel), by decide +kernel, by decide +kernel⟩
theorem z_cok11 : z_clsOK "BellThatIsADoor" z_F11 11 z_t11 := ⟨z_wsIn [340, 342, 344, 346, 348, 350, 352, 354, 356, 358, 360] (by decide +kernel) (by decide +kernel), by decide +kernel, by decide +kernel⟩
theorem z_cok12 : z_clsOK "BellThatIsADoorModel" z_F12 21 z_t12 := ⟨z_wsIn [998, 1000, 1002, 1004, 1006, 1008, 1010, 1012, 1014, 1016, 1018, 1020, 1022, 1024, 1026, 1028, 1030, 1032, 1034, 1036, 1038] (by decide +kernel) (by decide +kernel), by decide +kernel, by decide +kernel⟩
def z_OKFe (own : String) (j k lo hi ty fin : Nat) : Prop := ∃ ref name desc : String,
  (Jvm.Cond.fieldLink own j ref name desc ∈ z_T ∨ (fin ≠ 1 ∧ ∃ host, Jvm.Cond.fieldLinkNest own j ref name desc host ∈ z_N)) ∧
  ∀ ci, lo ≤ ci → ci ≤ hi → ∃ (C : String) (T : u_T) (N : Nat) (ft : Nat → FieldType), z_cl[ci]? = some (C, T, N) ∧ z_clsOK C T N ft ∧ k < N ∧ (T k).2.1 = name ∧ (T k).2.2.1 = desc ∧ ((T k).1 = ref ∨ Jvm.Cond.sameField ref (T k).1 name desc ∈ z_T) ∧ z_tyc ty (ft k) ∧
    (fin = 0 → (T k).2.2.2 = false) ∧ (fin = 1 → (T k).2.2.2 = true ∧ (T k).1 = own)
def z_qF (own : String) (q : Nat × List Nat) : Prop := ∀ k lo hi ty fin t, q.2 = k :: lo :: hi :: ty :: fin :: t → z_OKFe own q.1 k lo hi ty fin
theorem z_eF {own : String} {j k lo hi ty fin : Nat} (h : z_OKFe own j k lo hi ty fin) : z_qF own (j, [k, lo, hi, ty, fin]) := by
  intro k' lo' hi' ty' fin' t e
  simp only [List.cons.injEq] at e
  obtain ⟨rfl, rfl, rfl, rfl, rfl, -⟩ := e
  exact h
theorem z_f_0_9 : z_OKFe "BellThatIsADoor$Row" 9 0 9 9 0 1 := by
  refine ⟨"BellThatIsADoor$Row", "sort", "I", Or.inl (z_inT 791 (by decide +kernel) rfl), ?_⟩
  · intro ci h1 h2
    have hc : ci = 9 := by omega
    subst hc
    exact ⟨"BellThatIsADoor$Row", z_F9, 2, z_t9, rfl, z_cok9, by decide, rfl, rfl, Or.inl rfl, rfl, fun h => absurd h (by decide), fun _ => ⟨rfl, rfl⟩⟩
theorem z_f_0_21 : z_OKFe "BellThatIsADoor$Row" 21 1 9 9 3 1 := by
  refine ⟨"BellThatIsADoor$Row", "elements", "[I", Or.inl (z_inT 793 (by decide +kernel) rfl), ?_⟩
  · intro ci h1 h2
    have hc : ci = 9 := by omega
    subst hc
    exact ⟨"BellThatIsADoor$Row", z_F9, 2, z_t9, rfl, z_cok9, by decide, rfl, rfl, Or.inl rfl, ⟨_, rfl⟩, fun h => absurd h (by decide), fun _ => ⟨rfl, rfl⟩⟩
theorem z_rowF_0 : ∀ row, z_fT[0]? = some row → ∀ q ∈ row, z_qF (z_own 0) q := by
  intro row h
  cases h
  exact List.forall_mem_cons.mpr ⟨z_eF z_f_0_9, List.forall_mem_cons.mpr ⟨z_eF z_f_0_21, fun _ h => absurd h List.not_mem_nil⟩⟩
theorem z_f_1_9 : z_OKFe "BellThatIsADoor$Bell" 9 3 0 7 0 0 := by
  refine ⟨"BellThatIsADoor$Bell", "wants", "I", Or.inl (z_inT 182 (by decide +kernel) rfl), ?_⟩
  · intro ci h1 h2
    have hc : ci = 0 ∨ ci = 1 ∨ ci = 2 ∨ ci = 3 ∨ ci = 4 ∨ ci = 5 ∨ ci = 6 ∨ ci = 7 := by omega
    rcases hc with rfl | rfl | rfl | rfl | rfl | rfl | rfl | rfl
    · exact ⟨"BellThatIsADoor$Bell", z_F0, 6, z_t0, rfl, z_cok0, by decide, rfl, rfl, Or.inl rfl, rfl, fun _ => rfl, fun h => absurd h (by decide)⟩
    · exact ⟨"BellThatIsADoor$Hen", z_F1, 6, z_t1, rfl, z_cok1, by decide, rfl, rfl, Or.inl rfl, rfl, fun _ => rfl, fun h => absurd h (by decide)⟩
    · exact ⟨"BellThatIsADoor$Echo", z_F2, 6, z_t2, rfl, z_cok2, by decide, rfl, rfl, Or.inl rfl, rfl, fun _ => rfl, fun h => absurd h (by decide)⟩
    · exact ⟨"BellThatIsADoor$Door", z_F3, 6, z_t3, rfl, z_cok3, by decide, rfl, rfl, Or.inl rfl, rfl, fun _ => rfl, fun h => absurd h (by decide)⟩
    · exact ⟨"BellThatIsADoor$Maid", z_F4, 6, z_t4, rfl, z_cok4, by decide, rfl, rfl, Or.inl rfl, rfl, fun _ => rfl, fun h => absurd h (by decide)⟩
    · exact ⟨"BellThatIsADoor$Suited", z_F5, 6, z_t5, rfl, z_cok5, by decide, rfl, rfl, Or.inl rfl, rfl, fun _ => rfl, fun h => absurd h (by decide)⟩
    · exact ⟨"BellThatIsADoor$Cough", z_F6, 6, z_t6, rfl, z_cok6, by decide, rfl, rfl, Or.inl rfl, rfl, fun _ => rfl, fun h => absurd h (by decide)⟩
    · exact ⟨"BellThatIsADoor$Marble", z_F7, 6, z_t7, rfl, z_cok7, by decide, rfl, rfl, Or.inl rfl, rfl, fun _ => rfl, fun h => absurd h (by decide)⟩
theorem z_f_1_15 : z_OKFe "BellThatIsADoor$Bell" 15 5 0 7 0 0 := by
  refine ⟨"BellThatIsADoor$Bell", "price", "I", Or.inl (z_inT 206 (by decide +kernel) rfl), ?_⟩
  · intro ci h1 h2
    have hc : ci = 0 ∨ ci = 1 ∨ ci = 2 ∨ ci = 3 ∨ ci = 4 ∨ ci = 5 ∨ ci = 6 ∨ ci = 7 := by omega
    rcases hc with rfl | rfl | rfl | rfl | rfl | rfl | rfl | rfl
    · exact ⟨"BellThatIsADoor$Bell", z_F0, 6, z_t0, rfl, z_cok0, by decide, rfl, rfl, Or.inl rfl, rfl, fun _ => rfl, fun h => absurd h (by decide)⟩
    · exact ⟨"BellThatIsADoor$Hen", z_F1, 6, z_t1, rfl, z_cok1, by decide, rfl, rfl, Or.inl rfl, rfl, fun _ => rfl, fun h => absurd h (by decide)⟩
    · exact ⟨"BellThatIsADoor$Echo", z_F2, 6, z_t2, rfl, z_cok2, by decide, rfl, rfl, Or.inl rfl, rfl, fun _ => rfl, fun h => absurd h (by decide)⟩
    · exact ⟨"BellThatIsADoor$Door", z_F3, 6, z_t3, rfl, z_cok3, by decide, rfl, rfl, Or.inl rfl, rfl, fun _ => rfl, fun h => absurd h (by decide)⟩
    · exact ⟨"BellThatIsADoor$Maid", z_F4, 6, z_t4, rfl, z_cok4, by decide, rfl, rfl, Or.inl rfl, rfl, fun _ => rfl, fun h => absurd h (by decide)⟩
    · exact ⟨"BellThatIsADoor$Suited", z_F5, 6, z_t5, rfl, z_cok5, by decide, rfl, rfl, Or.inl rfl, rfl, fun _ => rfl, fun h => absurd h (by decide)⟩
    · exact ⟨"BellThatIsADoor$Cough", z_F6, 6, z_t6, rfl, z_cok6, by decide, rfl, rfl, Or.inl rfl, rfl, fun _ => rfl, fun h => absurd h (by decide)⟩
    · exact ⟨"BellThatIsADoor$Marble", z_F7, 6, z_t7, rfl, z_cok7, by decide, rfl, rfl, Or.inl rfl, rfl, fun _ => rfl, fun h => absurd h (by decide)⟩
theorem z_f_1_18 : z_OKFe "BellThatIsADoor$Bell" 18 0 0 7 0 1 := by
  refine ⟨"BellThatIsADoor$Bell", "kind", "I", Or.inl (z_inT 157 (by decide +kernel) rfl), ?_⟩
  · intro ci h1 h2
    have hc : ci = 0 ∨ ci = 1 ∨ ci = 2 ∨ ci = 3 ∨ ci = 4 ∨ ci = 5 ∨ ci = 6 ∨ ci = 7 := by omega
    rcases hc with rfl | rfl | rfl | rfl | rfl | rfl | rfl | rfl
    · exact ⟨"BellThatIsADoor$Bell", z_F0, 6, z_t0, rfl, z_cok0, by decide, rfl, rfl, Or.inl rfl, rfl, fun h => absurd h (by decide), fun _ => ⟨rfl, rfl⟩⟩
    · exact ⟨"BellThatIsADoor$Hen", z_F1, 6, z_t1, rfl, z_cok1, by decide, rfl, rfl, Or.inl rfl, rfl, fun h => absurd h (by decide), fun _ => ⟨rfl, rfl⟩⟩
    · exact ⟨"BellThatIsADoor$Echo", z_F2, 6, z_t2, rfl, z_cok2, by decide, rfl, rfl, Or.inl rfl, rfl, fun h => absurd h (by decide), fun _ => ⟨rfl, rfl⟩⟩
    · exact ⟨"BellThatIsADoor$Door", z_F3, 6, z_t3, rfl, z_cok3, by decide, rfl, rfl, Or.inl rfl, rfl, fun h => absurd h (by decide), fun _ => ⟨rfl, rfl⟩⟩
    · exact ⟨"BellThatIsADoor$Maid", z_F4, 6, z_t4, rfl, z_cok4, by decide, rfl, rfl, Or.inl rfl, rfl, fun h => absurd h (by decide), fun _ => ⟨rfl, rfl⟩⟩
    · exact ⟨"BellThatIsADoor$Suited", z_F5, 6, z_t5, rfl, z_cok5, by decide, rfl, rfl, Or.inl rfl, rfl, fun h => absurd h (by decide), fun _ => ⟨rfl, rfl⟩⟩
    · exact ⟨"BellThatIsADoor$Cough", z_F6, 6, z_t6, rfl, z_cok6, by decide, rfl, rfl, Or.inl rfl, rfl, fun h => absurd h (by decide), fun _ => ⟨rfl, rfl⟩⟩
    · exact ⟨"BellThatIsADoor$Marble", z_F7, 6, z_t7, rfl, z_cok7, by decide, rfl, rfl, Or.inl rfl, rfl, fun h => absurd h (by decide), fun _ => ⟨rfl, rfl⟩⟩
theorem z_f_1_21 : z_OKFe "BellThatIsADoor$Bell" 21 1 0 7 0 1 := by
  refine ⟨"BellThatIsADoor$Bell", "figure", "I", Or.inl (z_inT 159 (by decide +kernel) rfl), ?_⟩
  · intro ci h1 h2
    have hc : ci = 0 ∨ ci = 1 ∨ ci = 2 ∨ ci = 3 ∨ ci = 4 ∨ ci = 5 ∨ ci = 6 ∨ ci = 7 := by omega
    rcases hc with rfl | rfl | rfl | rfl | rfl | rfl | rfl | rfl
    · exact ⟨"BellThatIsADoor$Bell", z_F0, 6, z_t0, rfl, z_cok0, by decide, rfl, rfl, Or.inl rfl, rfl, fun h => absurd h (by decide), fun _ => ⟨rfl, rfl⟩⟩
    · exact ⟨"BellThatIsADoor$Hen", z_F1, 6, z_t1, rfl, z_cok1, by decide, rfl, rfl, Or.inl rfl, rfl, fun h => absurd h (by decide), fun _ => ⟨rfl, rfl⟩⟩
    · exact ⟨"BellThatIsADoor$Echo", z_F2, 6, z_t2, rfl, z_cok2, by decide, rfl, rfl, Or.inl rfl, rfl, fun h => absurd h (by decide), fun _ => ⟨rfl, rfl⟩⟩
    · exact ⟨"BellThatIsADoor$Door", z_F3, 6, z_t3, rfl, z_cok3, by decide, rfl, rfl, Or.inl rfl, rfl, fun h => absurd h (by decide), fun _ => ⟨rfl, rfl⟩⟩
    · exact ⟨"BellThatIsADoor$Maid", z_F4, 6, z_t4, rfl, z_cok4, by decide, rfl, rfl, Or.inl rfl, rfl, fun h => absurd h (by decide), fun _ => ⟨rfl, rfl⟩⟩
    · exact ⟨"BellThatIsADoor$Suited", z_F5, 6, z_t5, rfl, z_cok5, by decide, rfl, rfl, Or.inl rfl, rfl, fun h => absurd h (by decide), fun _ => ⟨rfl, rfl⟩⟩
    · exact ⟨"BellThatIsADoor$Cough", z_F6, 6, z_t6, rfl, z_cok6, by decide, rfl, rfl, Or.inl rfl, rfl, fun h => absurd h (by decide), fun _ => ⟨rfl, rfl⟩⟩
    · exact ⟨"BellThatIsADoor$Marble", z_F7, 6, z_t7, rfl, z_cok7, by decide, rfl, rfl, Or.inl rfl, rfl, fun h => absurd h (by decide), fun _ => ⟨rfl, rfl⟩⟩
theorem z_f_1_24 : z_OKFe "BellThatIsADoor$Bell" 24 2 0 7 0 0 := by
  refine ⟨"BellThatIsADoor$Bell", "hoursAtHome", "I", Or.inl (z_inT 180 (by decide +kernel) rfl), ?_⟩
  · intro ci h1 h2
    have hc : ci = 0 ∨ ci = 1 ∨ ci = 2 ∨ ci = 3 ∨ ci = 4 ∨ ci = 5 ∨ ci = 6 ∨ ci = 7 := by omega
    rcases hc with rfl | rfl | rfl | rfl | rfl | rfl | rfl | rfl
    · exact ⟨"BellThatIsADoor$Bell", z_F0, 6, z_t0, rfl, z_cok0, by decide, rfl, rfl, Or.inl rfl, rfl, fun _ => rfl, fun h => absurd h (by decide)⟩
    · exact ⟨"BellThatIsADoor$Hen", z_F1, 6, z_t1, rfl, z_cok1, by decide, rfl, rfl, Or.inl rfl, rfl, fun _ => rfl, fun h => absurd h (by decide)⟩
    · exact ⟨"BellThatIsADoor$Echo", z_F2, 6, z_t2, rfl, z_cok2, by decide, rfl, rfl, Or.inl rfl, rfl, fun _ => rfl, fun h => absurd h (by decide)⟩
    · exact ⟨"BellThatIsADoor$Door", z_F3, 6, z_t3, rfl, z_cok3, by decide, rfl, rfl, Or.inl rfl, rfl, fun _ => rfl, fun h => absurd h (by decide)⟩
    · exact ⟨"BellThatIsADoor$Maid", z_F4, 6, z_t4, rfl, z_cok4, by decide, rfl, rfl, Or.inl rfl, rfl, fun _ => rfl, fun h => absurd h (by decide)⟩
    · exact ⟨"BellThatIsADoor$Suited", z_F5, 6, z_t5, rfl, z_cok5, by decide, rfl, rfl, Or.inl rfl, rfl, fun _ => rfl, fun h => absurd h (by decide)⟩
    · exact ⟨"BellThatIsADoor$Cough", z_F6, 6, z_t6, rfl, z_cok6, by decide, rfl, rfl, Or.inl rfl, rfl, fun _ => rfl, fun h => absurd h (by decide)⟩
    · exact ⟨"BellThatIsADoor$Marble", z_F7, 6, z_t7, rfl, z_cok7, by decide, rfl, rfl, Or.inl rfl, rfl, fun _ => rfl, fun h => absurd h (by decide)⟩
theorem z_f_1_27 : z_OKFe "BellThatIsADoor$Bell" 27 4 0 7 0 0 := by
  refine ⟨"BellThatIsADoor$Bell", "steps", "I", Or.inl (z_inT 202 (by decide +kernel) rfl), ?_⟩
  · intro ci h1 h2
    have hc : ci = 0 ∨ ci = 1 ∨ ci = 2 ∨ ci = 3 ∨ ci = 4 ∨ ci = 5 ∨ ci = 6 ∨ ci = 7 := by omega
    rcases hc with rfl | rfl | rfl | rfl | rfl | rfl | rfl | rfl
    · exact ⟨"BellThatIsADoor$Bell", z_F0, 6, z_t0, rfl, z_cok0, by decide, rfl, rfl, Or.inl rfl, rfl, fun _ => rfl, fun h => absurd h (by decide)⟩
    · exact ⟨"BellThatIsADoor$Hen", z_F1, 6, z_t1, rfl, z_cok1, by decide, rfl, rfl, Or.inl rfl, rfl, fun _ => rfl, fun h => absurd h (by decide)⟩
    · exact ⟨"BellThatIsADoor$Echo", z_F2, 6, z_t2, rfl, z_cok2, by decide, rfl, rfl, Or.inl rfl, rfl, fun _ => rfl, fun h => absurd h (by decide)⟩
    · exact ⟨"BellThatIsADoor$Door", z_F3, 6, z_t3, rfl, z_cok3, by decide, rfl, rfl, Or.inl rfl, rfl, fun _ => rfl, fun h => absurd h (by decide)⟩
    · exact ⟨"BellThatIsADoor$Maid", z_F4, 6, z_t4, rfl, z_cok4, by decide, rfl, rfl, Or.inl rfl, rfl, fun _ => rfl, fun h => absurd h (by decide)⟩
    · exact ⟨"BellThatIsADoor$Suited", z_F5, 6, z_t5, rfl, z_cok5, by decide, rfl, rfl, Or.inl rfl, rfl, fun _ => rfl, fun h => absurd h (by decide)⟩
    · exact ⟨"BellThatIsADoor$Cough", z_F6, 6, z_t6, rfl, z_cok6, by decide, rfl, rfl, Or.inl rfl, rfl, fun _ => rfl, fun h => absurd h (by decide)⟩
    · exact ⟨"BellThatIsADoor$Marble", z_F7, 6, z_t7, rfl, z_cok7, by decide, rfl, rfl, Or.inl rfl, rfl, fun _ => rfl, fun h => absurd h (by decide)⟩
theorem z_rowF_1 : ∀ row, z_fT[1]? = some row → ∀ q ∈ row, z_qF (z_own 1) q := by
  intro row h
  cases h
  exact List.forall_mem_cons.mpr ⟨z_eF z_f_1_9, List.forall_mem_cons.mpr ⟨z_eF z_f_1_15, List.forall_mem_cons.mpr ⟨z_eF z_f_1_18, List.forall_mem_cons.mpr ⟨z_eF z_f_1_21, List.forall_mem_cons.mpr ⟨z_eF z_f_1_24, List.forall_mem_cons.mpr ⟨z_eF z_f_1_27, fun _ h => absurd h List.not_mem_nil⟩⟩⟩⟩⟩⟩
theorem z_f_2_9 : z_OKFe "BellThatIsADoor$Door" 9 2 3 7 0 0 := by
  refine ⟨"BellThatIsADoor$Door", "hoursAtHome", "I", Or.inl (z_inT 166 (by decide +kernel) rfl), ?_⟩
  · intro ci h1 h2
    have hc : ci = 3 ∨ ci = 4 ∨ ci = 5 ∨ ci = 6 ∨ ci = 7 := by omega
    rcases hc with rfl | rfl | rfl | rfl | rfl
    · exact ⟨"BellThatIsADoor$Door", z_F3, 6, z_t3, rfl, z_cok3, by decide, rfl, rfl, Or.inr (z_inT 167 (by decide +kernel) rfl), rfl, fun _ => rfl, fun h => absurd h (by decide)⟩
    · exact ⟨"BellThatIsADoor$Maid", z_F4, 6, z_t4, rfl, z_cok4, by decide, rfl, rfl, Or.inr (z_inT 167 (by decide +kernel) rfl), rfl, fun _ => rfl, fun h => absurd h (by decide)⟩
    · exact ⟨"BellThatIsADoor$Suited", z_F5, 6, z_t5, rfl, z_cok5, by decide, rfl, rfl, Or.inr (z_inT 167 (by decide +kernel) rfl), rfl, fun _ => rfl, fun h => absurd h (by decide)⟩
    · exact ⟨"BellThatIsADoor$Cough", z_F6, 6, z_t6, rfl, z_cok6, by decide, rfl, rfl, Or.inr (z_inT 167 (by decide +kernel) rfl), rfl, fun _ => rfl, fun h => absurd h (by decide)⟩
    · exact ⟨"BellThatIsADoor$Marble", z_F7, 6, z_t7, rfl, z_cok7, by decide, rfl, rfl, Or.inr (z_inT 167 (by decide +kernel) rfl), rfl, fun _ => rfl, fun h => absurd h (by decide)⟩
theorem z_f_2_15 : z_OKFe "BellThatIsADoor$Door" 15 3 3 7 0 0 := by
  refine ⟨"BellThatIsADoor$Door", "wants", "I", Or.inl (z_inT 185 (by decide +kernel) rfl), ?_⟩
  · intro ci h1 h2
    have hc : ci = 3 ∨ ci = 4 ∨ ci = 5 ∨ ci = 6 ∨ ci = 7 := by omega
    rcases hc with rfl | rfl | rfl | rfl | rfl
    · exact ⟨"BellThatIsADoor$Door", z_F3, 6, z_t3, rfl, z_cok3, by decide, rfl, rfl, Or.inr (z_inT 186 (by decide +kernel) rfl), rfl, fun _ => rfl, fun h => absurd h (by decide)⟩
    · exact ⟨"BellThatIsADoor$Maid", z_F4, 6, z_t4, rfl, z_cok4, by decide, rfl, rfl, Or.inr (z_inT 186 (by decide +kernel) rfl), rfl, fun _ => rfl, fun h => absurd h (by decide)⟩
    · exact ⟨"BellThatIsADoor$Suited", z_F5, 6, z_t5, rfl, z_cok5, by decide, rfl, rfl, Or.inr (z_inT 186 (by decide +kernel) rfl), rfl, fun _ => rfl, fun h => absurd h (by decide)⟩
    · exact ⟨"BellThatIsADoor$Cough", z_F6, 6, z_t6, rfl, z_cok6, by decide, rfl, rfl, Or.inr (z_inT 186 (by decide +kernel) rfl), rfl, fun _ => rfl, fun h => absurd h (by decide)⟩
    · exact ⟨"BellThatIsADoor$Marble", z_F7, 6, z_t7, rfl, z_cok7, by decide, rfl, rfl, Or.inr (z_inT 186 (by decide +kernel) rfl), rfl, fun _ => rfl, fun h => absurd h (by decide)⟩
theorem z_f_2_18 : z_OKFe "BellThatIsADoor$Door" 18 4 3 7 0 0 := by
  refine ⟨"BellThatIsADoor$Door", "steps", "I", Or.inl (z_inT 198 (by decide +kernel) rfl), ?_⟩
  · intro ci h1 h2
    have hc : ci = 3 ∨ ci = 4 ∨ ci = 5 ∨ ci = 6 ∨ ci = 7 := by omega
    rcases hc with rfl | rfl | rfl | rfl | rfl
    · exact ⟨"BellThatIsADoor$Door", z_F3, 6, z_t3, rfl, z_cok3, by decide, rfl, rfl, Or.inr (z_inT 199 (by decide +kernel) rfl), rfl, fun _ => rfl, fun h => absurd h (by decide)⟩
    · exact ⟨"BellThatIsADoor$Maid", z_F4, 6, z_t4, rfl, z_cok4, by decide, rfl, rfl, Or.inr (z_inT 199 (by decide +kernel) rfl), rfl, fun _ => rfl, fun h => absurd h (by decide)⟩
    · exact ⟨"BellThatIsADoor$Suited", z_F5, 6, z_t5, rfl, z_cok5, by decide, rfl, rfl, Or.inr (z_inT 199 (by decide +kernel) rfl), rfl, fun _ => rfl, fun h => absurd h (by decide)⟩
    · exact ⟨"BellThatIsADoor$Cough", z_F6, 6, z_t6, rfl, z_cok6, by decide, rfl, rfl, Or.inr (z_inT 199 (by decide +kernel) rfl), rfl, fun _ => rfl, fun h => absurd h (by decide)⟩
    · exact ⟨"BellThatIsADoor$Marble", z_F7, 6, z_t7, rfl, z_cok7, by decide, rfl, rfl, Or.inr (z_inT 199 (by decide +kernel) rfl), rfl, fun _ => rfl, fun h => absurd h (by decide)⟩
theorem z_f_2_21 : z_OKFe "BellThatIsADoor$Door" 21 5 3 7 0 0 := by
  refine ⟨"BellThatIsADoor$Door", "price", "I", Or.inl (z_inT 215 (by decide +kernel) rfl), ?_⟩
  · intro ci h1 h2
    have hc : ci = 3 ∨ ci = 4 ∨ ci = 5 ∨ ci = 6 ∨ ci = 7 := by omega
    rcases hc with rfl | rfl | rfl | rfl | rfl
    · exact ⟨"BellThatIsADoor$Door", z_F3, 6, z_t3, rfl, z_cok3, by decide, rfl, rfl, Or.inr (z_inT 216 (by decide +kernel) rfl), rfl, fun _ => rfl, fun h => absurd h (by decide)⟩
    · exact ⟨"BellThatIsADoor$Maid", z_F4, 6, z_t4, rfl, z_cok4, by decide, rfl, rfl, Or.inr (z_inT 216 (by decide +kernel) rfl), rfl, fun _ => rfl, fun h => absurd h (by decide)⟩
    · exact ⟨"BellThatIsADoor$Suited", z_F5, 6, z_t5, rfl, z_cok5, by decide, rfl, rfl, Or.inr (z_inT 216 (by decide +kernel) rfl), rfl, fun _ => rfl, fun h => absurd h (by decide)⟩
    · exact ⟨"BellThatIsADoor$Cough", z_F6, 6, z_t6, rfl, z_cok6, by decide, rfl, rfl, Or.inr (z_inT 216 (by decide +kernel) rfl), rfl, fun _ => rfl, fun h => absurd h (by decide)⟩
    · exact ⟨"BellThatIsADoor$Marble", z_F7, 6, z_t7, rfl, z_cok7, by decide, rfl, rfl, Or.inr (z_inT 216 (by decide +kernel) rfl), rfl, fun _ => rfl, fun h => absurd h (by decide)⟩
theorem z_f_2_24 : z_OKFe "BellThatIsADoor$Door" 24 1 3 7 0 2 := by
  refine ⟨"BellThatIsADoor$Door", "figure", "I", Or.inl (z_inT 160 (by decide +kernel) rfl), ?_⟩
  · intro ci h1 h2
    have hc : ci = 3 ∨ ci = 4 ∨ ci = 5 ∨ ci = 6 ∨ ci = 7 := by omega
    rcases hc with rfl | rfl | rfl | rfl | rfl
    · exact ⟨"BellThatIsADoor$Door", z_F3, 6, z_t3, rfl, z_cok3, by decide, rfl, rfl, Or.inr (z_inT 161 (by decide +kernel) rfl), rfl, fun h => absurd h (by decide), fun h => absurd h (by decide)⟩
    · exact ⟨"BellThatIsADoor$Maid", z_F4, 6, z_t4, rfl, z_cok4, by decide, rfl, rfl, Or.inr (z_inT 161 (by decide +kernel) rfl), rfl, fun h => absurd h (by decide), fun h => absurd h (by decide)⟩
    · exact ⟨"BellThatIsADoor$Suited", z_F5, 6, z_t5, rfl, z_cok5, by decide, rfl, rfl, Or.inr (z_inT 161 (by decide +kernel) rfl), rfl, fun h => absurd h (by decide), fun h => absurd h (by decide)⟩
    · exact ⟨"BellThatIsADoor$Cough", z_F6, 6, z_t6, rfl, z_cok6, by decide, rfl, rfl, Or.inr (z_inT 161 (by decide +kernel) rfl), rfl, fun h => absurd h (by decide), fun h => absurd h (by decide)⟩
    · exact ⟨"BellThatIsADoor$Marble", z_F7, 6, z_t7, rfl, z_cok7, by decide, rfl, rfl, Or.inr (z_inT 161 (by decide +kernel) rfl), rfl, fun h => absurd h (by decide), fun h => absurd h (by decide)⟩
theorem z_rowF_2 : ∀ row, z_fT[2]? = some row → ∀ q ∈ row, z_qF (z_own 2) q := by
  intro row h
  cases h
  exact List.forall_mem_cons.mpr ⟨z_eF z_f_2_9, List.forall_mem_cons.mpr ⟨z_eF z_f_2_15, List.forall_mem_cons.mpr ⟨z_eF z_f_2_18, List.forall_mem_cons.mpr ⟨z_eF z_f_2_21, List.forall_mem_cons.mpr ⟨z_eF z_f_2_24, fun _ h => absurd h List.not_mem_nil⟩⟩⟩⟩⟩
theorem z_f_3_10 : z_OKFe "BellThatIsADoor$Hen" 10 2 1 1 0 0 := by
  refine ⟨"BellThatIsADoor$Hen", "hoursAtHome", "I", Or.inl (z_inT 176 (by decide +kernel) rfl), ?_⟩
  · intro ci h1 h2
    have hc : ci = 1 := by omega
    subst hc
    exact ⟨"BellThatIsADoor$Hen", z_F1, 6, z_t1, rfl, z_cok1, by decide, rfl, rfl, Or.inr (z_inT 177 (by decide +kernel) rfl), rfl, fun _ => rfl, fun h => absurd h (by decide)⟩
theorem z_f_3_16 : z_OKFe "BellThatIsADoor$Hen" 16 4 1 1 0 0 := by
  refine ⟨"BellThatIsADoor$Hen", "steps", "I", Or.inl (z_inT 192 (by decide +kernel) rfl), ?_⟩
  · intro ci h1 h2
    have hc : ci = 1 := by omega
    subst hc
    exact ⟨"BellThatIsADoor$Hen", z_F1, 6, z_t1, rfl, z_cok1, by decide, rfl, rfl, Or.inr (z_inT 193 (by decide +kernel) rfl), rfl, fun _ => rfl, fun h => absurd h (by decide)⟩
theorem z_f_3_19 : z_OKFe "BellThatIsADoor$Hen" 19 5 1 1 0 0 := by
  refine ⟨"BellThatIsADoor$Hen", "price", "I", Or.inl (z_inT 209 (by decide +kernel) rfl), ?_⟩
  · intro ci h1 h2
    have hc : ci = 1 := by omega
    subst hc
    exact ⟨"BellThatIsADoor$Hen", z_F1, 6, z_t1, rfl, z_cok1, by decide, rfl, rfl, Or.inr (z_inT 210 (by decide +kernel) rfl), rfl, fun _ => rfl, fun h => absurd h (by decide)⟩
theorem z_rowF_3 : ∀ row, z_fT[3]? = some row → ∀ q ∈ row, z_qF (z_own 3) q := by
  intro row h
  cases h
  exact List.forall_mem_cons.mpr ⟨z_eF z_f_3_10, List.forall_mem_cons.mpr ⟨z_eF z_f_3_16, List.forall_mem_cons.mpr ⟨z_eF z_f_3_19, fun _ h => absurd h List.not_mem_nil⟩⟩⟩
theorem z_f_4_10 : z_OKFe "BellThatIsADoor$Cough" 10 2 6 7 0 0 := by
  refine ⟨"BellThatIsADoor$Cough", "hoursAtHome", "I", Or.inl (z_inT 178 (by decide +kernel) rfl), ?_⟩
  · intro ci h1 h2
    have hc : ci = 6 ∨ ci = 7 := by omega
    rcases hc with rfl | rfl
    · exact ⟨"BellThatIsADoor$Cough", z_F6, 6, z_t6, rfl, z_cok6, by decide, rfl, rfl, Or.inr (z_inT 179 (by decide +kernel) rfl), rfl, fun _ => rfl, fun h => absurd h (by decide)⟩
    · exact ⟨"BellThatIsADoor$Marble", z_F7, 6, z_t7, rfl, z_cok7, by decide, rfl, rfl, Or.inr (z_inT 179 (by decide +kernel) rfl), rfl, fun _ => rfl, fun h => absurd h (by decide)⟩
theorem z_f_4_16 : z_OKFe "BellThatIsADoor$Cough" 16 3 6 7 0 0 := by
  refine ⟨"BellThatIsADoor$Cough", "wants", "I", Or.inl (z_inT 187 (by decide +kernel) rfl), ?_⟩
  · intro ci h1 h2
    have hc : ci = 6 ∨ ci = 7 := by omega
    rcases hc with rfl | rfl
    · exact ⟨"BellThatIsADoor$Cough", z_F6, 6, z_t6, rfl, z_cok6, by decide, rfl, rfl, Or.inr (z_inT 188 (by decide +kernel) rfl), rfl, fun _ => rfl, fun h => absurd h (by decide)⟩
    · exact ⟨"BellThatIsADoor$Marble", z_F7, 6, z_t7, rfl, z_cok7, by decide, rfl, rfl, Or.inr (z_inT 188 (by decide +kernel) rfl), rfl, fun _ => rfl, fun h => absurd h (by decide)⟩
theorem z_f_4_19 : z_OKFe "BellThatIsADoor$Cough" 19 4 6 7 0 0 := by
  refine ⟨"BellThatIsADoor$Cough", "steps", "I", Or.inl (z_inT 200 (by decide +kernel) rfl), ?_⟩
  · intro ci h1 h2
    have hc : ci = 6 ∨ ci = 7 := by omega
    rcases hc with rfl | rfl
    · exact ⟨"BellThatIsADoor$Cough", z_F6, 6, z_t6, rfl, z_cok6, by decide, rfl, rfl, Or.inr (z_inT 201 (by decide +kernel) rfl), rfl, fun _ => rfl, fun h => absurd h (by decide)⟩
    · exact ⟨"BellThatIsADoor$Marble", z_F7, 6, z_t7, rfl, z_cok7, by decide, rfl, rfl, Or.inr (z_inT 201 (by decide +kernel) rfl), rfl, fun _ => rfl, fun h => absurd h (by decide)⟩
theorem z_f_4_22 : z_OKFe "BellThatIsADoor$Cough" 22 5 6 7 0 0 := by
  refine ⟨"BellThatIsADoor$Cough", "price", "I", Or.inl (z_inT 217 (by decide +kernel) rfl), ?_⟩
  · intro ci h1 h2
    have hc : ci = 6 ∨ ci = 7 := by omega
    rcases hc with rfl | rfl
    · exact ⟨"BellThatIsADoor$Cough", z_F6, 6, z_t6, rfl, z_cok6, by decide, rfl, rfl, Or.inr (z_inT 218 (by decide +kernel) rfl), rfl, fun _ => rfl, fun h => absurd h (by decide)⟩
    · exact ⟨"BellThatIsADoor$Marble", z_F7, 6, z_t7, rfl, z_cok7, by decide, rfl, rfl, Or.inr (z_inT 218 (by decide +kernel) rfl), rfl, fun _ => rfl, fun h => absurd h (by decide)⟩
theorem z_rowF_4 : ∀ row, z_fT[4]? = some row → ∀ q ∈ row, z_qF (z_own 4) q := by
  intro row h
  cases h
  exact List.forall_mem_cons.mpr ⟨z_eF z_f_4_10, List.forall_mem_cons.mpr ⟨z_eF z_f_4_16, List.forall_mem_cons.mpr ⟨z_eF z_f_4_19, List.forall_mem_cons.mpr ⟨z_eF z_f_4_22, fun _ h => absurd h List.not_mem_nil⟩⟩⟩⟩
theorem z_f_5_9 : z_OKFe "BellThatIsADoor$Maid" 9 2 4 5 0 0 := by
  refine ⟨"BellThatIsADoor$Maid", "hoursAtHome", "I", Or.inl (z_inT 168 (by decide +kernel) rfl), ?_⟩
  · intro ci h1 h2
    have hc : ci = 4 ∨ ci = 5 := by omega
    rcases hc with rfl | rfl
    · exact ⟨"BellThatIsADoor$Maid", z_F4, 6, z_t4, rfl, z_cok4, by decide, rfl, rfl, Or.inr (z_inT 169 (by decide +kernel) rfl), rfl, fun _ => rfl, fun h => absurd h (by decide)⟩
    · exact ⟨"BellThatIsADoor$Suited", z_F5, 6, z_t5, rfl, z_cok5, by decide, rfl, rfl, Or.inr (z_inT 169 (by decide +kernel) rfl), rfl, fun _ => rfl, fun h => absurd h (by decide)⟩
theorem z_f_5_16 : z_OKFe "BellThatIsADoor$Maid" 16 4 4 5 0 0 := by
  refine ⟨"BellThatIsADoor$Maid", "steps", "I", Or.inl (z_inT 194 (by decide +kernel) rfl), ?_⟩
  · intro ci h1 h2
    have hc : ci = 4 ∨ ci = 5 := by omega
    rcases hc with rfl | rfl
    · exact ⟨"BellThatIsADoor$Maid", z_F4, 6, z_t4, rfl, z_cok4, by decide, rfl, rfl, Or.inr (z_inT 195 (by decide +kernel) rfl), rfl, fun _ => rfl, fun h => absurd h (by decide)⟩
    · exact ⟨"BellThatIsADoor$Suited", z_F5, 6, z_t5, rfl, z_cok5, by decide, rfl, rfl, Or.inr (z_inT 195 (by decide +kernel) rfl), rfl, fun _ => rfl, fun h => absurd h (by decide)⟩
theorem z_f_5_19 : z_OKFe "BellThatIsADoor$Maid" 19 5 4 5 0 0 := by
  refine ⟨"BellThatIsADoor$Maid", "price", "I", Or.inl (z_inT 211 (by decide +kernel) rfl), ?_⟩
  · intro ci h1 h2
    have hc : ci = 4 ∨ ci = 5 := by omega
    rcases hc with rfl | rfl
    · exact ⟨"BellThatIsADoor$Maid", z_F4, 6, z_t4, rfl, z_cok4, by decide, rfl, rfl, Or.inr (z_inT 212 (by decide +kernel) rfl), rfl, fun _ => rfl, fun h => absurd h (by decide)⟩
    · exact ⟨"BellThatIsADoor$Suited", z_F5, 6, z_t5, rfl, z_cok5, by decide, rfl, rfl, Or.inr (z_inT 212 (by decide +kernel) rfl), rfl, fun _ => rfl, fun h => absurd h (by decide)⟩
theorem z_rowF_5 : ∀ row, z_fT[5]? = some row → ∀ q ∈ row, z_qF (z_own 5) q := by
  intro row h
  cases h
  exact List.forall_mem_cons.mpr ⟨z_eF z_f_5_9, List.forall_mem_cons.mpr ⟨z_eF z_f_5_16, List.forall_mem_cons.mpr ⟨z_eF z_f_5_19, fun _ h => absurd h List.not_mem_nil⟩⟩⟩
theorem z_f_6_7 : z_OKFe "BellThatIsADoor$Suited" 7 2 5 5 0 0 := by
  refine ⟨"BellThatIsADoor$Suited", "hoursAtHome", "I", Or.inl (z_inT 170 (by decide +kernel) rfl), ?_⟩
  · intro ci h1 h2
    have hc : ci = 5 := by omega
    subst hc
    exact ⟨"BellThatIsADoor$Suited", z_F5, 6, z_t5, rfl, z_cok5, by decide, rfl, rfl, Or.inr (z_inT 171 (by decide +kernel) rfl), rfl, fun _ => rfl, fun h => absurd h (by decide)⟩
theorem z_f_6_13 : z_OKFe "BellThatIsADoor$Suited" 13 5 5 5 0 0 := by
  refine ⟨"BellThatIsADoor$Suited", "price", "I", Or.inl (z_inT 207 (by decide +kernel) rfl), ?_⟩
  · intro ci h1 h2
    have hc : ci = 5 := by omega
    subst hc
    exact ⟨"BellThatIsADoor$Suited", z_F5, 6, z_t5, rfl, z_cok5, by decide, rfl, rfl, Or.inr (z_inT 208 (by decide +kernel) rfl), rfl, fun _ => rfl, fun h => absurd h (by decide)⟩
theorem z_rowF_6 : ∀ row, z_fT[6]? = some row → ∀ q ∈ row, z_qF (z_own 6) q := by
  intro row h
  cases h
  exact List.forall_mem_cons.mpr ⟨z_eF z_f_6_7, List.forall_mem_cons.mpr ⟨z_eF z_f_6_13, fun _ h => absurd h List.not_mem_nil⟩⟩
theorem z_f_7_9 : z_OKFe "BellThatIsADoor$Echo" 9 2 2 2 0 0 := by
  refine ⟨"BellThatIsADoor$Echo", "hoursAtHome", "I", Or.inl (z_inT 172 (by decide +kernel) rfl), ?_⟩
  · intro ci h1 h2
    have hc : ci = 2 := by omega
    subst hc
    exact ⟨"BellThatIsADoor$Echo", z_F2, 6, z_t2, rfl, z_cok2, by decide, rfl, rfl, Or.inr (z_inT 173 (by decide +kernel) rfl), rfl, fun _ => rfl, fun h => absurd h (by decide)⟩
theorem z_f_7_21 : z_OKFe "BellThatIsADoor$Echo" 21 3 2 2 0 0 := by
  refine ⟨"BellThatIsADoor$Echo", "wants", "I", Or.inl (z_inT 189 (by decide +kernel) rfl), ?_⟩
  · intro ci h1 h2
    have hc : ci = 2 := by omega
    subst hc
    exact ⟨"BellThatIsADoor$Echo", z_F2, 6, z_t2, rfl, z_cok2, by decide, rfl, rfl, Or.inr (z_inT 190 (by decide +kernel) rfl), rfl, fun _ => rfl, fun h => absurd h (by decide)⟩
theorem z_f_7_24 : z_OKFe "BellThatIsADoor$Echo" 24 4 2 2 0 0 := by
  refine ⟨"BellThatIsADoor$Echo", "steps", "I", Or.inl (z_inT 203 (by decide +kernel) rfl), ?_⟩
  · intro ci h1 h2
    have hc : ci = 2 := by omega
    subst hc
    exact ⟨"BellThatIsADoor$Echo", z_F2, 6, z_t2, rfl, z_cok2, by decide, rfl, rfl, Or.inr (z_inT 204 (by decide +kernel) rfl), rfl, fun _ => rfl, fun h => absurd h (by decide)⟩
theorem z_f_7_27 : z_OKFe "BellThatIsADoor$Echo" 27 5 2 2 0 0 := by
  refine ⟨"BellThatIsADoor$Echo", "price", "I", Or.inl (z_inT 219 (by decide +kernel) rfl), ?_⟩
  · intro ci h1 h2
    have hc : ci = 2 := by omega
    subst hc
    exact ⟨"BellThatIsADoor$Echo", z_F2, 6, z_t2, rfl, z_cok2, by decide, rfl, rfl, Or.inr (z_inT 220 (by decide +kernel) rfl), rfl, fun _ => rfl, fun h => absurd h (by decide)⟩
theorem z_rowF_7 : ∀ row, z_fT[7]? = some row → ∀ q ∈ row, z_qF (z_own 7) q := by
  intro row h
  cases h
  exact List.forall_mem_cons.mpr ⟨z_eF z_f_7_9, List.forall_mem_cons.mpr ⟨z_eF z_f_7_21, List.forall_mem_cons.mpr ⟨z_eF z_f_7_24, List.forall_mem_cons.mpr ⟨z_eF z_f_7_27, fun _ h => absurd h List.not_mem_nil⟩⟩⟩⟩
theorem z_f_8_9 : z_OKFe "BellThatIsADoor$Marble" 9 2 7 7 0 0 := by
  refine ⟨"BellThatIsADoor$Marble", "hoursAtHome", "I", Or.inl (z_inT 174 (by decide +kernel) rfl), ?_⟩
  · intro ci h1 h2
    have hc : ci = 7 := by omega
    subst hc
    exact ⟨"BellThatIsADoor$Marble", z_F7, 6, z_t7, rfl, z_cok7, by decide, rfl, rfl, Or.inr (z_inT 175 (by decide +kernel) rfl), rfl, fun _ => rfl, fun h => absurd h (by decide)⟩
theorem z_f_8_15 : z_OKFe "BellThatIsADoor$Marble" 15 3 7 7 0 0 := by
  refine ⟨"BellThatIsADoor$Marble", "wants", "I", Or.inl (z_inT 183 (by decide +kernel) rfl), ?_⟩
  · intro ci h1 h2
    have hc : ci = 7 := by omega
    subst hc
    exact ⟨"BellThatIsADoor$Marble", z_F7, 6, z_t7, rfl, z_cok7, by decide, rfl, rfl, Or.inr (z_inT 184 (by decide +kernel) rfl), rfl, fun _ => rfl, fun h => absurd h (by decide)⟩
theorem z_f_8_18 : z_OKFe "BellThatIsADoor$Marble" 18 4 7 7 0 0 := by
  refine ⟨"BellThatIsADoor$Marble", "steps", "I", Or.inl (z_inT 196 (by decide +kernel) rfl), ?_⟩
  · intro ci h1 h2
    have hc : ci = 7 := by omega
    subst hc
    exact ⟨"BellThatIsADoor$Marble", z_F7, 6, z_t7, rfl, z_cok7, by decide, rfl, rfl, Or.inr (z_inT 197 (by decide +kernel) rfl), rfl, fun _ => rfl, fun h => absurd h (by decide)⟩
theorem z_f_8_21 : z_OKFe "BellThatIsADoor$Marble" 21 5 7 7 0 0 := by
  refine ⟨"BellThatIsADoor$Marble", "price", "I", Or.inl (z_inT 213 (by decide +kernel) rfl), ?_⟩
  · intro ci h1 h2
    have hc : ci = 7 := by omega
    subst hc
    exact ⟨"BellThatIsADoor$Marble", z_F7, 6, z_t7, rfl, z_cok7, by decide, rfl, rfl, Or.inr (z_inT 214 (by decide +kernel) rfl), rfl, fun _ => rfl, fun h => absurd h (by decide)⟩
theorem z_f_8_24 : z_OKFe "BellThatIsADoor$Marble" 24 1 7 7 0 2 := by
  refine ⟨"BellThatIsADoor$Marble", "figure", "I", Or.inl (z_inT 162 (by decide +kernel) rfl), ?_⟩
  · intro ci h1 h2
    have hc : ci = 7 := by omega
    subst hc
    exact ⟨"BellThatIsADoor$Marble", z_F7, 6, z_t7, rfl, z_cok7, by decide, rfl, rfl, Or.inr (z_inT 163 (by decide +kernel) rfl), rfl, fun h => absurd h (by decide), fun h => absurd h (by decide)⟩
theorem z_rowF_8 : ∀ row, z_fT[8]? = some row → ∀ q ∈ row, z_qF (z_own 8) q := by
  intro row h
  cases h
  exact List.forall_mem_cons.mpr ⟨z_eF z_f_8_9, List.forall_mem_cons.mpr ⟨z_eF z_f_8_15, List.forall_mem_cons.mpr ⟨z_eF z_f_8_18, List.forall_mem_cons.mpr ⟨z_eF z_f_8_21, List.forall_mem_cons.mpr ⟨z_eF z_f_8_24, fun _ h => absurd h List.not_mem_nil⟩⟩⟩⟩⟩
theorem z_f_9_9 : z_OKFe "BellThatIsADoor$Marsh" 9 0 8 8 3 1 := by
  refine ⟨"BellThatIsADoor$Marsh", "kinds", "[I", Or.inl (z_inT 80 (by decide +kernel) rfl), ?_⟩
  · intro ci h1 h2
    have hc : ci = 8 := by omega
    subst hc
    exact ⟨"BellThatIsADoor$Marsh", z_F8, 11, z_t8, rfl, z_cok8, by decide, rfl, rfl, Or.inl rfl, ⟨_, rfl⟩, fun h => absurd h (by decide), fun _ => ⟨rfl, rfl⟩⟩
theorem z_f_9_15 : z_OKFe "BellThatIsADoor$Marsh" 15 1 8 8 3 1 := by
  refine ⟨"BellThatIsADoor$Marsh", "figures", "[I", Or.inl (z_inT 81 (by decide +kernel) rfl), ?_⟩
  · intro ci h1 h2
    have hc : ci = 8 := by omega
    subst hc
    exact ⟨"BellThatIsADoor$Marsh", z_F8, 11, z_t8, rfl, z_cok8, by decide, rfl, rfl, Or.inl rfl, ⟨_, rfl⟩, fun h => absurd h (by decide), fun _ => ⟨rfl, rfl⟩⟩
theorem z_f_9_18 : z_OKFe "BellThatIsADoor$Marsh" 18 2 8 8 3 1 := by
  refine ⟨"BellThatIsADoor$Marsh", "places", "[I", Or.inl (z_inT 82 (by decide +kernel) rfl), ?_⟩
  · intro ci h1 h2
    have hc : ci = 8 := by omega
    subst hc
    exact ⟨"BellThatIsADoor$Marsh", z_F8, 11, z_t8, rfl, z_cok8, by decide, rfl, rfl, Or.inl rfl, ⟨_, rfl⟩, fun h => absurd h (by decide), fun _ => ⟨rfl, rfl⟩⟩
theorem z_f_9_21 : z_OKFe "BellThatIsADoor$Marsh" 21 3 8 8 3 1 := by
  refine ⟨"BellThatIsADoor$Marsh", "rung", "[I", Or.inl (z_inT 83 (by decide +kernel) rfl), ?_⟩
  · intro ci h1 h2
    have hc : ci = 8 := by omega
    subst hc
    exact ⟨"BellThatIsADoor$Marsh", z_F8, 11, z_t8, rfl, z_cok8, by decide, rfl, rfl, Or.inl rfl, ⟨_, rfl⟩, fun h => absurd h (by decide), fun _ => ⟨rfl, rfl⟩⟩
theorem z_f_9_24 : z_OKFe "BellThatIsADoor$Marsh" 24 4 8 8 3 1 := by
  refine ⟨"BellThatIsADoor$Marsh", "opened", "[I", Or.inl (z_inT 84 (by decide +kernel) rfl), ?_⟩
  · intro ci h1 h2
    have hc : ci = 8 := by omega
    subst hc
    exact ⟨"BellThatIsADoor$Marsh", z_F8, 11, z_t8, rfl, z_cok8, by decide, rfl, rfl, Or.inl rfl, ⟨_, rfl⟩, fun h => absurd h (by decide), fun _ => ⟨rfl, rfl⟩⟩
theorem z_f_9_27 : z_OKFe "BellThatIsADoor$Marsh" 27 5 8 8 3 1 := by
  refine ⟨"BellThatIsADoor$Marsh", "hoursAtHome", "[I", Or.inl (z_inT 85 (by decide +kernel) rfl), ?_⟩
  · intro ci h1 h2
    have hc : ci = 8 := by omega
    subst hc
    exact ⟨"BellThatIsADoor$Marsh", z_F8, 11, z_t8, rfl, z_cok8, by decide, rfl, rfl, Or.inl rfl, ⟨_, rfl⟩, fun h => absurd h (by decide), fun _ => ⟨rfl, rfl⟩⟩
theorem z_f_9_30 : z_OKFe "BellThatIsADoor$Marsh" 30 6 8 8 3 1 := by
  refine ⟨"BellThatIsADoor$Marsh", "wants", "[I", Or.inl (z_inT 86 (by decide +kernel) rfl), ?_⟩
  · intro ci h1 h2
    have hc : ci = 8 := by omega
    subst hc
    exact ⟨"BellThatIsADoor$Marsh", z_F8, 11, z_t8, rfl, z_cok8, by decide, rfl, rfl, Or.inl rfl, ⟨_, rfl⟩, fun h => absurd h (by decide), fun _ => ⟨rfl, rfl⟩⟩
theorem z_f_9_33 : z_OKFe "BellThatIsADoor$Marsh" 33 7 8 8 3 1 := by
  refine ⟨"BellThatIsADoor$Marsh", "steps", "[I", Or.inl (z_inT 87 (by decide +kernel) rfl), ?_⟩
  · intro ci h1 h2
    have hc : ci = 8 := by omega
    subst hc
    exact ⟨"BellThatIsADoor$Marsh", z_F8, 11, z_t8, rfl, z_cok8, by decide, rfl, rfl, Or.inl rfl, ⟨_, rfl⟩, fun h => absurd h (by decide), fun _ => ⟨rfl, rfl⟩⟩
theorem z_f_9_36 : z_OKFe "BellThatIsADoor$Marsh" 36 9 8 8 0 0 := by
  refine ⟨"BellThatIsADoor$Marsh", "hour", "I", Or.inl (z_inT 90 (by decide +kernel) rfl), ?_⟩
  · intro ci h1 h2
    have hc : ci = 8 := by omega
    subst hc
    exact ⟨"BellThatIsADoor$Marsh", z_F8, 11, z_t8, rfl, z_cok8, by decide, rfl, rfl, Or.inl rfl, rfl, fun _ => rfl, fun h => absurd h (by decide)⟩
theorem z_f_9_40 : z_OKFe "BellThatIsADoor$Marsh" 40 8 8 8 0 0 := by
  refine ⟨"BellThatIsADoor$Marsh", "size", "I", Or.inl (z_inT 88 (by decide +kernel) rfl), ?_⟩
  · intro ci h1 h2
    have hc : ci = 8 := by omega
    subst hc
    exact ⟨"BellThatIsADoor$Marsh", z_F8, 11, z_t8, rfl, z_cok8, by decide, rfl, rfl, Or.inl rfl, rfl, fun _ => rfl, fun h => absurd h (by decide)⟩
theorem z_f_9_43 : z_OKFe "BellThatIsADoor$Marsh" 43 10 8 8 0 0 := by
  refine ⟨"BellThatIsADoor$Marsh", "day", "I", Or.inl (z_inT 93 (by decide +kernel) rfl), ?_⟩
  · intro ci h1 h2
    have hc : ci = 8 := by omega
    subst hc
    exact ⟨"BellThatIsADoor$Marsh", z_F8, 11, z_t8, rfl, z_cok8, by decide, rfl, rfl, Or.inl rfl, rfl, fun _ => rfl, fun h => absurd h (by decide)⟩
theorem z_f_9_50 : z_OKFe "BellThatIsADoor$Marsh" 50 0 0 7 0 2 := by
  refine ⟨"BellThatIsADoor$Bell", "kind", "I", Or.inl (z_inT 158 (by decide +kernel) rfl), ?_⟩
  · intro ci h1 h2
    have hc : ci = 0 ∨ ci = 1 ∨ ci = 2 ∨ ci = 3 ∨ ci = 4 ∨ ci = 5 ∨ ci = 6 ∨ ci = 7 := by omega
    rcases hc with rfl | rfl | rfl | rfl | rfl | rfl | rfl | rfl
    · exact ⟨"BellThatIsADoor$Bell", z_F0, 6, z_t0, rfl, z_cok0, by decide, rfl, rfl, Or.inl rfl, rfl, fun h => absurd h (by decide), fun h => absurd h (by decide)⟩
    · exact ⟨"BellThatIsADoor$Hen", z_F1, 6, z_t1, rfl, z_cok1, by decide, rfl, rfl, Or.inl rfl, rfl, fun h => absurd h (by decide), fun h => absurd h (by decide)⟩
    · exact ⟨"BellThatIsADoor$Echo", z_F2, 6, z_t2, rfl, z_cok2, by decide, rfl, rfl, Or.inl rfl, rfl, fun h => absurd h (by decide), fun h => absurd h (by decide)⟩
    · exact ⟨"BellThatIsADoor$Door", z_F3, 6, z_t3, rfl, z_cok3, by decide, rfl, rfl, Or.inl rfl, rfl, fun h => absurd h (by decide), fun h => absurd h (by decide)⟩
    · exact ⟨"BellThatIsADoor$Maid", z_F4, 6, z_t4, rfl, z_cok4, by decide, rfl, rfl, Or.inl rfl, rfl, fun h => absurd h (by decide), fun h => absurd h (by decide)⟩
    · exact ⟨"BellThatIsADoor$Suited", z_F5, 6, z_t5, rfl, z_cok5, by decide, rfl, rfl, Or.inl rfl, rfl, fun h => absurd h (by decide), fun h => absurd h (by decide)⟩
    · exact ⟨"BellThatIsADoor$Cough", z_F6, 6, z_t6, rfl, z_cok6, by decide, rfl, rfl, Or.inl rfl, rfl, fun h => absurd h (by decide), fun h => absurd h (by decide)⟩
    · exact ⟨"BellThatIsADoor$Marble", z_F7, 6, z_t7, rfl, z_cok7, by decide, rfl, rfl, Or.inl rfl, rfl, fun h => absurd h (by decide), fun h => absurd h (by decide)⟩
theorem z_f_9_55 : z_OKFe "BellThatIsADoor$Marsh" 55 1 0 7 0 2 := by
  refine ⟨"BellThatIsADoor$Bell", "figure", "I", Or.inl (z_inT 164 (by decide +kernel) rfl), ?_⟩
  · intro ci h1 h2
    have hc : ci = 0 ∨ ci = 1 ∨ ci = 2 ∨ ci = 3 ∨ ci = 4 ∨ ci = 5 ∨ ci = 6 ∨ ci = 7 := by omega
    rcases hc with rfl | rfl | rfl | rfl | rfl | rfl | rfl | rfl
    · exact ⟨"BellThatIsADoor$Bell", z_F0, 6, z_t0, rfl, z_cok0, by decide, rfl, rfl, Or.inl rfl, rfl, fun h => absurd h (by decide), fun h => absurd h (by decide)⟩
    · exact ⟨"BellThatIsADoor$Hen", z_F1, 6, z_t1, rfl, z_cok1, by decide, rfl, rfl, Or.inl rfl, rfl, fun h => absurd h (by decide), fun h => absurd h (by decide)⟩
    · exact ⟨"BellThatIsADoor$Echo", z_F2, 6, z_t2, rfl, z_cok2, by decide, rfl, rfl, Or.inl rfl, rfl, fun h => absurd h (by decide), fun h => absurd h (by decide)⟩
    · exact ⟨"BellThatIsADoor$Door", z_F3, 6, z_t3, rfl, z_cok3, by decide, rfl, rfl, Or.inl rfl, rfl, fun h => absurd h (by decide), fun h => absurd h (by decide)⟩
    · exact ⟨"BellThatIsADoor$Maid", z_F4, 6, z_t4, rfl, z_cok4, by decide, rfl, rfl, Or.inl rfl, rfl, fun h => absurd h (by decide), fun h => absurd h (by decide)⟩
    · exact ⟨"BellThatIsADoor$Suited", z_F5, 6, z_t5, rfl, z_cok5, by decide, rfl, rfl, Or.inl rfl, rfl, fun h => absurd h (by decide), fun h => absurd h (by decide)⟩
    · exact ⟨"BellThatIsADoor$Cough", z_F6, 6, z_t6, rfl, z_cok6, by decide, rfl, rfl, Or.inl rfl, rfl, fun h => absurd h (by decide), fun h => absurd h (by decide)⟩
    · exact ⟨"BellThatIsADoor$Marble", z_F7, 6, z_t7, rfl, z_cok7, by decide, rfl, rfl, Or.inl rfl, rfl, fun h => absurd h (by decide), fun h => absurd h (by decide)⟩
theorem z_f_9_58 : z_OKFe "BellThatIsADoor$Marsh" 58 2 0 7 0 0 := by
  refine ⟨"BellThatIsADoor$Bell", "hoursAtHome", "I", Or.inl (z_inT 181 (by decide +kernel) rfl), ?_⟩
  · intro ci h1 h2
    have hc : ci = 0 ∨ ci = 1 ∨ ci = 2 ∨ ci = 3 ∨ ci = 4 ∨ ci = 5 ∨ ci = 6 ∨ ci = 7 := by omega
    rcases hc with rfl | rfl | rfl | rfl | rfl | rfl | rfl | rfl
    · exact ⟨"BellThatIsADoor$Bell", z_F0, 6, z_t0, rfl, z_cok0, by decide, rfl, rfl, Or.inl rfl, rfl, fun _ => rfl, fun h => absurd h (by decide)⟩
    · exact ⟨"BellThatIsADoor$Hen", z_F1, 6, z_t1, rfl, z_cok1, by decide, rfl, rfl, Or.inl rfl, rfl, fun _ => rfl, fun h => absurd h (by decide)⟩
    · exact ⟨"BellThatIsADoor$Echo", z_F2, 6, z_t2, rfl, z_cok2, by decide, rfl, rfl, Or.inl rfl, rfl, fun _ => rfl, fun h => absurd h (by decide)⟩
    · exact ⟨"BellThatIsADoor$Door", z_F3, 6, z_t3, rfl, z_cok3, by decide, rfl, rfl, Or.inl rfl, rfl, fun _ => rfl, fun h => absurd h (by decide)⟩
    · exact ⟨"BellThatIsADoor$Maid", z_F4, 6, z_t4, rfl, z_cok4, by decide, rfl, rfl, Or.inl rfl, rfl, fun _ => rfl, fun h => absurd h (by decide)⟩
    · exact ⟨"BellThatIsADoor$Suited", z_F5, 6, z_t5, rfl, z_cok5, by decide, rfl, rfl, Or.inl rfl, rfl, fun _ => rfl, fun h => absurd h (by decide)⟩
    · exact ⟨"BellThatIsADoor$Cough", z_F6, 6, z_t6, rfl, z_cok6, by decide, rfl, rfl, Or.inl rfl, rfl, fun _ => rfl, fun h => absurd h (by decide)⟩
    · exact ⟨"BellThatIsADoor$Marble", z_F7, 6, z_t7, rfl, z_cok7, by decide, rfl, rfl, Or.inl rfl, rfl, fun _ => rfl, fun h => absurd h (by decide)⟩
theorem z_f_9_60 : z_OKFe "BellThatIsADoor$Marsh" 60 3 0 7 0 0 := by
  refine ⟨"BellThatIsADoor$Bell", "wants", "I", Or.inl (z_inT 191 (by decide +kernel) rfl), ?_⟩
  · intro ci h1 h2
    have hc : ci = 0 ∨ ci = 1 ∨ ci = 2 ∨ ci = 3 ∨ ci = 4 ∨ ci = 5 ∨ ci = 6 ∨ ci = 7 := by omega
    rcases hc with rfl | rfl | rfl | rfl | rfl | rfl | rfl | rfl
    · exact ⟨"BellThatIsADoor$Bell", z_F0, 6, z_t0, rfl, z_cok0, by decide, rfl, rfl, Or.inl rfl, rfl, fun _ => rfl, fun h => absurd h (by decide)⟩
    · exact ⟨"BellThatIsADoor$Hen", z_F1, 6, z_t1, rfl, z_cok1, by decide, rfl, rfl, Or.inl rfl, rfl, fun _ => rfl, fun h => absurd h (by decide)⟩
    · exact ⟨"BellThatIsADoor$Echo", z_F2, 6, z_t2, rfl, z_cok2, by decide, rfl, rfl, Or.inl rfl, rfl, fun _ => rfl, fun h => absurd h (by decide)⟩
    · exact ⟨"BellThatIsADoor$Door", z_F3, 6, z_t3, rfl, z_cok3, by decide, rfl, rfl, Or.inl rfl, rfl, fun _ => rfl, fun h => absurd h (by decide)⟩
    · exact ⟨"BellThatIsADoor$Maid", z_F4, 6, z_t4, rfl, z_cok4, by decide, rfl, rfl, Or.inl rfl, rfl, fun _ => rfl, fun h => absurd h (by decide)⟩
    · exact ⟨"BellThatIsADoor$Suited", z_F5, 6, z_t5, rfl, z_cok5, by decide, rfl, rfl, Or.inl rfl, rfl, fun _ => rfl, fun h => absurd h (by decide)⟩
    · exact ⟨"BellThatIsADoor$Cough", z_F6, 6, z_t6, rfl, z_cok6, by decide, rfl, rfl, Or.inl rfl, rfl, fun _ => rfl, fun h => absurd h (by decide)⟩
    · exact ⟨"BellThatIsADoor$Marble", z_F7, 6, z_t7, rfl, z_cok7, by decide, rfl, rfl, Or.inl rfl, rfl, fun _ => rfl, fun h => absurd h (by decide)⟩
theorem z_f_9_62 : z_OKFe "BellThatIsADoor$Marsh" 62 4 0 7 0 0 := by
  refine ⟨"BellThatIsADoor$Bell", "steps", "I", Or.inl (z_inT 205 (by decide +kernel) rfl), ?_⟩
  · intro ci h1 h2
    have hc : ci = 0 ∨ ci = 1 ∨ ci = 2 ∨ ci = 3 ∨ ci = 4 ∨ ci = 5 ∨ ci = 6 ∨ ci = 7 := by omega
    rcases hc with rfl | rfl | rfl | rfl | rfl | rfl | rfl | rfl
    · exact ⟨"BellThatIsADoor$Bell", z_F0, 6, z_t0, rfl, z_cok0, by decide, rfl, rfl, Or.inl rfl, rfl, fun _ => rfl, fun h => absurd h (by decide)⟩
    · exact ⟨"BellThatIsADoor$Hen", z_F1, 6, z_t1, rfl, z_cok1, by decide, rfl, rfl, Or.inl rfl, rfl, fun _ => rfl, fun h => absurd h (by decide)⟩
    · exact ⟨"BellThatIsADoor$Echo", z_F2, 6, z_t2, rfl, z_cok2, by decide, rfl, rfl, Or.inl rfl, rfl, fun _ => rfl, fun h => absurd h (by decide)⟩
    · exact ⟨"BellThatIsADoor$Door", z_F3, 6, z_t3, rfl, z_cok3, by decide, rfl, rfl, Or.inl rfl, rfl, fun _ => rfl, fun h => absurd h (by decide)⟩
    · exact ⟨"BellThatIsADoor$Maid", z_F4, 6, z_t4, rfl, z_cok4, by decide, rfl, rfl, Or.inl rfl, rfl, fun _ => rfl, fun h => absurd h (by decide)⟩
    · exact ⟨"BellThatIsADoor$Suited", z_F5, 6, z_t5, rfl, z_cok5, by decide, rfl, rfl, Or.inl rfl, rfl, fun _ => rfl, fun h => absurd h (by decide)⟩
    · exact ⟨"BellThatIsADoor$Cough", z_F6, 6, z_t6, rfl, z_cok6, by decide, rfl, rfl, Or.inl rfl, rfl, fun _ => rfl, fun h => absurd h (by decide)⟩
    · exact ⟨"BellThatIsADoor$Marble", z_F7, 6, z_t7, rfl, z_cok7, by decide, rfl, rfl, Or.inl rfl, rfl, fun _ => rfl, fun h => absurd h (by decide)⟩
theorem z_rowF_9 : ∀ row, z_fT[9]? = some row → ∀ q ∈ row, z_qF (z_own 9) q := by
  intro row h
  cases h
  exact List.forall_mem_cons.mpr ⟨z_eF z_f_9_9, List.forall_mem_cons.mpr ⟨z_eF z_f_9_15, List.forall_mem_cons.mpr ⟨z_eF z_f_9_18, List.forall_mem_cons.mpr ⟨z_eF z_f_9_21, List.forall_mem_cons.mpr ⟨z_eF z_f_9_24, List.forall_mem_cons.mpr ⟨z_eF z_f_9_27, List.forall_mem_cons.mpr ⟨z_eF z_f_9_30, List.forall_mem_cons.mpr ⟨z_eF z_f_9_33, List.forall_mem_cons.mpr ⟨z_eF z_f_9_36, List.forall_mem_cons.mpr ⟨z_eF z_f_9_40, List.forall_mem_cons.mpr ⟨z_eF z_f_9_43, List.forall_mem_cons.mpr ⟨z_eF z_f_9_50, List.forall_mem_cons.mpr ⟨z_eF z_f_9_55, List.forall_mem_cons.mpr ⟨z_eF z_f_9_58, List.forall_mem_cons.mpr ⟨z_eF z_f_9_60, List.forall_mem_cons.mpr ⟨z_eF z_f_9_62, fun _ h => absurd h List.not_mem_nil⟩⟩⟩⟩⟩⟩⟩⟩⟩⟩⟩⟩⟩⟩⟩⟩
theorem z_f_10_9 : z_OKFe "BellThatIsADoor$Errand" 9 0 10 10 3 1 := by
  refine ⟨"BellThatIsADoor$Errand", "rings", "[I", Or.inl (z_inT 129 (by decide +kernel) rfl), ?_⟩
  · intro ci h1 h2
    have hc : ci = 10 := by omega
    subst hc
    exact ⟨"BellThatIsADoor$Errand", z_F10, 5, z_t10, rfl, z_cok10, by decide, rfl, rfl, Or.inl rfl, ⟨_, rfl⟩, fun h => absurd h (by decide), fun _ => ⟨rfl, rfl⟩⟩
theorem z_f_10_15 : z_OKFe "BellThatIsADoor$Errand" 15 1 10 10 3 1 := by
  refine ⟨"BellThatIsADoor$Errand", "order", "[I", Or.inl (z_inT 130 (by decide +kernel) rfl), ?_⟩
  · intro ci h1 h2
    have hc : ci = 10 := by omega
    subst hc
    exact ⟨"BellThatIsADoor$Errand", z_F10, 5, z_t10, rfl, z_cok10, by decide, rfl, rfl, Or.inl rfl, ⟨_, rfl⟩, fun h => absurd h (by decide), fun _ => ⟨rfl, rfl⟩⟩
theorem z_f_10_18 : z_OKFe "BellThatIsADoor$Errand" 18 2 10 10 3 1 := by
  refine ⟨"BellThatIsADoor$Errand", "best", "[I", Or.inl (z_inT 131 (by decide +kernel) rfl), ?_⟩
  · intro ci h1 h2
    have hc : ci = 10 := by omega
    subst hc
    exact ⟨"BellThatIsADoor$Errand", z_F10, 5, z_t10, rfl, z_cok10, by decide, rfl, rfl, Or.inl rfl, ⟨_, rfl⟩, fun h => absurd h (by decide), fun _ => ⟨rfl, rfl⟩⟩
theorem z_f_10_21 : z_OKFe "BellThatIsADoor$Errand" 21 3 10 10 0 0 := by
  refine ⟨"BellThatIsADoor$Errand", "fewestHours", "I", Or.inl (z_inT 132 (by decide +kernel) rfl), ?_⟩
  · intro ci h1 h2
    have hc : ci = 10 := by omega
    subst hc
    exact ⟨"BellThatIsADoor$Errand", z_F10, 5, z_t10, rfl, z_cok10, by decide, rfl, rfl, Or.inl rfl, rfl, fun _ => rfl, fun h => absurd h (by decide)⟩
theorem z_f_10_25 : z_OKFe "BellThatIsADoor$Errand" 25 4 10 10 0 0 := by
  refine ⟨"BellThatIsADoor$Errand", "many", "I", Or.inl (z_inT 133 (by decide +kernel) rfl), ?_⟩
  · intro ci h1 h2
    have hc : ci = 10 := by omega
    subst hc
    exact ⟨"BellThatIsADoor$Errand", z_F10, 5, z_t10, rfl, z_cok10, by decide, rfl, rfl, Or.inl rfl, rfl, fun _ => rfl, fun h => absurd h (by decide)⟩
theorem z_f_10_46 : z_OKFe "BellThatIsADoor$Errand" 46 9 8 8 0 0 := by
  refine ⟨"BellThatIsADoor$Marsh", "hour", "I", Or.inr ⟨by decide, "BellThatIsADoor", z_inN 91 (by decide +kernel) rfl⟩, ?_⟩
  · intro ci h1 h2
    have hc : ci = 8 := by omega
    subst hc
    exact ⟨"BellThatIsADoor$Marsh", z_F8, 11, z_t8, rfl, z_cok8, by decide, rfl, rfl, Or.inl rfl, rfl, fun _ => rfl, fun h => absurd h (by decide)⟩
theorem z_rowF_10 : ∀ row, z_fT[10]? = some row → ∀ q ∈ row, z_qF (z_own 10) q := by
  intro row h
  cases h
  exact List.forall_mem_cons.mpr ⟨z_eF z_f_10_9, List.forall_mem_cons.mpr ⟨z_eF z_f_10_15, List.forall_mem_cons.mpr ⟨z_eF z_f_10_18, List.forall_mem_cons.mpr ⟨z_eF z_f_10_21, List.forall_mem_cons.mpr ⟨z_eF z_f_10_25, List.forall_mem_cons.mpr ⟨z_eF z_f_10_46, fun _ h => absurd h List.not_mem_nil⟩⟩⟩⟩⟩⟩
theorem z_f_11_12 : z_OKFe "BellThatIsADoor" 12 0 11 11 2 1 := by
  refine ⟨"BellThatIsADoor", "now", "LBellThatIsADoor$Marsh;", Or.inl (z_inT 329 (by decide +kernel) rfl), ?_⟩
  · intro ci h1 h2
    have hc : ci = 11 := by omega
    subst hc
    exact ⟨"BellThatIsADoor", z_F11, 11, z_t11, rfl, z_cok11, by decide, rfl, rfl, Or.inl rfl, ⟨_, rfl⟩, fun h => absurd h (by decide), fun _ => ⟨rfl, rfl⟩⟩
theorem z_f_11_16 : z_OKFe "BellThatIsADoor" 16 1 11 11 2 1 := by
  refine ⟨"BellThatIsADoor", "mind", "LBellThatIsADoor$Marsh;", Or.inl (z_inT 330 (by decide +kernel) rfl), ?_⟩
  · intro ci h1 h2
    have hc : ci = 11 := by omega
    subst hc
    exact ⟨"BellThatIsADoor", z_F11, 11, z_t11, rfl, z_cok11, by decide, rfl, rfl, Or.inl rfl, ⟨_, rfl⟩, fun h => absurd h (by decide), fun _ => ⟨rfl, rfl⟩⟩
theorem z_f_11_19 : z_OKFe "BellThatIsADoor" 19 2 11 11 2 1 := by
  refine ⟨"BellThatIsADoor", "imaged", "LBellThatIsADoor$Marsh;", Or.inl (z_inT 331 (by decide +kernel) rfl), ?_⟩
  · intro ci h1 h2
    have hc : ci = 11 := by omega
    subst hc
    exact ⟨"BellThatIsADoor", z_F11, 11, z_t11, rfl, z_cok11, by decide, rfl, rfl, Or.inl rfl, ⟨_, rfl⟩, fun h => absurd h (by decide), fun _ => ⟨rfl, rfl⟩⟩
theorem z_f_11_24 : z_OKFe "BellThatIsADoor" 24 4 11 11 3 1 := by
  refine ⟨"BellThatIsADoor", "houses", "[LBellThatIsADoor$Bell;", Or.inl (z_inT 333 (by decide +kernel) rfl), ?_⟩
  · intro ci h1 h2
    have hc : ci = 11 := by omega
    subst hc
    exact ⟨"BellThatIsADoor", z_F11, 11, z_t11, rfl, z_cok11, by decide, rfl, rfl, Or.inl rfl, ⟨_, rfl⟩, fun h => absurd h (by decide), fun _ => ⟨rfl, rfl⟩⟩
theorem z_f_11_28 : z_OKFe "BellThatIsADoor" 28 5 11 11 3 1 := by
  refine ⟨"BellThatIsADoor", "bellsHeld", "[LBellThatIsADoor$Bell;", Or.inl (z_inT 334 (by decide +kernel) rfl), ?_⟩
  · intro ci h1 h2
    have hc : ci = 11 := by omega
    subst hc
    exact ⟨"BellThatIsADoor", z_F11, 11, z_t11, rfl, z_cok11, by decide, rfl, rfl, Or.inl rfl, ⟨_, rfl⟩, fun h => absurd h (by decide), fun _ => ⟨rfl, rfl⟩⟩
theorem z_f_11_33 : z_OKFe "BellThatIsADoor" 33 6 11 11 3 1 := by
  refine ⟨"BellThatIsADoor", "rowsHeld", "[LBellThatIsADoor$Row;", Or.inl (z_inT 335 (by decide +kernel) rfl), ?_⟩
  · intro ci h1 h2
    have hc : ci = 11 := by omega
    subst hc
    exact ⟨"BellThatIsADoor", z_F11, 11, z_t11, rfl, z_cok11, by decide, rfl, rfl, Or.inl rfl, ⟨_, rfl⟩, fun h => absurd h (by decide), fun _ => ⟨rfl, rfl⟩⟩
theorem z_f_11_40 : z_OKFe "BellThatIsADoor" 40 7 11 11 2 1 := by
  refine ⟨"BellThatIsADoor", "errand", "LBellThatIsADoor$Errand;", Or.inl (z_inT 336 (by decide +kernel) rfl), ?_⟩
  · intro ci h1 h2
    have hc : ci = 11 := by omega
    subst hc
    exact ⟨"BellThatIsADoor", z_F11, 11, z_t11, rfl, z_cok11, by decide, rfl, rfl, Or.inl rfl, ⟨_, rfl⟩, fun h => absurd h (by decide), fun _ => ⟨rfl, rfl⟩⟩
theorem z_f_11_44 : z_OKFe "BellThatIsADoor" 44 8 11 11 3 1 := by
  refine ⟨"BellThatIsADoor", "homeByHour", "[I", Or.inl (z_inT 337 (by decide +kernel) rfl), ?_⟩
  · intro ci h1 h2
    have hc : ci = 11 := by omega
    subst hc
    exact ⟨"BellThatIsADoor", z_F11, 11, z_t11, rfl, z_cok11, by decide, rfl, rfl, Or.inl rfl, ⟨_, rfl⟩, fun h => absurd h (by decide), fun _ => ⟨rfl, rfl⟩⟩
theorem z_f_11_48 : z_OKFe "BellThatIsADoor" 48 9 11 11 3 1 := by
  refine ⟨"BellThatIsADoor", "heardByKind", "[I", Or.inl (z_inT 338 (by decide +kernel) rfl), ?_⟩
  · intro ci h1 h2
    have hc : ci = 11 := by omega
    subst hc
    exact ⟨"BellThatIsADoor", z_F11, 11, z_t11, rfl, z_cok11, by decide, rfl, rfl, Or.inl rfl, ⟨_, rfl⟩, fun h => absurd h (by decide), fun _ => ⟨rfl, rfl⟩⟩
theorem z_f_11_51 : z_OKFe "BellThatIsADoor" 51 10 11 11 3 1 := by
  refine ⟨"BellThatIsADoor", "closedByRung", "[J", Or.inl (z_inT 339 (by decide +kernel) rfl), ?_⟩
  · intro ci h1 h2
    have hc : ci = 11 := by omega
    subst hc
    exact ⟨"BellThatIsADoor", z_F11, 11, z_t11, rfl, z_cok11, by decide, rfl, rfl, Or.inl rfl, ⟨_, rfl⟩, fun h => absurd h (by decide), fun _ => ⟨rfl, rfl⟩⟩
theorem z_f_11_67 : z_OKFe "BellThatIsADoor" 67 0 9 9 0 2 := by
  refine ⟨"BellThatIsADoor$Row", "sort", "I", Or.inl (z_inT 792 (by decide +kernel) rfl), ?_⟩
  · intro ci h1 h2
    have hc : ci = 9 := by omega
    subst hc
    exact ⟨"BellThatIsADoor$Row", z_F9, 2, z_t9, rfl, z_cok9, by decide, rfl, rfl, Or.inl rfl, rfl, fun h => absurd h (by decide), fun h => absurd h (by decide)⟩
theorem z_f_11_103 : z_OKFe "BellThatIsADoor" 103 9 8 8 0 0 := by
  refine ⟨"BellThatIsADoor$Marsh", "hour", "I", Or.inr ⟨by decide, "BellThatIsADoor", z_inN 92 (by decide +kernel) rfl⟩, ?_⟩
  · intro ci h1 h2
    have hc : ci = 8 := by omega
    subst hc
    exact ⟨"BellThatIsADoor$Marsh", z_F8, 11, z_t8, rfl, z_cok8, by decide, rfl, rfl, Or.inl rfl, rfl, fun _ => rfl, fun h => absurd h (by decide)⟩
theorem z_f_11_140 : z_OKFe "BellThatIsADoor" 140 8 8 8 0 0 := by
  refine ⟨"BellThatIsADoor$Marsh", "size", "I", Or.inr ⟨by decide, "BellThatIsADoor", z_inN 89 (by decide +kernel) rfl⟩, ?_⟩
  · intro ci h1 h2
    have hc : ci = 8 := by omega
    subst hc
    exact ⟨"BellThatIsADoor$Marsh", z_F8, 11, z_t8, rfl, z_cok8, by decide, rfl, rfl, Or.inl rfl, rfl, fun _ => rfl, fun h => absurd h (by decide)⟩
theorem z_f_11_226 : z_OKFe "BellThatIsADoor" 226 3 11 11 1 0 := by
  refine ⟨"BellThatIsADoor", "isImaged", "Z", Or.inl (z_inT 332 (by decide +kernel) rfl), ?_⟩
  · intro ci h1 h2
    have hc : ci = 11 := by omega
    subst hc
    exact ⟨"BellThatIsADoor", z_F11, 11, z_t11, rfl, z_cok11, by decide, rfl, rfl, Or.inl rfl, rfl, fun _ => rfl, fun h => absurd h (by decide)⟩
theorem z_f_11_230 : z_OKFe "BellThatIsADoor" 230 10 8 8 0 0 := by
  refine ⟨"BellThatIsADoor$Marsh", "day", "I", Or.inr ⟨by decide, "BellThatIsADoor", z_inN 94 (by decide +kernel) rfl⟩, ?_⟩
  · intro ci h1 h2
    have hc : ci = 8 := by omega
    subst hc
    exact ⟨"BellThatIsADoor$Marsh", z_F8, 11, z_t8, rfl, z_cok8, by decide, rfl, rfl, Or.inl rfl, rfl, fun _ => rfl, fun h => absurd h (by decide)⟩
theorem z_f_11_270 : z_OKFe "BellThatIsADoor" 270 1 9 9 3 2 := by
  refine ⟨"BellThatIsADoor$Row", "elements", "[I", Or.inl (z_inT 794 (by decide +kernel) rfl), ?_⟩
  · intro ci h1 h2
    have hc : ci = 9 := by omega
    subst hc
    exact ⟨"BellThatIsADoor$Row", z_F9, 2, z_t9, rfl, z_cok9, by decide, rfl, rfl, Or.inl rfl, ⟨_, rfl⟩, fun h => absurd h (by decide), fun h => absurd h (by decide)⟩
theorem z_f_11_279 : z_OKFe "BellThatIsADoor" 279 5 0 7 0 0 := by
  refine ⟨"BellThatIsADoor$Bell", "price", "I", Or.inl (z_inT 221 (by decide +kernel) rfl), ?_⟩
  · intro ci h1 h2
    have hc : ci = 0 ∨ ci = 1 ∨ ci = 2 ∨ ci = 3 ∨ ci = 4 ∨ ci = 5 ∨ ci = 6 ∨ ci = 7 := by omega
    rcases hc with rfl | rfl | rfl | rfl | rfl | rfl | rfl | rfl
    · exact ⟨"BellThatIsADoor$Bell", z_F0, 6, z_t0, rfl, z_cok0, by decide, rfl, rfl, Or.inl rfl, rfl, fun _ => rfl, fun h => absurd h (by decide)⟩
    · exact ⟨"BellThatIsADoor$Hen", z_F1, 6, z_t1, rfl, z_cok1, by decide, rfl, rfl, Or.inl rfl, rfl, fun _ => rfl, fun h => absurd h (by decide)⟩
    · exact ⟨"BellThatIsADoor$Echo", z_F2, 6, z_t2, rfl, z_cok2, by decide, rfl, rfl, Or.inl rfl, rfl, fun _ => rfl, fun h => absurd h (by decide)⟩
    · exact ⟨"BellThatIsADoor$Door", z_F3, 6, z_t3, rfl, z_cok3, by decide, rfl, rfl, Or.inl rfl, rfl, fun _ => rfl, fun h => absurd h (by decide)⟩
    · exact ⟨"BellThatIsADoor$Maid", z_F4, 6, z_t4, rfl, z_cok4, by decide, rfl, rfl, Or.inl rfl, rfl, fun _ => rfl, fun h => absurd h (by decide)⟩
    · exact ⟨"BellThatIsADoor$Suited", z_F5, 6, z_t5, rfl, z_cok5, by decide, rfl, rfl, Or.inl rfl, rfl, fun _ => rfl, fun h => absurd h (by decide)⟩
    · exact ⟨"BellThatIsADoor$Cough", z_F6, 6, z_t6, rfl, z_cok6, by decide, rfl, rfl, Or.inl rfl, rfl, fun _ => rfl, fun h => absurd h (by decide)⟩
    · exact ⟨"BellThatIsADoor$Marble", z_F7, 6, z_t7, rfl, z_cok7, by decide, rfl, rfl, Or.inl rfl, rfl, fun _ => rfl, fun h => absurd h (by decide)⟩
theorem z_f_11_291 : z_OKFe "BellThatIsADoor" 291 1 0 7 0 2 := by
  refine ⟨"BellThatIsADoor$Bell", "figure", "I", Or.inl (z_inT 165 (by decide +kernel) rfl), ?_⟩
  · intro ci h1 h2
    have hc : ci = 0 ∨ ci = 1 ∨ ci = 2 ∨ ci = 3 ∨ ci = 4 ∨ ci = 5 ∨ ci = 6 ∨ ci = 7 := by omega
    rcases hc with rfl | rfl | rfl | rfl | rfl | rfl | rfl | rfl
    · exact ⟨"BellThatIsADoor$Bell", z_F0, 6, z_t0, rfl, z_cok0, by decide, rfl, rfl, Or.inl rfl, rfl, fun h => absurd h (by decide), fun h => absurd h (by decide)⟩
    · exact ⟨"BellThatIsADoor$Hen", z_F1, 6, z_t1, rfl, z_cok1, by decide, rfl, rfl, Or.inl rfl, rfl, fun h => absurd h (by decide), fun h => absurd h (by decide)⟩
    · exact ⟨"BellThatIsADoor$Echo", z_F2, 6, z_t2, rfl, z_cok2, by decide, rfl, rfl, Or.inl rfl, rfl, fun h => absurd h (by decide), fun h => absurd h (by decide)⟩
    · exact ⟨"BellThatIsADoor$Door", z_F3, 6, z_t3, rfl, z_cok3, by decide, rfl, rfl, Or.inl rfl, rfl, fun h => absurd h (by decide), fun h => absurd h (by decide)⟩
    · exact ⟨"BellThatIsADoor$Maid", z_F4, 6, z_t4, rfl, z_cok4, by decide, rfl, rfl, Or.inl rfl, rfl, fun h => absurd h (by decide), fun h => absurd h (by decide)⟩
    · exact ⟨"BellThatIsADoor$Suited", z_F5, 6, z_t5, rfl, z_cok5, by decide, rfl, rfl, Or.inl rfl, rfl, fun h => absurd h (by decide), fun h => absurd h (by decide)⟩
    · exact ⟨"BellThatIsADoor$Cough", z_F6, 6, z_t6, rfl, z_cok6, by decide, rfl, rfl, Or.inl rfl, rfl, fun h => absurd h (by decide), fun h => absurd h (by decide)⟩
    · exact ⟨"BellThatIsADoor$Marble", z_F7, 6, z_t7, rfl, z_cok7, by decide, rfl, rfl, Or.inl rfl, rfl, fun h => absurd h (by decide), fun h => absurd h (by decide)⟩
theorem z_rowF_11 : ∀ row, z_fT[11]? = some row → ∀ q ∈ row, z_qF (z_own 11) q := by
  intro row h
  cases h
  exact List.forall_mem_cons.mpr ⟨z_eF z_f_11_12, List.forall_mem_cons.mpr ⟨z_eF z_f_11_16, List.forall_mem_cons.mpr ⟨z_eF z_f_11_19, List.forall_mem_cons.mpr ⟨z_eF z_f_11_24, List.forall_mem_cons.mpr ⟨z_eF z_f_11_28, List.forall_mem_cons.mpr ⟨z_eF z_f_11_33, List.forall_mem_cons.mpr ⟨z_eF z_f_11_40, List.forall_mem_cons.mpr ⟨z_eF z_f_11_44, List.forall_mem_cons.mpr ⟨z_eF z_f_11_48, List.forall_mem_cons.mpr ⟨z_eF z_f_11_51, List.forall_mem_cons.mpr ⟨z_eF z_f_11_67, List.forall_mem_cons.mpr ⟨z_eF z_f_11_103, List.forall_mem_cons.mpr ⟨z_eF z_f_11_140, List.forall_mem_cons.mpr ⟨z_eF z_f_11_226, List.forall_mem_cons.mpr ⟨z_eF z_f_11_230, List.forall_mem_cons.mpr ⟨z_eF z_f_11_270, List.forall_mem_cons.mpr ⟨z_eF z_f_11_279, List.forall_mem_cons.mpr ⟨z_eF z_f_11_291, fun _ h => absurd h List.not_mem_nil⟩⟩⟩⟩⟩⟩⟩⟩⟩⟩⟩⟩⟩⟩⟩⟩⟩⟩
theorem z_f_12_9 : z_OKFe "BellThatIsADoorModel" 9 0 12 12 3 1 := by
  refine ⟨"BellThatIsADoorModel", "s", "[I", Or.inl (z_inT 977 (by decide +kernel) rfl), ?_⟩
  · intro ci h1 h2
    have hc : ci = 12 := by omega
    subst hc
    exact ⟨"BellThatIsADoorModel", z_F12, 21, z_t12, rfl, z_cok12, by decide, rfl, rfl, Or.inl rfl, ⟨_, rfl⟩, fun h => absurd h (by decide), fun _ => ⟨rfl, rfl⟩⟩
theorem z_f_12_13 : z_OKFe "BellThatIsADoorModel" 13 1 12 12 3 1 := by
  refine ⟨"BellThatIsADoorModel", "m", "[I", Or.inl (z_inT 978 (by decide +kernel) rfl), ?_⟩
  · intro ci h1 h2
    have hc : ci = 12 := by omega
    subst hc
    exact ⟨"BellThatIsADoorModel", z_F12, 21, z_t12, rfl, z_cok12, by decide, rfl, rfl, Or.inl rfl, ⟨_, rfl⟩, fun h => absurd h (by decide), fun _ => ⟨rfl, rfl⟩⟩
theorem z_f_12_16 : z_OKFe "BellThatIsADoorModel" 16 2 12 12 3 1 := by
  refine ⟨"BellThatIsADoorModel", "image", "[I", Or.inl (z_inT 979 (by decide +kernel) rfl), ?_⟩
  · intro ci h1 h2
    have hc : ci = 12 := by omega
    subst hc
    exact ⟨"BellThatIsADoorModel", z_F12, 21, z_t12, rfl, z_cok12, by decide, rfl, rfl, Or.inl rfl, ⟨_, rfl⟩, fun h => absurd h (by decide), fun _ => ⟨rfl, rfl⟩⟩
theorem z_f_12_19 : z_OKFe "BellThatIsADoorModel" 19 3 12 12 3 1 := by
  refine ⟨"BellThatIsADoorModel", "was", "[I", Or.inl (z_inT 980 (by decide +kernel) rfl), ?_⟩
  · intro ci h1 h2
    have hc : ci = 12 := by omega
    subst hc
    exact ⟨"BellThatIsADoorModel", z_F12, 21, z_t12, rfl, z_cok12, by decide, rfl, rfl, Or.inl rfl, ⟨_, rfl⟩, fun h => absurd h (by decide), fun _ => ⟨rfl, rfl⟩⟩
theorem z_f_12_22 : z_OKFe "BellThatIsADoorModel" 22 8 12 12 3 1 := by
  refine ⟨"BellThatIsADoorModel", "numbers", "[I", Or.inl (z_inT 985 (by decide +kernel) rfl), ?_⟩
  · intro ci h1 h2
    have hc : ci = 12 := by omega
    subst hc
    exact ⟨"BellThatIsADoorModel", z_F12, 21, z_t12, rfl, z_cok12, by decide, rfl, rfl, Or.inl rfl, ⟨_, rfl⟩, fun h => absurd h (by decide), fun _ => ⟨rfl, rfl⟩⟩
theorem z_f_12_25 : z_OKFe "BellThatIsADoorModel" 25 9 12 12 3 1 := by
  refine ⟨"BellThatIsADoorModel", "line", "[I", Or.inl (z_inT 986 (by decide +kernel) rfl), ?_⟩
  · intro ci h1 h2
    have hc : ci = 12 := by omega
    subst hc
    exact ⟨"BellThatIsADoorModel", z_F12, 21, z_t12, rfl, z_cok12, by decide, rfl, rfl, Or.inl rfl, ⟨_, rfl⟩, fun h => absurd h (by decide), fun _ => ⟨rfl, rfl⟩⟩
theorem z_f_12_28 : z_OKFe "BellThatIsADoorModel" 28 10 12 12 3 1 := by
  refine ⟨"BellThatIsADoorModel", "bestLine", "[I", Or.inl (z_inT 987 (by decide +kernel) rfl), ?_⟩
  · intro ci h1 h2
    have hc : ci = 12 := by omega
    subst hc
    exact ⟨"BellThatIsADoorModel", z_F12, 21, z_t12, rfl, z_cok12, by decide, rfl, rfl, Or.inl rfl, ⟨_, rfl⟩, fun h => absurd h (by decide), fun _ => ⟨rfl, rfl⟩⟩
theorem z_f_12_31 : z_OKFe "BellThatIsADoorModel" 31 12 12 12 3 1 := by
  refine ⟨"BellThatIsADoorModel", "feetTake", "[I", Or.inl (z_inT 989 (by decide +kernel) rfl), ?_⟩
  · intro ci h1 h2
    have hc : ci = 12 := by omega
    subst hc
    exact ⟨"BellThatIsADoorModel", z_F12, 21, z_t12, rfl, z_cok12, by decide, rfl, rfl, Or.inl rfl, ⟨_, rfl⟩, fun h => absurd h (by decide), fun _ => ⟨rfl, rfl⟩⟩
theorem z_f_12_34 : z_OKFe "BellThatIsADoorModel" 34 14 12 12 3 1 := by
  refine ⟨"BellThatIsADoorModel", "kept", "[I", Or.inl (z_inT 991 (by decide +kernel) rfl), ?_⟩
  · intro ci h1 h2
    have hc : ci = 12 := by omega
    subst hc
    exact ⟨"BellThatIsADoorModel", z_F12, 21, z_t12, rfl, z_cok12, by decide, rfl, rfl, Or.inl rfl, ⟨_, rfl⟩, fun h => absurd h (by decide), fun _ => ⟨rfl, rfl⟩⟩
theorem z_f_12_37 : z_OKFe "BellThatIsADoorModel" 37 15 12 12 3 1 := by
  refine ⟨"BellThatIsADoorModel", "keptKind", "[I", Or.inl (z_inT 992 (by decide +kernel) rfl), ?_⟩
  · intro ci h1 h2
    have hc : ci = 12 := by omega
    subst hc
    exact ⟨"BellThatIsADoorModel", z_F12, 21, z_t12, rfl, z_cok12, by decide, rfl, rfl, Or.inl rfl, ⟨_, rfl⟩, fun h => absurd h (by decide), fun _ => ⟨rfl, rfl⟩⟩
theorem z_f_12_40 : z_OKFe "BellThatIsADoorModel" 40 16 12 12 3 1 := by
  refine ⟨"BellThatIsADoorModel", "keptFigure", "[I", Or.inl (z_inT 993 (by decide +kernel) rfl), ?_⟩
  · intro ci h1 h2
    have hc : ci = 12 := by omega
    subst hc
    exact ⟨"BellThatIsADoorModel", z_F12, 21, z_t12, rfl, z_cok12, by decide, rfl, rfl, Or.inl rfl, ⟨_, rfl⟩, fun h => absurd h (by decide), fun _ => ⟨rfl, rfl⟩⟩
theorem z_f_12_43 : z_OKFe "BellThatIsADoorModel" 43 17 12 12 3 1 := by
  refine ⟨"BellThatIsADoorModel", "sort", "[I", Or.inl (z_inT 994 (by decide +kernel) rfl), ?_⟩
  · intro ci h1 h2
    have hc : ci = 12 := by omega
    subst hc
    exact ⟨"BellThatIsADoorModel", z_F12, 21, z_t12, rfl, z_cok12, by decide, rfl, rfl, Or.inl rfl, ⟨_, rfl⟩, fun h => absurd h (by decide), fun _ => ⟨rfl, rfl⟩⟩
theorem z_f_12_46 : z_OKFe "BellThatIsADoorModel" 46 18 12 12 3 1 := by
  refine ⟨"BellThatIsADoorModel", "size", "[I", Or.inl (z_inT 995 (by decide +kernel) rfl), ?_⟩
  · intro ci h1 h2
    have hc : ci = 12 := by omega
    subst hc
    exact ⟨"BellThatIsADoorModel", z_F12, 21, z_t12, rfl, z_cok12, by decide, rfl, rfl, Or.inl rfl, ⟨_, rfl⟩, fun h => absurd h (by decide), fun _ => ⟨rfl, rfl⟩⟩
theorem z_f_12_49 : z_OKFe "BellThatIsADoorModel" 49 19 12 12 3 1 := by
  refine ⟨"BellThatIsADoorModel", "element", "[I", Or.inl (z_inT 996 (by decide +kernel) rfl), ?_⟩
  · intro ci h1 h2
    have hc : ci = 12 := by omega
    subst hc
    exact ⟨"BellThatIsADoorModel", z_F12, 21, z_t12, rfl, z_cok12, by decide, rfl, rfl, Or.inl rfl, ⟨_, rfl⟩, fun h => absurd h (by decide), fun _ => ⟨rfl, rfl⟩⟩
theorem z_f_12_87 : z_OKFe "BellThatIsADoorModel" 87 5 12 12 0 0 := by
  refine ⟨"BellThatIsADoorModel", "place", "I", Or.inl (z_inT 982 (by decide +kernel) rfl), ?_⟩
  · intro ci h1 h2
    have hc : ci = 12 := by omega
    subst hc
    exact ⟨"BellThatIsADoorModel", z_F12, 21, z_t12, rfl, z_cok12, by decide, rfl, rfl, Or.inl rfl, rfl, fun _ => rfl, fun h => absurd h (by decide)⟩
theorem z_f_12_91 : z_OKFe "BellThatIsADoorModel" 91 7 12 12 0 0 := by
  refine ⟨"BellThatIsADoorModel", "rowEnd", "I", Or.inl (z_inT 984 (by decide +kernel) rfl), ?_⟩
  · intro ci h1 h2
    have hc : ci = 12 := by omega
    subst hc
    exact ⟨"BellThatIsADoorModel", z_F12, 21, z_t12, rfl, z_cok12, by decide, rfl, rfl, Or.inl rfl, rfl, fun _ => rfl, fun h => absurd h (by decide)⟩
theorem z_f_12_94 : z_OKFe "BellThatIsADoorModel" 94 6 12 12 0 0 := by
  refine ⟨"BellThatIsADoorModel", "rowAt", "I", Or.inl (z_inT 983 (by decide +kernel) rfl), ?_⟩
  · intro ci h1 h2
    have hc : ci = 12 := by omega
    subst hc
    exact ⟨"BellThatIsADoorModel", z_F12, 21, z_t12, rfl, z_cok12, by decide, rfl, rfl, Or.inl rfl, rfl, fun _ => rfl, fun h => absurd h (by decide)⟩
theorem z_f_12_158 : z_OKFe "BellThatIsADoorModel" 158 11 12 12 0 0 := by
  refine ⟨"BellThatIsADoorModel", "bestDone", "I", Or.inl (z_inT 988 (by decide +kernel) rfl), ?_⟩
  · intro ci h1 h2
    have hc : ci = 12 := by omega
    subst hc
    exact ⟨"BellThatIsADoorModel", z_F12, 21, z_t12, rfl, z_cok12, by decide, rfl, rfl, Or.inl rfl, rfl, fun _ => rfl, fun h => absurd h (by decide)⟩
theorem z_f_12_213 : z_OKFe "BellThatIsADoorModel" 213 13 12 12 0 0 := by
  refine ⟨"BellThatIsADoorModel", "seed", "I", Or.inl (z_inT 990 (by decide +kernel) rfl), ?_⟩
  · intro ci h1 h2
    have hc : ci = 12 := by omega
    subst hc
    exact ⟨"BellThatIsADoorModel", z_F12, 21, z_t12, rfl, z_cok12, by decide, rfl, rfl, Or.inl rfl, rfl, fun _ => rfl, fun h => absurd h (by decide)⟩
theorem z_f_12_222 : z_OKFe "BellThatIsADoorModel" 222 4 12 12 1 0 := by
  refine ⟨"BellThatIsADoorModel", "hasImage", "Z", Or.inl (z_inT 981 (by decide +kernel) rfl), ?_⟩
  · intro ci h1 h2
    have hc : ci = 12 := by omega
    subst hc
    exact ⟨"BellThatIsADoorModel", z_F12, 21, z_t12, rfl, z_cok12, by decide, rfl, rfl, Or.inl rfl, rfl, fun _ => rfl, fun h => absurd h (by decide)⟩
theorem z_f_12_226 : z_OKFe "BellThatIsADoorModel" 226 20 12 12 0 0 := by
  refine ⟨"BellThatIsADoorModel", "thrown", "I", Or.inl (z_inT 997 (by decide +kernel) rfl), ?_⟩
  · intro ci h1 h2
    have hc : ci = 12 := by omega
    subst hc
    exact ⟨"BellThatIsADoorModel", z_F12, 21, z_t12, rfl, z_cok12, by decide, rfl, rfl, Or.inl rfl, rfl, fun _ => rfl, fun h => absurd h (by decide)⟩
theorem z_rowF_12 : ∀ row, z_fT[12]? = some row → ∀ q ∈ row, z_qF (z_own 12) q := by
  intro row h
  cases h
  exact List.forall_mem_cons.mpr ⟨z_eF z_f_12_9, List.forall_mem_cons.mpr ⟨z_eF z_f_12_13, List.forall_mem_cons.mpr ⟨z_eF z_f_12_16, List.forall_mem_cons.mpr ⟨z_eF z_f_12_19, List.forall_mem_cons.mpr ⟨z_eF z_f_12_22, List.forall_mem_cons.mpr ⟨z_eF z_f_12_25, List.forall_mem_cons.mpr ⟨z_eF z_f_12_28, List.forall_mem_cons.mpr ⟨z_eF z_f_12_31, List.forall_mem_cons.mpr ⟨z_eF z_f_12_34, List.forall_mem_cons.mpr ⟨z_eF z_f_12_37, List.forall_mem_cons.mpr ⟨z_eF z_f_12_40, List.forall_mem_cons.mpr ⟨z_eF z_f_12_43, List.forall_mem_cons.mpr ⟨z_eF z_f_12_46, List.forall_mem_cons.mpr ⟨z_eF z_f_12_49, List.forall_mem_cons.mpr ⟨z_eF z_f_12_87, List.forall_mem_cons.mpr ⟨z_eF z_f_12_91, List.forall_mem_cons.mpr ⟨z_eF z_f_12_94, List.forall_mem_cons.mpr ⟨z_eF z_f_12_158, List.forall_mem_cons.mpr ⟨z_eF z_f_12_213, List.forall_mem_cons.mpr ⟨z_eF z_f_12_222, List.forall_mem_cons.mpr ⟨z_eF z_f_12_226, fun _ h => absurd h List.not_mem_nil⟩⟩⟩⟩⟩⟩⟩⟩⟩⟩⟩⟩⟩⟩⟩⟩⟩⟩⟩⟩⟩
theorem z_rowF_13 : ∀ row, z_fT[13]? = some row → ∀ q ∈ row, z_qF (z_own 13) q := by
  intro row h
  cases h
  exact fun _ h => absurd h List.not_mem_nil
theorem z_rowF_14 : ∀ row, z_fT[14]? = some row → ∀ q ∈ row, z_qF (z_own 14) q := by
  intro row h
  cases h
  exact fun _ h => absurd h List.not_mem_nil
theorem z_rowF : ∀ oc row, z_fT[oc]? = some row → ∀ q ∈ row, z_qF (z_own oc) q
  | 0 => z_rowF_0
  | 1 => z_rowF_1
  | 2 => z_rowF_2
  | 3 => z_rowF_3
  | 4 => z_rowF_4
  | 5 => z_rowF_5
  | 6 => z_rowF_6
  | 7 => z_rowF_7
  | 8 => z_rowF_8
  | 9 => z_rowF_9
  | 10 => z_rowF_10
  | 11 => z_rowF_11
  | 12 => z_rowF_12
  | 13 => z_rowF_13
  | 14 => z_rowF_14
  | _ + 15 => fun row h => by rw [List.getElem?_eq_none (by simp [z_fT])] at h; cases h
theorem z_okF (mid j : Nat) : z_OKF mid j := by
  intro k lo hi ty fin t h
  obtain ⟨row, h1, h2, h3⟩ := z_lk_in (T := z_fT) (by decide) h
  have h4 := z_rowF _ row h1 _ h2 _ _ _ _ _ _ rfl
  rw [← h3] at h4
  exact h4
def z_qC (own : String) (q : Nat × List Nat) : Prop := (∀ v t, q.2 = 0 :: v :: t → Jvm.Cond.constant own q.1 (Int32.ofNat v) ∈ z_T) ∧ ∀ v t, q.2 = 1 :: v :: t → Jvm.Cond.constantLong own q.1 (Int64.ofNat v) ∈ z_T
theorem z_c_0_29 : z_qC "BellThatIsADoor$Row" (29, [0, 2147483648]) := ⟨fun v t e => by simp only [List.cons.injEq] at e; obtain ⟨-, rfl, -⟩ := e; exact z_inT 658 (by decide +kernel) rfl, fun v t e => absurd (List.cons.inj e).1 (by decide)⟩
theorem z_rowC_0 : ∀ row, z_cT[0]? = some row → ∀ q ∈ row, z_qC (z_own 0) q := by
  intro row h
  cases h
  exact List.forall_mem_cons.mpr ⟨z_c_0_29, fun _ h => absurd h List.not_mem_nil⟩
theorem z_rowC_1 : ∀ row, z_cT[1]? = some row → ∀ q ∈ row, z_qC (z_own 1) q := by
  intro row h
  cases h
  exact fun _ h => absurd h List.not_mem_nil
theorem z_rowC_2 : ∀ row, z_cT[2]? = some row → ∀ q ∈ row, z_qC (z_own 2) q := by
  intro row h
  cases h
  exact fun _ h => absurd h List.not_mem_nil
theorem z_c_3_9 : z_qC "BellThatIsADoor$Hen" (9, [0, 16777215]) := ⟨fun v t e => by simp only [List.cons.injEq] at e; obtain ⟨-, rfl, -⟩ := e; exact z_inT 242 (by decide +kernel) rfl, fun v t e => absurd (List.cons.inj e).1 (by decide)⟩
theorem z_rowC_3 : ∀ row, z_cT[3]? = some row → ∀ q ∈ row, z_qC (z_own 3) q := by
  intro row h
  cases h
  exact List.forall_mem_cons.mpr ⟨z_c_3_9, fun _ h => absurd h List.not_mem_nil⟩
theorem z_c_4_9 : z_qC "BellThatIsADoor$Cough" (9, [0, 16777215]) := ⟨fun v t e => by simp only [List.cons.injEq] at e; obtain ⟨-, rfl, -⟩ := e; exact z_inT 256 (by decide +kernel) rfl, fun v t e => absurd (List.cons.inj e).1 (by decide)⟩
theorem z_rowC_4 : ∀ row, z_cT[4]? = some row → ∀ q ∈ row, z_qC (z_own 4) q := by
  intro row h
  cases h
  exact List.forall_mem_cons.mpr ⟨z_c_4_9, fun _ h => absurd h List.not_mem_nil⟩
theorem z_c_5_15 : z_qC "BellThatIsADoor$Maid" (15, [0, 5592405]) := ⟨fun v t e => by simp only [List.cons.injEq] at e; obtain ⟨-, rfl, -⟩ := e; exact z_inT 270 (by decide +kernel) rfl, fun v t e => absurd (List.cons.inj e).1 (by decide)⟩
theorem z_rowC_5 : ∀ row, z_cT[5]? = some row → ∀ q ∈ row, z_qC (z_own 5) q := by
  intro row h
  cases h
  exact List.forall_mem_cons.mpr ⟨z_c_5_15, fun _ h => absurd h List.not_mem_nil⟩
theorem z_rowC_6 : ∀ row, z_cT[6]? = some row → ∀ q ∈ row, z_qC (z_own 6) q := by
  intro row h
  cases h
  exact fun _ h => absurd h List.not_mem_nil
theorem z_rowC_7 : ∀ row, z_cT[7]? = some row → ∀ q ∈ row, z_qC (z_own 7) q := by
  intro row h
  cases h
  exact fun _ h => absurd h List.not_mem_nil
theorem z_rowC_8 : ∀ row, z_cT[8]? = some row → ∀ q ∈ row, z_qC (z_own 8) q := by
  intro row h
  cases h
  exact fun _ h => absurd h List.not_mem_nil
theorem z_rowC_9 : ∀ row, z_cT[9]? = some row → ∀ q ∈ row, z_qC (z_own 9) q := by
  intro row h
  cases h
  exact fun _ h => absurd h List.not_mem_nil
theorem z_rowC_10 : ∀ row, z_cT[10]? = some row → ∀ q ∈ row, z_qC (z_own 10) q := by
  intro row h
  cases h
  exact fun _ h => absurd h List.not_mem_nil
theorem z_c_11_286 : z_qC "BellThatIsADoor" (286, [1, 1000000000]) := ⟨fun v t e => absurd (List.cons.inj e).1 (by decide), fun v t e => by simp only [List.cons.injEq] at e; obtain ⟨-, rfl, -⟩ := e; exact z_inT 698 (by decide +kernel) rfl⟩
theorem z_c_11_365 : z_qC "BellThatIsADoor" (365, [0, 1103515245]) := ⟨fun v t e => by simp only [List.cons.injEq] at e; obtain ⟨-, rfl, -⟩ := e; exact z_inT 751 (by decide +kernel) rfl, fun v t e => absurd (List.cons.inj e).1 (by decide)⟩
theorem z_c_11_366 : z_qC "BellThatIsADoor" (366, [0, 2147483647]) := ⟨fun v t e => by simp only [List.cons.injEq] at e; obtain ⟨-, rfl, -⟩ := e; exact z_inT 755 (by decide +kernel) rfl, fun v t e => absurd (List.cons.inj e).1 (by decide)⟩
theorem z_c_11_367 : z_qC "BellThatIsADoor" (367, [0, 65536]) := ⟨fun v t e => by simp only [List.cons.injEq] at e; obtain ⟨-, rfl, -⟩ := e; exact z_inT 756 (by decide +kernel) rfl, fun v t e => absurd (List.cons.inj e).1 (by decide)⟩
theorem z_rowC_11 : ∀ row, z_cT[11]? = some row → ∀ q ∈ row, z_qC (z_own 11) q := by
  intro row h
  cases h
  exact List.forall_mem_cons.mpr ⟨z_c_11_286, List.forall_mem_cons.mpr ⟨z_c_11_365, List.forall_mem_cons.mpr ⟨z_c_11_366, List.forall_mem_cons.mpr ⟨z_c_11_367, fun _ h => absurd h List.not_mem_nil⟩⟩⟩⟩
theorem z_c_12_157 : z_qC "BellThatIsADoorModel" (157, [0, 1000000000]) := ⟨fun v t e => by simp only [List.cons.injEq] at e; obtain ⟨-, rfl, -⟩ := e; exact z_inT 1190 (by decide +kernel) rfl, fun v t e => absurd (List.cons.inj e).1 (by decide)⟩
theorem z_c_12_180 : z_qC "BellThatIsADoorModel" (180, [0, 2147483648]) := ⟨fun v t e => by simp only [List.cons.injEq] at e; obtain ⟨-, rfl, -⟩ := e; exact z_inT 1247 (by decide +kernel) rfl, fun v t e => absurd (List.cons.inj e).1 (by decide)⟩
theorem z_c_12_204 : z_qC "BellThatIsADoorModel" (204, [1, 1000000001]) := ⟨fun v t e => absurd (List.cons.inj e).1 (by decide), fun v t e => by simp only [List.cons.injEq] at e; obtain ⟨-, rfl, -⟩ := e; exact z_inT 1270 (by decide +kernel) rfl⟩
theorem z_c_12_216 : z_qC "BellThatIsADoorModel" (216, [0, 1103515245]) := ⟨fun v t e => by simp only [List.cons.injEq] at e; obtain ⟨-, rfl, -⟩ := e; exact z_inT 1309 (by decide +kernel) rfl, fun v t e => absurd (List.cons.inj e).1 (by decide)⟩
theorem z_c_12_217 : z_qC "BellThatIsADoorModel" (217, [0, 2147483647]) := ⟨fun v t e => by simp only [List.cons.injEq] at e; obtain ⟨-, rfl, -⟩ := e; exact z_inT 1310 (by decide +kernel) rfl, fun v t e => absurd (List.cons.inj e).1 (by decide)⟩
theorem z_c_12_218 : z_qC "BellThatIsADoorModel" (218, [0, 65536]) := ⟨fun v t e => by simp only [List.cons.injEq] at e; obtain ⟨-, rfl, -⟩ := e; exact z_inT 1311 (by decide +kernel) rfl, fun v t e => absurd (List.cons.inj e).1 (by decide)⟩
theorem z_rowC_12 : ∀ row, z_cT[12]? = some row → ∀ q ∈ row, z_qC (z_own 12) q := by
  intro row h
  cases h
  exact List.forall_mem_cons.mpr ⟨z_c_12_157, List.forall_mem_cons.mpr ⟨z_c_12_180, List.forall_mem_cons.mpr ⟨z_c_12_204, List.forall_mem_cons.mpr ⟨z_c_12_216, List.forall_mem_cons.mpr ⟨z_c_12_217, List.forall_mem_cons.mpr ⟨z_c_12_218, fun _ h => absurd h List.not_mem_nil⟩⟩⟩⟩⟩⟩
theorem z_c_13_265 : z_qC "java/lang/Integer" (265, [0, 1431655765]) := ⟨fun v t e => by simp only [List.cons.injEq] at e; obtain ⟨-, rfl, -⟩ := e; exact z_inT 617 (by decide +kernel) rfl, fun v t e => absurd (List.cons.inj e).1 (by decide)⟩
theorem z_c_13_266 : z_qC "java/lang/Integer" (266, [0, 858993459]) := ⟨fun v t e => by simp only [List.cons.injEq] at e; obtain ⟨-, rfl, -⟩ := e; exact z_inT 618 (by decide +kernel) rfl, fun v t e => absurd (List.cons.inj e).1 (by decide)⟩
theorem z_c_13_267 : z_qC "java/lang/Integer" (267, [0, 252645135]) := ⟨fun v t e => by simp only [List.cons.injEq] at e; obtain ⟨-, rfl, -⟩ := e; exact z_inT 619 (by decide +kernel) rfl, fun v t e => absurd (List.cons.inj e).1 (by decide)⟩
theorem z_rowC_13 : ∀ row, z_cT[13]? = some row → ∀ q ∈ row, z_qC (z_own 13) q := by
  intro row h
  cases h
  exact List.forall_mem_cons.mpr ⟨z_c_13_265, List.forall_mem_cons.mpr ⟨z_c_13_266, List.forall_mem_cons.mpr ⟨z_c_13_267, fun _ h => absurd h List.not_mem_nil⟩⟩⟩
theorem z_rowC_14 : ∀ row, z_cT[14]? = some row → ∀ q ∈ row, z_qC (z_own 14) q := by
  intro row h
  cases h
  exact fun _ h => absurd h List.not_mem_nil
theorem z_rowC : ∀ oc row, z_cT[oc]? = some row → ∀ q ∈ row, z_qC (z_own oc) q
  | 0 => z_rowC_0
  | 1 => z_rowC_1
  | 2 => z_rowC_2
  | 3 => z_rowC_3
  | 4 => z_rowC_4
  | 5 => z_rowC_5
  | 6 => z_rowC_6
  | 7 => z_rowC_7
  | 8 => z_rowC_8
  | 9 => z_rowC_9
  | 10 => z_rowC_10
  | 11 => z_rowC_11
  | 12 => z_rowC_12
  | 13 => z_rowC_13
  | 14 => z_rowC_14
  | _ + 15 => fun row h => by rw [List.getElem?_eq_none (by simp [z_cT])] at h; cases h
theorem z_okC (mid j : Nat) : z_OKC mid j := by
  constructor
  · intro v t h
    obtain ⟨row, h1, h2, h3⟩ := z_lk_in (T := z_cT) (by decide) h
    have h4 := (z_rowC _ row h1 _ h2).1 _ _ rfl
    rw [← h3] at h4
    exact h4
  · intro v t h
    obtain ⟨row, h1, h2, h3⟩ := z_lk_in (T := z_cT) (by decide) h
    have h4 := (z_rowC _ row h1 _ h2).2 _ _ rfl
    rw [← h3] at h4
    exact h4
def z_qN (own : String) (q : Nat × List Nat) : Prop := ∀ ci N t, q.2 = 0 :: ci :: N :: t → ∃ (C : String) (T : u_T) (ft : Nat → FieldType), z_cl[ci]? = some (C, T, N) ∧ z_clsOK C T N ft ∧ Jvm.Cond.classLink own q.1 C ∈ z_T ∧ Jvm.Cond.instantiable C N ∈ z_T ∧ Jvm.Cond.initialized C ∈ z_T ∧ ∀ q, q < N → defaultValue (ft q) = vp_V (z_blank ci) q
def z_qA (own : String) (q : Nat × List Nat) : Prop := ∀ ci t, q.2 = 1 :: ci :: t → Jvm.Cond.classLink own q.1 (z_cnm ci) ∈ z_T ∧ Jvm.Cond.arrayOver (.object (z_cnm ci)) ∈ z_N
theorem z_rowN_0 : ∀ row, z_nT[0]? = some row → ∀ q ∈ row, z_qN (z_own 0) q := by
  intro row h
  cases h
  exact fun _ h => absurd h List.not_mem_nil
theorem z_rowN_1 : ∀ row, z_nT[1]? = some row → ∀ q ∈ row, z_qN (z_own 1) q := by
  intro row h
  cases h
  exact fun _ h => absurd h List.not_mem_nil
theorem z_rowN_2 : ∀ row, z_nT[2]? = some row → ∀ q ∈ row, z_qN (z_own 2) q := by
  intro row h
  cases h
  exact fun _ h => absurd h List.not_mem_nil
theorem z_rowN_3 : ∀ row, z_nT[3]? = some row → ∀ q ∈ row, z_qN (z_own 3) q := by
  intro row h
  cases h
  exact fun _ h => absurd h List.not_mem_nil
theorem z_rowN_4 : ∀ row, z_nT[4]? = some row → ∀ q ∈ row, z_qN (z_own 4) q := by
  intro row h
  cases h
  exact fun _ h => absurd h List.not_mem_nil
theorem z_rowN_5 : ∀ row, z_nT[5]? = some row → ∀ q ∈ row, z_qN (z_own 5) q := by
  intro row h
  cases h
  exact fun _ h => absurd h List.not_mem_nil
theorem z_rowN_6 : ∀ row, z_nT[6]? = some row → ∀ q ∈ row, z_qN (z_own 6) q := by
  intro row h
  cases h
  exact fun _ h => absurd h List.not_mem_nil
theorem z_rowN_7 : ∀ row, z_nT[7]? = some row → ∀ q ∈ row, z_qN (z_own 7) q := by
  intro row h
  cases h
  exact fun _ h => absurd h List.not_mem_nil
theorem z_rowN_8 : ∀ row, z_nT[8]? = some row → ∀ q ∈ row, z_qN (z_own 8) q := by
  intro row h
  cases h
  exact fun _ h => absurd h List.not_mem_nil
theorem z_rowN_9 : ∀ row, z_nT[9]? = some row → ∀ q ∈ row, z_qN (z_own 9) q := by
  intro row h
  cases h
  exact fun _ h => absurd h List.not_mem_nil
theorem z_rowN_10 : ∀ row, z_nT[10]? = some row → ∀ q ∈ row, z_qN (z_own 10) q := by
  intro row h
  cases h
  exact fun _ h => absurd h List.not_mem_nil
theorem z_n_11_9 : z_qN "BellThatIsADoor" (9, [0, 8, 11]) := fun ci N t e => by simp only [List.cons.injEq] at e; obtain ⟨-, rfl, rfl, -⟩ := e; exact ⟨"BellThatIsADoor$Marsh", z_F8, z_t8, rfl, z_cok8, z_inT 74 (by decide +kernel) rfl, z_inT 75 (by decide +kernel) rfl, z_inT 45 (by decide +kernel) rfl, by decide +kernel⟩
theorem z_n_11_22 : z_qN "BellThatIsADoor" (22, [0, 0, 6]) := fun ci N t e => by simp only [List.cons.injEq] at e; obtain ⟨-, rfl, rfl, -⟩ := e; exact ⟨"BellThatIsADoor$Bell", z_F0, z_t0, rfl, z_cok0, z_inT 119 (by decide +kernel) rfl, z_inT 320 (by decide +kernel) rfl, z_inT 47 (by decide +kernel) rfl, by decide +kernel⟩
theorem z_n_11_31 : z_qN "BellThatIsADoor" (31, [0, 9, 2]) := fun ci N t e => by simp only [List.cons.injEq] at e; obtain ⟨-, rfl, rfl, -⟩ := e; exact ⟨"BellThatIsADoor$Row", z_F9, z_t9, rfl, z_cok9, z_inT 121 (by decide +kernel) rfl, z_inT 785 (by decide +kernel) rfl, z_inT 58 (by decide +kernel) rfl, by decide +kernel⟩
theorem z_n_11_37 : z_qN "BellThatIsADoor" (37, [0, 10, 5]) := fun ci N t e => by simp only [List.cons.injEq] at e; obtain ⟨-, rfl, rfl, -⟩ := e; exact ⟨"BellThatIsADoor$Errand", z_F10, z_t10, rfl, z_cok10, z_inT 123 (by decide +kernel) rfl, z_inT 124 (by decide +kernel) rfl, z_inT 46 (by decide +kernel) rfl, by decide +kernel⟩
theorem z_n_11_296 : z_qN "BellThatIsADoor" (296, [0, 3, 6]) := fun ci N t e => by simp only [List.cons.injEq] at e; obtain ⟨-, rfl, rfl, -⟩ := e; exact ⟨"BellThatIsADoor$Door", z_F3, z_t3, rfl, z_cok3, z_inT 148 (by decide +kernel) rfl, z_inT 149 (by decide +kernel) rfl, z_inT 48 (by decide +kernel) rfl, by decide +kernel⟩
theorem z_n_11_299 : z_qN "BellThatIsADoor" (299, [0, 1, 6]) := fun ci N t e => by simp only [List.cons.injEq] at e; obtain ⟨-, rfl, rfl, -⟩ := e; exact ⟨"BellThatIsADoor$Hen", z_F1, z_t1, rfl, z_cok1, z_inT 236 (by decide +kernel) rfl, z_inT 237 (by decide +kernel) rfl, z_inT 49 (by decide +kernel) rfl, by decide +kernel⟩
theorem z_n_11_302 : z_qN "BellThatIsADoor" (302, [0, 6, 6]) := fun ci N t e => by simp only [List.cons.injEq] at e; obtain ⟨-, rfl, rfl, -⟩ := e; exact ⟨"BellThatIsADoor$Cough", z_F6, z_t6, rfl, z_cok6, z_inT 250 (by decide +kernel) rfl, z_inT 251 (by decide +kernel) rfl, z_inT 50 (by decide +kernel) rfl, by decide +kernel⟩
theorem z_n_11_305 : z_qN "BellThatIsADoor" (305, [0, 4, 6]) := fun ci N t e => by simp only [List.cons.injEq] at e; obtain ⟨-, rfl, rfl, -⟩ := e; exact ⟨"BellThatIsADoor$Maid", z_F4, z_t4, rfl, z_cok4, z_inT 264 (by decide +kernel) rfl, z_inT 265 (by decide +kernel) rfl, z_inT 51 (by decide +kernel) rfl, by decide +kernel⟩
theorem z_n_11_308 : z_qN "BellThatIsADoor" (308, [0, 5, 6]) := fun ci N t e => by simp only [List.cons.injEq] at e; obtain ⟨-, rfl, rfl, -⟩ := e; exact ⟨"BellThatIsADoor$Suited", z_F5, z_t5, rfl, z_cok5, z_inT 278 (by decide +kernel) rfl, z_inT 279 (by decide +kernel) rfl, z_inT 52 (by decide +kernel) rfl, by decide +kernel⟩
theorem z_n_11_311 : z_qN "BellThatIsADoor" (311, [0, 2, 6]) := fun ci N t e => by simp only [List.cons.injEq] at e; obtain ⟨-, rfl, rfl, -⟩ := e; exact ⟨"BellThatIsADoor$Echo", z_F2, z_t2, rfl, z_cok2, z_inT 291 (by decide +kernel) rfl, z_inT 292 (by decide +kernel) rfl, z_inT 53 (by decide +kernel) rfl, by decide +kernel⟩
theorem z_n_11_314 : z_qN "BellThatIsADoor" (314, [0, 7, 6]) := fun ci N t e => by simp only [List.cons.injEq] at e; obtain ⟨-, rfl, rfl, -⟩ := e; exact ⟨"BellThatIsADoor$Marble", z_F7, z_t7, rfl, z_cok7, z_inT 307 (by decide +kernel) rfl, z_inT 308 (by decide +kernel) rfl, z_inT 55 (by decide +kernel) rfl, by decide +kernel⟩
theorem z_rowN_11 : ∀ row, z_nT[11]? = some row → ∀ q ∈ row, z_qN (z_own 11) q := by
  intro row h
  cases h
  exact List.forall_mem_cons.mpr ⟨z_n_11_9, List.forall_mem_cons.mpr ⟨z_n_11_22, List.forall_mem_cons.mpr ⟨z_n_11_31, List.forall_mem_cons.mpr ⟨z_n_11_37, List.forall_mem_cons.mpr ⟨z_n_11_296, List.forall_mem_cons.mpr ⟨z_n_11_299, List.forall_mem_cons.mpr ⟨z_n_11_302, List.forall_mem_cons.mpr ⟨z_n_11_305, List.forall_mem_cons.mpr ⟨z_n_11_308, List.forall_mem_cons.mpr ⟨z_n_11_311, List.forall_mem_cons.mpr ⟨z_n_11_314, fun _ h => absurd h List.not_mem_nil⟩⟩⟩⟩⟩⟩⟩⟩⟩⟩⟩
theorem z_rowN_12 : ∀ row, z_nT[12]? = some row → ∀ q ∈ row, z_qN (z_own 12) q := by
  intro row h
  cases h
  exact fun _ h => absurd h List.not_mem_nil
theorem z_rowN_13 : ∀ row, z_nT[13]? = some row → ∀ q ∈ row, z_qN (z_own 13) q := by
  intro row h
  cases h
  exact fun _ h => absurd h List.not_mem_nil
theorem z_n_14_8 : z_qN "BellThatIsADoorLaw" (8, [0, 11, 11]) := fun ci N t e => by simp only [List.cons.injEq] at e; obtain ⟨-, rfl, rfl, -⟩ := e; exact ⟨"BellThatIsADoor", z_F11, z_t11, rfl, z_cok11, z_inT 66 (by decide +kernel) rfl, z_inT 67 (by decide +kernel) rfl, z_inT 44 (by decide +kernel) rfl, by decide +kernel⟩
theorem z_n_14_18 : z_qN "BellThatIsADoorLaw" (18, [0, 12, 21]) := fun ci N t e => by simp only [List.cons.injEq] at e; obtain ⟨-, rfl, rfl, -⟩ := e; exact ⟨"BellThatIsADoorModel", z_F12, z_t12, rfl, z_cok12, z_inT 971 (by decide +kernel) rfl, z_inT 972 (by decide +kernel) rfl, z_inT 56 (by decide +kernel) rfl, by decide +kernel⟩
theorem z_rowN_14 : ∀ row, z_nT[14]? = some row → ∀ q ∈ row, z_qN (z_own 14) q := by
  intro row h
  cases h
  exact List.forall_mem_cons.mpr ⟨z_n_14_8, List.forall_mem_cons.mpr ⟨z_n_14_18, fun _ h => absurd h List.not_mem_nil⟩⟩
theorem z_rowN : ∀ oc row, z_nT[oc]? = some row → ∀ q ∈ row, z_qN (z_own oc) q
  | 0 => z_rowN_0
  | 1 => z_rowN_1
  | 2 => z_rowN_2
  | 3 => z_rowN_3
  | 4 => z_rowN_4
  | 5 => z_rowN_5
  | 6 => z_rowN_6
  | 7 => z_rowN_7
  | 8 => z_rowN_8
  | 9 => z_rowN_9
  | 10 => z_rowN_10
  | 11 => z_rowN_11
  | 12 => z_rowN_12
  | 13 => z_rowN_13
  | 14 => z_rowN_14
  | _ + 15 => fun row h => by rw [List.getElem?_eq_none (by simp [z_nT])] at h; cases h
theorem z_rowA_0 : ∀ row, z_aT[0]? = some row → ∀ q ∈ row, z_qA (z_own 0) q := by
  intro row h
  cases h
  exact fun _ h => absurd h List.not_mem_nil
theorem z_rowA_1 : ∀ row, z_aT[1]? = some row → ∀ q ∈ row, z_qA (z_own 1) q := by
  intro row h
  cases h
  exact fun _ h => absurd h List.not_mem_nil
theorem z_rowA_2 : ∀ row, z_aT[2]? = some row → ∀ q ∈ row, z_qA (z_own 2) q := by
  intro row h
  cases h
  exact fun _ h => absurd h List.not_mem_nil
theorem z_rowA_3 : ∀ row, z_aT[3]? = some row → ∀ q ∈ row, z_qA (z_own 3) q := by
  intro row h
  cases h
  exact fun _ h => absurd h List.not_mem_nil
theorem z_rowA_4 : ∀ row, z_aT[4]? = some row → ∀ q ∈ row, z_qA (z_own 4) q := by
  intro row h
  cases h
  exact fun _ h => absurd h List.not_mem_nil
theorem z_rowA_5 : ∀ row, z_aT[5]? = some row → ∀ q ∈ row, z_qA (z_own 5) q := by
  intro row h
  cases h
  exact fun _ h => absurd h List.not_mem_nil
theorem z_rowA_6 : ∀ row, z_aT[6]? = some row → ∀ q ∈ row, z_qA (z_own 6) q := by
  intro row h
  cases h
  exact fun _ h => absurd h List.not_mem_nil
theorem z_rowA_7 : ∀ row, z_aT[7]? = some row → ∀ q ∈ row, z_qA (z_own 7) q := by
  intro row h
  cases h
  exact fun _ h => absurd h List.not_mem_nil
theorem z_rowA_8 : ∀ row, z_aT[8]? = some row → ∀ q ∈ row, z_qA (z_own 8) q := by
  intro row h
  cases h
  exact fun _ h => absurd h List.not_mem_nil
theorem z_rowA_9 : ∀ row, z_aT[9]? = some row → ∀ q ∈ row, z_qA (z_own 9) q := by
  intro row h
  cases h
  exact fun _ h => absurd h List.not_mem_nil
theorem z_rowA_10 : ∀ row, z_aT[10]? = some row → ∀ q ∈ row, z_qA (z_own 10) q := by
  intro row h
  cases h
  exact fun _ h => absurd h List.not_mem_nil
theorem z_a_11_22 : z_qA "BellThatIsADoor" (22, [1, 0]) := fun ci t e => by simp only [List.cons.injEq] at e; obtain ⟨-, rfl, -⟩ := e; exact ⟨z_inT 119 (by decide +kernel) rfl, z_inN 120 (by decide +kernel) rfl⟩
theorem z_a_11_31 : z_qA "BellThatIsADoor" (31, [1, 9]) := fun ci t e => by simp only [List.cons.injEq] at e; obtain ⟨-, rfl, -⟩ := e; exact ⟨z_inT 121 (by decide +kernel) rfl, z_inN 122 (by decide +kernel) rfl⟩
theorem z_rowA_11 : ∀ row, z_aT[11]? = some row → ∀ q ∈ row, z_qA (z_own 11) q := by
  intro row h
  cases h
  exact List.forall_mem_cons.mpr ⟨z_a_11_22, List.forall_mem_cons.mpr ⟨z_a_11_31, fun _ h => absurd h List.not_mem_nil⟩⟩
theorem z_rowA_12 : ∀ row, z_aT[12]? = some row → ∀ q ∈ row, z_qA (z_own 12) q := by
  intro row h
  cases h
  exact fun _ h => absurd h List.not_mem_nil
theorem z_rowA_13 : ∀ row, z_aT[13]? = some row → ∀ q ∈ row, z_qA (z_own 13) q := by
  intro row h
  cases h
  exact fun _ h => absurd h List.not_mem_nil
theorem z_rowA_14 : ∀ row, z_aT[14]? = some row → ∀ q ∈ row, z_qA (z_own 14) q := by
  intro row h
  cases h
  exact fun _ h => absurd h List.not_mem_nil
theorem z_rowA : ∀ oc row, z_aT[oc]? = some row → ∀ q ∈ row, z_qA (z_own oc) q
  | 0 => z_rowA_0
  | 1 => z_rowA_1
  | 2 => z_rowA_2
  | 3 => z_rowA_3
  | 4 => z_rowA_4
  | 5 => z_rowA_5
  | 6 => z_rowA_6
  | 7 => z_rowA_7
  | 8 => z_rowA_8
  | 9 => z_rowA_9
  | 10 => z_rowA_10
  | 11 => z_rowA_11
  | 12 => z_rowA_12
  | 13 => z_rowA_13
  | 14 => z_rowA_14
  | _ + 15 => fun row h => by rw [List.getElem?_eq_none (by simp [z_aT])] at h; cases h
theorem z_okN (mid j : Nat) : z_OKN mid j := by
  constructor
  · intro ci N t h
    obtain ⟨row, h1, h2, h3⟩ := z_lk_in (T := z_nT) (by decide) h
    have h4 := z_rowN _ row h1 _ h2 _ _ _ rfl
    rw [← h3] at h4
    exact h4
  · intro ci t h
    obtain ⟨row, h1, h2, h3⟩ := z_lk_in (T := z_aT) (by decide) h
    have h4 := z_rowA _ row h1 _ h2 _ _ rfl
    rw [← h3] at h4
    exact h4
theorem z_okI : z_OKI := ⟨z_inT 118 (by decide +kernel) rfl, z_inT 235 (by decide +kernel) rfl⟩
theorem z_okT : z_OKT := by
  intro C ci h
  unfold z_takes at h
  simp only [Bool.or_eq_true, Bool.and_eq_true, beq_iff_eq, decide_eq_true_eq] at h
  rcases h with ⟨rfl, h⟩ | ⟨rfl, rfl⟩
  · have hc : ci = 0 ∨ ci = 1 ∨ ci = 2 ∨ ci = 3 ∨ ci = 4 ∨ ci = 5 ∨ ci = 6 ∨ ci = 7 := by omega
    rcases hc with rfl | rfl | rfl | rfl | rfl | rfl | rfl | rfl
    · exact ⟨"BellThatIsADoor$Bell", z_F0, 6, rfl, Or.inl rfl⟩
    · exact ⟨"BellThatIsADoor$Hen", z_F1, 6, rfl, Or.inr (z_inN 1361 (by decide +kernel) rfl)⟩
    · exact ⟨"BellThatIsADoor$Echo", z_F2, 6, rfl, Or.inr (z_inN 1365 (by decide +kernel) rfl)⟩
    · exact ⟨"BellThatIsADoor$Door", z_F3, 6, rfl, Or.inr (z_inN 1360 (by decide +kernel) rfl)⟩
    · exact ⟨"BellThatIsADoor$Maid", z_F4, 6, rfl, Or.inr (z_inN 1363 (by decide +kernel) rfl)⟩
    · exact ⟨"BellThatIsADoor$Suited", z_F5, 6, rfl, Or.inr (z_inN 1364 (by decide +kernel) rfl)⟩
    · exact ⟨"BellThatIsADoor$Cough", z_F6, 6, rfl, Or.inr (z_inN 1362 (by decide +kernel) rfl)⟩
    · exact ⟨"BellThatIsADoor$Marble", z_F7, 6, rfl, Or.inr (z_inN 1366 (by decide +kernel) rfl)⟩
  · exact ⟨"BellThatIsADoor$Row", z_F9, 2, rfl, Or.inl rfl⟩
theorem z_okJ : z_OKJ := ⟨⟨z_inT 72 (by decide +kernel) rfl, z_inT 73 (by decide +kernel) rfl⟩, z_inT 54 (by decide +kernel) rfl, ⟨z_inT 298 (by decide +kernel) rfl, z_inT 299 (by decide +kernel) rfl⟩, ⟨z_inT 445 (by decide +kernel) rfl, z_inT 446 (by decide +kernel) rfl⟩, ⟨z_inT 581 (by decide +kernel) rfl, z_inT 582 (by decide +kernel) rfl⟩, z_inT 823 (by decide +kernel) rfl, z_inT 822 (by decide +kernel) rfl, z_inT 64 (by decide +kernel) rfl⟩
theorem z_y0 : Jvm.Cond.code (z_nm 0) (z_by 0) (z_ml 0) (z_rt 0) ∈ z_T ∧ Jvm.Cond.initialized (z_nm 0).cls ∈ z_T ∧ (z_nm 0).cls ≠ "java/lang/invoke/MethodHandle" ∧ (z_nm 0).cls ≠ "java/lang/invoke/VarHandle" ∧ z_ml 0 ≤ 21 ∧ z_OKY 0 := ⟨z_inT 788 (by decide +kernel) rfl, z_inT 58 (by decide +kernel) rfl, by decide +kernel, by decide +kernel, by decide +kernel, by decide +kernel, by decide +kernel, by decide +kernel, fun h => absurd h (by decide +kernel)⟩
theorem z_y1 : Jvm.Cond.code (z_nm 1) (z_by 1) (z_ml 1) (z_rt 1) ∈ z_T ∧ Jvm.Cond.initialized (z_nm 1).cls ∈ z_T ∧ (z_nm 1).cls ≠ "java/lang/invoke/MethodHandle" ∧ (z_nm 1).cls ≠ "java/lang/invoke/VarHandle" ∧ z_ml 1 ≤ 21 ∧ z_OKY 1 := ⟨z_inT 398 (by decide +kernel) rfl, z_inT 58 (by decide +kernel) rfl, by decide +kernel, by decide +kernel, by decide +kernel, by decide +kernel, by decide +kernel, by decide +kernel, fun h => absurd h (by decide +kernel)⟩
theorem z_y2 : Jvm.Cond.code (z_nm 2) (z_by 2) (z_ml 2) (z_rt 2) ∈ z_T ∧ Jvm.Cond.initialized (z_nm 2).cls ∈ z_T ∧ (z_nm 2).cls ≠ "java/lang/invoke/MethodHandle" ∧ (z_nm 2).cls ≠ "java/lang/invoke/VarHandle" ∧ z_ml 2 ≤ 21 ∧ z_OKY 2 := ⟨z_inT 388 (by decide +kernel) rfl, z_inT 58 (by decide +kernel) rfl, by decide +kernel, by decide +kernel, by decide +kernel, by decide +kernel, by decide +kernel, by decide +kernel, fun h => absurd h (by decide +kernel)⟩
theorem z_y3 : Jvm.Cond.code (z_nm 3) (z_by 3) (z_ml 3) (z_rt 3) ∈ z_T ∧ Jvm.Cond.initialized (z_nm 3).cls ∈ z_T ∧ (z_nm 3).cls ≠ "java/lang/invoke/MethodHandle" ∧ (z_nm 3).cls ≠ "java/lang/invoke/VarHandle" ∧ z_ml 3 ≤ 21 ∧ z_OKY 3 := ⟨z_inT 820 (by decide +kernel) rfl, z_inT 58 (by decide +kernel) rfl, by decide +kernel, by decide +kernel, by decide +kernel, by decide +kernel, by decide +kernel, by decide +kernel, fun h => absurd h (by decide +kernel)⟩
theorem z_y4 : Jvm.Cond.code (z_nm 4) (z_by 4) (z_ml 4) (z_rt 4) ∈ z_T ∧ Jvm.Cond.initialized (z_nm 4).cls ∈ z_T ∧ (z_nm 4).cls ≠ "java/lang/invoke/MethodHandle" ∧ (z_nm 4).cls ≠ "java/lang/invoke/VarHandle" ∧ z_ml 4 ≤ 21 ∧ z_OKY 4 := ⟨z_inT 384 (by decide +kernel) rfl, z_inT 58 (by decide +kernel) rfl, by decide +kernel, by decide +kernel, by decide +kernel, by decide +kernel, by decide +kernel, by decide +kernel, fun h => absurd h (by decide +kernel)⟩
theorem z_y5 : Jvm.Cond.code (z_nm 5) (z_by 5) (z_ml 5) (z_rt 5) ∈ z_T ∧ Jvm.Cond.initialized (z_nm 5).cls ∈ z_T ∧ (z_nm 5).cls ≠ "java/lang/invoke/MethodHandle" ∧ (z_nm 5).cls ≠ "java/lang/invoke/VarHandle" ∧ z_ml 5 ≤ 21 ∧ z_OKY 5 := ⟨z_inT 808 (by decide +kernel) rfl, z_inT 58 (by decide +kernel) rfl, by decide +kernel, by decide +kernel, by decide +kernel, by decide +kernel, by decide +kernel, by decide +kernel, fun h => absurd h (by decide +kernel)⟩
theorem z_y6 : Jvm.Cond.code (z_nm 6) (z_by 6) (z_ml 6) (z_rt 6) ∈ z_T ∧ Jvm.Cond.initialized (z_nm 6).cls ∈ z_T ∧ (z_nm 6).cls ≠ "java/lang/invoke/MethodHandle" ∧ (z_nm 6).cls ≠ "java/lang/invoke/VarHandle" ∧ z_ml 6 ≤ 21 ∧ z_OKY 6 := ⟨z_inT 657 (by decide +kernel) rfl, z_inT 58 (by decide +kernel) rfl, by decide +kernel, by decide +kernel, by decide +kernel, by decide +kernel, by decide +kernel, by decide +kernel, fun h => absurd h (by decide +kernel)⟩
theorem z_y7 : Jvm.Cond.code (z_nm 7) (z_by 7) (z_ml 7) (z_rt 7) ∈ z_T ∧ Jvm.Cond.initialized (z_nm 7).cls ∈ z_T ∧ (z_nm 7).cls ≠ "java/lang/invoke/MethodHandle" ∧ (z_nm 7).cls ≠ "java/lang/invoke/VarHandle" ∧ z_ml 7 ≤ 21 ∧ z_OKY 7 := ⟨z_inT 155 (by decide +kernel) rfl, z_inT 47 (by decide +kernel) rfl, by decide +kernel, by decide +kernel, by decide +kernel, by decide +kernel, by decide +kernel, by decide +kernel, fun h => absurd h (by decide +kernel)⟩
theorem z_y8 : Jvm.Cond.code (z_nm 8) (z_by 8) (z_ml 8) (z_rt 8) ∈ z_T ∧ Jvm.Cond.initialized (z_nm 8).cls ∈ z_T ∧ (z_nm 8).cls ≠ "java/lang/invoke/MethodHandle" ∧ (z_nm 8).cls ≠ "java/lang/invoke/VarHandle" ∧ z_ml 8 ≤ 21 ∧ z_OKY 8 := ⟨z_inT 152 (by decide +kernel) rfl, z_inT 48 (by decide +kernel) rfl, by decide +kernel, by decide +kernel, by decide +kernel, by decide +kernel, by decide +kernel, by decide +kernel, fun h => absurd h (by decide +kernel)⟩
theorem z_y9 : Jvm.Cond.code (z_nm 9) (z_by 9) (z_ml 9) (z_rt 9) ∈ z_T ∧ Jvm.Cond.initialized (z_nm 9).cls ∈ z_T ∧ (z_nm 9).cls ≠ "java/lang/invoke/MethodHandle" ∧ (z_nm 9).cls ≠ "java/lang/invoke/VarHandle" ∧ z_ml 9 ≤ 21 ∧ z_OKY 9 := ⟨z_inT 240 (by decide +kernel) rfl, z_inT 49 (by decide +kernel) rfl, by decide +kernel, by decide +kernel, by decide +kernel, by decide +kernel, by decide +kernel, by decide +kernel, fun h => absurd h (by decide +kernel)⟩
theorem z_y10 : Jvm.Cond.code (z_nm 10) (z_by 10) (z_ml 10) (z_rt 10) ∈ z_T ∧ Jvm.Cond.initialized (z_nm 10).cls ∈ z_T ∧ (z_nm 10).cls ≠ "java/lang/invoke/MethodHandle" ∧ (z_nm 10).cls ≠ "java/lang/invoke/VarHandle" ∧ z_ml 10 ≤ 21 ∧ z_OKY 10 := ⟨z_inT 254 (by decide +kernel) rfl, z_inT 50 (by decide +kernel) rfl, by decide +kernel, by decide +kernel, by decide +kernel, by decide +kernel, by decide +kernel, by decide +kernel, fun h => absurd h (by decide +kernel)⟩
theorem z_y11 : Jvm.Cond.code (z_nm 11) (z_by 11) (z_ml 11) (z_rt 11) ∈ z_T ∧ Jvm.Cond.initialized (z_nm 11).cls ∈ z_T ∧ (z_nm 11).cls ≠ "java/lang/invoke/MethodHandle" ∧ (z_nm 11).cls ≠ "java/lang/invoke/VarHandle" ∧ z_ml 11 ≤ 21 ∧ z_OKY 11 := ⟨z_inT 268 (by decide +kernel) rfl, z_inT 51 (by decide +kernel) rfl, by decide +kernel, by decide +kernel, by decide +kernel, by decide +kernel, by decide +kernel, by decide +kernel, fun h => absurd h (by decide +kernel)⟩
theorem z_y12 : Jvm.Cond.code (z_nm 12) (z_by 12) (z_ml 12) (z_rt 12) ∈ z_T ∧ Jvm.Cond.initialized (z_nm 12).cls ∈ z_T ∧ (z_nm 12).cls ≠ "java/lang/invoke/MethodHandle" ∧ (z_nm 12).cls ≠ "java/lang/invoke/VarHandle" ∧ z_ml 12 ≤ 21 ∧ z_OKY 12 := ⟨z_inT 282 (by decide +kernel) rfl, z_inT 52 (by decide +kernel) rfl, by decide +kernel, by decide +kernel, by decide +kernel, by decide +kernel, by decide +kernel, by decide +kernel, fun h => absurd h (by decide +kernel)⟩
theorem z_y13 : Jvm.Cond.code (z_nm 13) (z_by 13) (z_ml 13) (z_rt 13) ∈ z_T ∧ Jvm.Cond.initialized (z_nm 13).cls ∈ z_T ∧ (z_nm 13).cls ≠ "java/lang/invoke/MethodHandle" ∧ (z_nm 13).cls ≠ "java/lang/invoke/VarHandle" ∧ z_ml 13 ≤ 21 ∧ z_OKY 13 := ⟨z_inT 295 (by decide +kernel) rfl, z_inT 53 (by decide +kernel) rfl, by decide +kernel, by decide +kernel, by decide +kernel, by decide +kernel, by decide +kernel, by decide +kernel, fun h => absurd h (by decide +kernel)⟩
theorem z_y14 : Jvm.Cond.code (z_nm 14) (z_by 14) (z_ml 14) (z_rt 14) ∈ z_T ∧ Jvm.Cond.initialized (z_nm 14).cls ∈ z_T ∧ (z_nm 14).cls ≠ "java/lang/invoke/MethodHandle" ∧ (z_nm 14).cls ≠ "java/lang/invoke/VarHandle" ∧ z_ml 14 ≤ 21 ∧ z_OKY 14 := ⟨z_inT 311 (by decide +kernel) rfl, z_inT 55 (by decide +kernel) rfl, by decide +kernel, by decide +kernel, by decide +kernel, by decide +kernel, by decide +kernel, by decide +kernel, fun h => absurd h (by decide +kernel)⟩
theorem z_y15 : Jvm.Cond.code (z_nm 15) (z_by 15) (z_ml 15) (z_rt 15) ∈ z_T ∧ Jvm.Cond.initialized (z_nm 15).cls ∈ z_T ∧ (z_nm 15).cls ≠ "java/lang/invoke/MethodHandle" ∧ (z_nm 15).cls ≠ "java/lang/invoke/VarHandle" ∧ z_ml 15 ≤ 21 ∧ z_OKY 15 := ⟨z_inT 78 (by decide +kernel) rfl, z_inT 45 (by decide +kernel) rfl, by decide +kernel, by decide +kernel, by decide +kernel, by decide +kernel, by decide +kernel, by decide +kernel, fun h => absurd h (by decide +kernel)⟩
theorem z_y16 : Jvm.Cond.code (z_nm 16) (z_by 16) (z_ml 16) (z_rt 16) ∈ z_T ∧ Jvm.Cond.initialized (z_nm 16).cls ∈ z_T ∧ (z_nm 16).cls ≠ "java/lang/invoke/MethodHandle" ∧ (z_nm 16).cls ≠ "java/lang/invoke/VarHandle" ∧ z_ml 16 ≤ 21 ∧ z_OKY 16 := ⟨z_inT 406 (by decide +kernel) rfl, z_inT 45 (by decide +kernel) rfl, by decide +kernel, by decide +kernel, by decide +kernel, by decide +kernel, by decide +kernel, by decide +kernel, fun h => absurd h (by decide +kernel)⟩
theorem z_y17 : Jvm.Cond.code (z_nm 17) (z_by 17) (z_ml 17) (z_rt 17) ∈ z_T ∧ Jvm.Cond.initialized (z_nm 17).cls ∈ z_T ∧ (z_nm 17).cls ≠ "java/lang/invoke/MethodHandle" ∧ (z_nm 17).cls ≠ "java/lang/invoke/VarHandle" ∧ z_ml 17 ≤ 21 ∧ z_OKY 17 := ⟨z_inT 652 (by decide +kernel) rfl, z_inT 45 (by decide +kernel) rfl, by decide +kernel, by decide +kernel, by decide +kernel, by decide +kernel, by decide +kernel, by decide +kernel, fun h => absurd h (by decide +kernel)⟩
theorem z_y18 : Jvm.Cond.code (z_nm 18) (z_by 18) (z_ml 18) (z_rt 18) ∈ z_T ∧ Jvm.Cond.initialized (z_nm 18).cls ∈ z_T ∧ (z_nm 18).cls ≠ "java/lang/invoke/MethodHandle" ∧ (z_nm 18).cls ≠ "java/lang/invoke/VarHandle" ∧ z_ml 18 ≤ 21 ∧ z_OKY 18 := ⟨z_inT 435 (by decide +kernel) rfl, z_inT 45 (by decide +kernel) rfl, by decide +kernel, by decide +kernel, by decide +kernel, by decide +kernel, by decide +kernel, by decide +kernel, fun h => absurd h (by decide +kernel)⟩
theorem z_y19 : Jvm.Cond.code (z_nm 19) (z_by 19) (z_ml 19) (z_rt 19) ∈ z_T ∧ Jvm.Cond.initialized (z_nm 19).cls ∈ z_T ∧ (z_nm 19).cls ≠ "java/lang/invoke/MethodHandle" ∧ (z_nm 19).cls ≠ "java/lang/invoke/VarHandle" ∧ z_ml 19 ≤ 21 ∧ z_OKY 19 := ⟨z_inT 427 (by decide +kernel) rfl, z_inT 45 (by decide +kernel) rfl, by decide +kernel, by decide +kernel, by decide +kernel, by decide +kernel, by decide +kernel, by decide +kernel, fun h => absurd h (by decide +kernel)⟩
theorem z_y20 : Jvm.Cond.code (z_nm 20) (z_by 20) (z_ml 20) (z_rt 20) ∈ z_T ∧ Jvm.Cond.initialized (z_nm 20).cls ∈ z_T ∧ (z_nm 20).cls ≠ "java/lang/invoke/MethodHandle" ∧ (z_nm 20).cls ≠ "java/lang/invoke/VarHandle" ∧ z_ml 20 ≤ 21 ∧ z_OKY 20 := ⟨z_inT 464 (by decide +kernel) rfl, z_inT 45 (by decide +kernel) rfl, by decide +kernel, by decide +kernel, by decide +kernel, by decide +kernel, by decide +kernel, by decide +kernel, fun h => absurd h (by decide +kernel)⟩
theorem z_y21 : Jvm.Cond.code (z_nm 21) (z_by 21) (z_ml 21) (z_rt 21) ∈ z_T ∧ Jvm.Cond.initialized (z_nm 21).cls ∈ z_T ∧ (z_nm 21).cls ≠ "java/lang/invoke/MethodHandle" ∧ (z_nm 21).cls ≠ "java/lang/invoke/VarHandle" ∧ z_ml 21 ≤ 21 ∧ z_OKY 21 := ⟨z_inT 666 (by decide +kernel) rfl, z_inT 45 (by decide +kernel) rfl, by decide +kernel, by decide +kernel, by decide +kernel, by decide +kernel, by decide +kernel, by decide +kernel, fun h => absurd h (by decide +kernel)⟩
theorem z_y22 : Jvm.Cond.code (z_nm 22) (z_by 22) (z_ml 22) (z_rt 22) ∈ z_T ∧ Jvm.Cond.initialized (z_nm 22).cls ∈ z_T ∧ (z_nm 22).cls ≠ "java/lang/invoke/MethodHandle" ∧ (z_nm 22).cls ≠ "java/lang/invoke/VarHandle" ∧ z_ml 22 ≤ 21 ∧ z_OKY 22 := ⟨z_inT 643 (by decide +kernel) rfl, z_inT 45 (by decide +kernel) rfl, by decide +kernel, by decide +kernel, by decide +kernel, by decide +kernel, by decide +kernel, by decide +kernel, fun h => absurd h (by decide +kernel)⟩
theorem z_y23 : Jvm.Cond.code (z_nm 23) (z_by 23) (z_ml 23) (z_rt 23) ∈ z_T ∧ Jvm.Cond.initialized (z_nm 23).cls ∈ z_T ∧ (z_nm 23).cls ≠ "java/lang/invoke/MethodHandle" ∧ (z_nm 23).cls ≠ "java/lang/invoke/VarHandle" ∧ z_ml 23 ≤ 21 ∧ z_OKY 23 := ⟨z_inT 579 (by decide +kernel) rfl, z_inT 45 (by decide +kernel) rfl, by decide +kernel, by decide +kernel, by decide +kernel, by decide +kernel, by decide +kernel, by decide +kernel, fun h => absurd h (by decide +kernel)⟩
theorem z_y24 : Jvm.Cond.code (z_nm 24) (z_by 24) (z_ml 24) (z_rt 24) ∈ z_T ∧ Jvm.Cond.initialized (z_nm 24).cls ∈ z_T ∧ (z_nm 24).cls ≠ "java/lang/invoke/MethodHandle" ∧ (z_nm 24).cls ≠ "java/lang/invoke/VarHandle" ∧ z_ml 24 ≤ 21 ∧ z_OKY 24 := ⟨z_inT 543 (by decide +kernel) rfl, z_inT 45 (by decide +kernel) rfl, by decide +kernel, by decide +kernel, by decide +kernel, by decide +kernel, by decide +kernel, by decide +kernel, fun h => absurd h (by decide +kernel)⟩
theorem z_y25 : Jvm.Cond.code (z_nm 25) (z_by 25) (z_ml 25) (z_rt 25) ∈ z_T ∧ Jvm.Cond.initialized (z_nm 25).cls ∈ z_T ∧ (z_nm 25).cls ≠ "java/lang/invoke/MethodHandle" ∧ (z_nm 25).cls ≠ "java/lang/invoke/VarHandle" ∧ z_ml 25 ≤ 21 ∧ z_OKY 25 := ⟨z_inT 538 (by decide +kernel) rfl, z_inT 45 (by decide +kernel) rfl, by decide +kernel, by decide +kernel, by decide +kernel, by decide +kernel, by decide +kernel, by decide +kernel, fun h => absurd h (by decide +kernel)⟩
theorem z_y26 : Jvm.Cond.code (z_nm 26) (z_by 26) (z_ml 26) (z_rt 26) ∈ z_T ∧ Jvm.Cond.initialized (z_nm 26).cls ∈ z_T ∧ (z_nm 26).cls ≠ "java/lang/invoke/MethodHandle" ∧ (z_nm 26).cls ≠ "java/lang/invoke/VarHandle" ∧ z_ml 26 ≤ 21 ∧ z_OKY 26 := ⟨z_inT 534 (by decide +kernel) rfl, z_inT 45 (by decide +kernel) rfl, by decide +kernel, by decide +kernel, by decide +kernel, by decide +kernel, by decide +kernel, by decide +kernel, fun h => absurd h (by decide +kernel)⟩
theorem z_y27 : Jvm.Cond.code (z_nm 27) (z_by 27) (z_ml 27) (z_rt 27) ∈ z_T ∧ Jvm.Cond.initialized (z_nm 27).cls ∈ z_T ∧ (z_nm 27).cls ≠ "java/lang/invoke/MethodHandle" ∧ (z_nm 27).cls ≠ "java/lang/invoke/VarHandle" ∧ z_ml 27 ≤ 21 ∧ z_OKY 27 := ⟨z_inT 575 (by decide +kernel) rfl, z_inT 45 (by decide +kernel) rfl, by decide +kernel, by decide +kernel, by decide +kernel, by decide +kernel, by decide +kernel, by decide +kernel, fun h => absurd h (by decide +kernel)⟩
theorem z_y28 : Jvm.Cond.code (z_nm 28) (z_by 28) (z_ml 28) (z_rt 28) ∈ z_T ∧ Jvm.Cond.initialized (z_nm 28).cls ∈ z_T ∧ (z_nm 28).cls ≠ "java/lang/invoke/MethodHandle" ∧ (z_nm 28).cls ≠ "java/lang/invoke/VarHandle" ∧ z_ml 28 ≤ 21 ∧ z_OKY 28 := ⟨z_inT 454 (by decide +kernel) rfl, z_inT 45 (by decide +kernel) rfl, by decide +kernel, by decide +kernel, by decide +kernel, by decide +kernel, by decide +kernel, by decide +kernel, fun h => absurd h (by decide +kernel)⟩
theorem z_y29 : Jvm.Cond.code (z_nm 29) (z_by 29) (z_ml 29) (z_rt 29) ∈ z_T ∧ Jvm.Cond.initialized (z_nm 29).cls ∈ z_T ∧ (z_nm 29).cls ≠ "java/lang/invoke/MethodHandle" ∧ (z_nm 29).cls ≠ "java/lang/invoke/VarHandle" ∧ z_ml 29 ≤ 21 ∧ z_OKY 29 := ⟨z_inT 443 (by decide +kernel) rfl, z_inT 45 (by decide +kernel) rfl, by decide +kernel, by decide +kernel, by decide +kernel, by decide +kernel, by decide +kernel, by decide +kernel, fun h => absurd h (by decide +kernel)⟩
theorem z_y30 : Jvm.Cond.code (z_nm 30) (z_by 30) (z_ml 30) (z_rt 30) ∈ z_T ∧ Jvm.Cond.initialized (z_nm 30).cls ∈ z_T ∧ (z_nm 30).cls ≠ "java/lang/invoke/MethodHandle" ∧ (z_nm 30).cls ≠ "java/lang/invoke/VarHandle" ∧ z_ml 30 ≤ 21 ∧ z_OKY 30 := ⟨z_inT 499 (by decide +kernel) rfl, z_inT 45 (by decide +kernel) rfl, by decide +kernel, by decide +kernel, by decide +kernel, by decide +kernel, by decide +kernel, by decide +kernel, fun h => absurd h (by decide +kernel)⟩
theorem z_y31 : Jvm.Cond.code (z_nm 31) (z_by 31) (z_ml 31) (z_rt 31) ∈ z_T ∧ Jvm.Cond.initialized (z_nm 31).cls ∈ z_T ∧ (z_nm 31).cls ≠ "java/lang/invoke/MethodHandle" ∧ (z_nm 31).cls ≠ "java/lang/invoke/VarHandle" ∧ z_ml 31 ≤ 21 ∧ z_OKY 31 := ⟨z_inT 507 (by decide +kernel) rfl, z_inT 45 (by decide +kernel) rfl, by decide +kernel, by decide +kernel, by decide +kernel, by decide +kernel, by decide +kernel, by decide +kernel, fun h => absurd h (by decide +kernel)⟩
theorem z_y32 : Jvm.Cond.code (z_nm 32) (z_by 32) (z_ml 32) (z_rt 32) ∈ z_T ∧ Jvm.Cond.initialized (z_nm 32).cls ∈ z_T ∧ (z_nm 32).cls ≠ "java/lang/invoke/MethodHandle" ∧ (z_nm 32).cls ≠ "java/lang/invoke/VarHandle" ∧ z_ml 32 ≤ 21 ∧ z_OKY 32 := ⟨z_inT 431 (by decide +kernel) rfl, z_inT 45 (by decide +kernel) rfl, by decide +kernel, by decide +kernel, by decide +kernel, by decide +kernel, by decide +kernel, by decide +kernel, fun h => absurd h (by decide +kernel)⟩
theorem z_y33 : Jvm.Cond.code (z_nm 33) (z_by 33) (z_ml 33) (z_rt 33) ∈ z_T ∧ Jvm.Cond.initialized (z_nm 33).cls ∈ z_T ∧ (z_nm 33).cls ≠ "java/lang/invoke/MethodHandle" ∧ (z_nm 33).cls ≠ "java/lang/invoke/VarHandle" ∧ z_ml 33 ≤ 21 ∧ z_OKY 33 := ⟨z_inT 439 (by decide +kernel) rfl, z_inT 45 (by decide +kernel) rfl, by decide +kernel, by decide +kernel, by decide +kernel, by decide +kernel, by decide +kernel, by decide +kernel, fun h => absurd h (by decide +kernel)⟩
theorem z_y34 : Jvm.Cond.code (z_nm 34) (z_by 34) (z_ml 34) (z_rt 34) ∈ z_T ∧ Jvm.Cond.initialized (z_nm 34).cls ∈ z_T ∧ (z_nm 34).cls ≠ "java/lang/invoke/MethodHandle" ∧ (z_nm 34).cls ≠ "java/lang/invoke/VarHandle" ∧ z_ml 34 ≤ 21 ∧ z_OKY 34 := ⟨z_inT 522 (by decide +kernel) rfl, z_inT 45 (by decide +kernel) rfl, by decide +kernel, by decide +kernel, by decide +kernel, by decide +kernel, by decide +kernel, by decide +kernel, fun h => absurd h (by decide +kernel)⟩
theorem z_y35 : Jvm.Cond.code (z_nm 35) (z_by 35) (z_ml 35) (z_rt 35) ∈ z_T ∧ Jvm.Cond.initialized (z_nm 35).cls ∈ z_T ∧ (z_nm 35).cls ≠ "java/lang/invoke/MethodHandle" ∧ (z_nm 35).cls ≠ "java/lang/invoke/VarHandle" ∧ z_ml 35 ≤ 21 ∧ z_OKY 35 := ⟨z_inT 450 (by decide +kernel) rfl, z_inT 45 (by decide +kernel) rfl, by decide +kernel, by decide +kernel, by decide +kernel, by decide +kernel, by decide +kernel, by decide +kernel, fun h => absurd h (by decide +kernel)⟩
theorem z_y36 : Jvm.Cond.code (z_nm 36) (z_by 36) (z_ml 36) (z_rt 36) ∈ z_T ∧ Jvm.Cond.initialized (z_nm 36).cls ∈ z_T ∧ (z_nm 36).cls ≠ "java/lang/invoke/MethodHandle" ∧ (z_nm 36).cls ≠ "java/lang/invoke/VarHandle" ∧ z_ml 36 ≤ 21 ∧ z_OKY 36 := ⟨z_inT 530 (by decide +kernel) rfl, z_inT 45 (by decide +kernel) rfl, by decide +kernel, by decide +kernel, by decide +kernel, by decide +kernel, by decide +kernel, by decide +kernel, fun h => absurd h (by decide +kernel)⟩
theorem z_y37 : Jvm.Cond.code (z_nm 37) (z_by 37) (z_ml 37) (z_rt 37) ∈ z_T ∧ Jvm.Cond.initialized (z_nm 37).cls ∈ z_T ∧ (z_nm 37).cls ≠ "java/lang/invoke/MethodHandle" ∧ (z_nm 37).cls ≠ "java/lang/invoke/VarHandle" ∧ z_ml 37 ≤ 21 ∧ z_OKY 37 := ⟨z_inT 593 (by decide +kernel) rfl, z_inT 45 (by decide +kernel) rfl, by decide +kernel, by decide +kernel, by decide +kernel, by decide +kernel, by decide +kernel, by decide +kernel, fun h => absurd h (by decide +kernel)⟩
theorem z_y38 : Jvm.Cond.code (z_nm 38) (z_by 38) (z_ml 38) (z_rt 38) ∈ z_T ∧ Jvm.Cond.initialized (z_nm 38).cls ∈ z_T ∧ (z_nm 38).cls ≠ "java/lang/invoke/MethodHandle" ∧ (z_nm 38).cls ≠ "java/lang/invoke/VarHandle" ∧ z_ml 38 ≤ 21 ∧ z_OKY 38 := ⟨z_inT 686 (by decide +kernel) rfl, z_inT 45 (by decide +kernel) rfl, by decide +kernel, by decide +kernel, by decide +kernel, by decide +kernel, by decide +kernel, by decide +kernel, fun h => absurd h (by decide +kernel)⟩
theorem z_y39 : Jvm.Cond.code (z_nm 39) (z_by 39) (z_ml 39) (z_rt 39) ∈ z_T ∧ Jvm.Cond.initialized (z_nm 39).cls ∈ z_T ∧ (z_nm 39).cls ≠ "java/lang/invoke/MethodHandle" ∧ (z_nm 39).cls ≠ "java/lang/invoke/VarHandle" ∧ z_ml 39 ≤ 21 ∧ z_OKY 39 := ⟨z_inT 772 (by decide +kernel) rfl, z_inT 45 (by decide +kernel) rfl, by decide +kernel, by decide +kernel, by decide +kernel, by decide +kernel, by decide +kernel, by decide +kernel, fun h => absurd h (by decide +kernel)⟩
theorem z_y40 : Jvm.Cond.code (z_nm 40) (z_by 40) (z_ml 40) (z_rt 40) ∈ z_T ∧ Jvm.Cond.initialized (z_nm 40).cls ∈ z_T ∧ (z_nm 40).cls ≠ "java/lang/invoke/MethodHandle" ∧ (z_nm 40).cls ≠ "java/lang/invoke/VarHandle" ∧ z_ml 40 ≤ 21 ∧ z_OKY 40 := ⟨z_inT 776 (by decide +kernel) rfl, z_inT 45 (by decide +kernel) rfl, by decide +kernel, by decide +kernel, by decide +kernel, by decide +kernel, by decide +kernel, by decide +kernel, fun h => absurd h (by decide +kernel)⟩
theorem z_y41 : Jvm.Cond.code (z_nm 41) (z_by 41) (z_ml 41) (z_rt 41) ∈ z_T ∧ Jvm.Cond.initialized (z_nm 41).cls ∈ z_T ∧ (z_nm 41).cls ≠ "java/lang/invoke/MethodHandle" ∧ (z_nm 41).cls ≠ "java/lang/invoke/VarHandle" ∧ z_ml 41 ≤ 21 ∧ z_OKY 41 := ⟨z_inT 726 (by decide +kernel) rfl, z_inT 45 (by decide +kernel) rfl, by decide +kernel, by decide +kernel, by decide +kernel, by decide +kernel, by decide +kernel, by decide +kernel, fun h => absurd h (by decide +kernel)⟩
theorem z_y42 : Jvm.Cond.code (z_nm 42) (z_by 42) (z_ml 42) (z_rt 42) ∈ z_T ∧ Jvm.Cond.initialized (z_nm 42).cls ∈ z_T ∧ (z_nm 42).cls ≠ "java/lang/invoke/MethodHandle" ∧ (z_nm 42).cls ≠ "java/lang/invoke/VarHandle" ∧ z_ml 42 ≤ 21 ∧ z_OKY 42 := ⟨z_inT 730 (by decide +kernel) rfl, z_inT 45 (by decide +kernel) rfl, by decide +kernel, by decide +kernel, by decide +kernel, by decide +kernel, by decide +kernel, by decide +kernel, fun h => absurd h (by decide +kernel)⟩
theorem z_y43 : Jvm.Cond.code (z_nm 43) (z_by 43) (z_ml 43) (z_rt 43) ∈ z_T ∧ Jvm.Cond.initialized (z_nm 43).cls ∈ z_T ∧ (z_nm 43).cls ≠ "java/lang/invoke/MethodHandle" ∧ (z_nm 43).cls ≠ "java/lang/invoke/VarHandle" ∧ z_ml 43 ≤ 21 ∧ z_OKY 43 := ⟨z_inT 127 (by decide +kernel) rfl, z_inT 46 (by decide +kernel) rfl, by decide +kernel, by decide +kernel, by decide +kernel, by decide +kernel, by decide +kernel, by decide +kernel, fun h => absurd h (by decide +kernel)⟩
theorem z_y44 : Jvm.Cond.code (z_nm 44) (z_by 44) (z_ml 44) (z_rt 44) ∈ z_T ∧ Jvm.Cond.initialized (z_nm 44).cls ∈ z_T ∧ (z_nm 44).cls ≠ "java/lang/invoke/MethodHandle" ∧ (z_nm 44).cls ≠ "java/lang/invoke/VarHandle" ∧ z_ml 44 ≤ 21 ∧ z_OKY 44 := ⟨z_inT 564 (by decide +kernel) rfl, z_inT 46 (by decide +kernel) rfl, by decide +kernel, by decide +kernel, by decide +kernel, by decide +kernel, by decide +kernel, by decide +kernel, fun h => absurd h (by decide +kernel)⟩
theorem z_y45 : Jvm.Cond.code (z_nm 45) (z_by 45) (z_ml 45) (z_rt 45) ∈ z_T ∧ Jvm.Cond.initialized (z_nm 45).cls ∈ z_T ∧ (z_nm 45).cls ≠ "java/lang/invoke/MethodHandle" ∧ (z_nm 45).cls ≠ "java/lang/invoke/VarHandle" ∧ z_ml 45 ≤ 21 ∧ z_OKY 45 := ⟨z_inT 598 (by decide +kernel) rfl, z_inT 46 (by decide +kernel) rfl, by decide +kernel, by decide +kernel, by decide +kernel, by decide +kernel, by decide +kernel, by decide +kernel, fun h => absurd h (by decide +kernel)⟩
theorem z_y46 : Jvm.Cond.code (z_nm 46) (z_by 46) (z_ml 46) (z_rt 46) ∈ z_T ∧ Jvm.Cond.initialized (z_nm 46).cls ∈ z_T ∧ (z_nm 46).cls ≠ "java/lang/invoke/MethodHandle" ∧ (z_nm 46).cls ≠ "java/lang/invoke/VarHandle" ∧ z_ml 46 ≤ 21 ∧ z_OKY 46 := ⟨z_inT 602 (by decide +kernel) rfl, z_inT 46 (by decide +kernel) rfl, by decide +kernel, by decide +kernel, by decide +kernel, by decide +kernel, by decide +kernel, by decide +kernel, fun h => absurd h (by decide +kernel)⟩
theorem z_y47 : Jvm.Cond.code (z_nm 47) (z_by 47) (z_ml 47) (z_rt 47) ∈ z_T ∧ Jvm.Cond.initialized (z_nm 47).cls ∈ z_T ∧ (z_nm 47).cls ≠ "java/lang/invoke/MethodHandle" ∧ (z_nm 47).cls ≠ "java/lang/invoke/VarHandle" ∧ z_ml 47 ≤ 21 ∧ z_OKY 47 := ⟨z_inT 567 (by decide +kernel) rfl, z_inT 46 (by decide +kernel) rfl, by decide +kernel, by decide +kernel, by decide +kernel, by decide +kernel, by decide +kernel, by decide +kernel, fun h => absurd h (by decide +kernel)⟩
theorem z_y48 : Jvm.Cond.code (z_nm 48) (z_by 48) (z_ml 48) (z_rt 48) ∈ z_T ∧ Jvm.Cond.initialized (z_nm 48).cls ∈ z_T ∧ (z_nm 48).cls ≠ "java/lang/invoke/MethodHandle" ∧ (z_nm 48).cls ≠ "java/lang/invoke/VarHandle" ∧ z_ml 48 ≤ 21 ∧ z_OKY 48 := ⟨z_inT 571 (by decide +kernel) rfl, z_inT 46 (by decide +kernel) rfl, by decide +kernel, by decide +kernel, by decide +kernel, by decide +kernel, by decide +kernel, by decide +kernel, fun h => absurd h (by decide +kernel)⟩
theorem z_y49 : Jvm.Cond.code (z_nm 49) (z_by 49) (z_ml 49) (z_rt 49) ∈ z_T ∧ Jvm.Cond.initialized (z_nm 49).cls ∈ z_T ∧ (z_nm 49).cls ≠ "java/lang/invoke/MethodHandle" ∧ (z_nm 49).cls ≠ "java/lang/invoke/VarHandle" ∧ z_ml 49 ≤ 21 ∧ z_OKY 49 := ⟨z_inT 585 (by decide +kernel) rfl, z_inT 46 (by decide +kernel) rfl, by decide +kernel, by decide +kernel, by decide +kernel, by decide +kernel, by decide +kernel, by decide +kernel, fun h => absurd h (by decide +kernel)⟩
theorem z_y50 : Jvm.Cond.code (z_nm 50) (z_by 50) (z_ml 50) (z_rt 50) ∈ z_T ∧ Jvm.Cond.initialized (z_nm 50).cls ∈ z_T ∧ (z_nm 50).cls ≠ "java/lang/invoke/MethodHandle" ∧ (z_nm 50).cls ≠ "java/lang/invoke/VarHandle" ∧ z_ml 50 ≤ 21 ∧ z_OKY 50 := ⟨z_inT 589 (by decide +kernel) rfl, z_inT 46 (by decide +kernel) rfl, by decide +kernel, by decide +kernel, by decide +kernel, by decide +kernel, by decide +kernel, by decide +kernel, fun h => absurd h (by decide +kernel)⟩
theorem z_y51 : Jvm.Cond.code (z_nm 51) (z_by 51) (z_ml 51) (z_rt 51) ∈ z_T ∧ Jvm.Cond.initialized (z_nm 51).cls ∈ z_T ∧ (z_nm 51).cls ≠ "java/lang/invoke/MethodHandle" ∧ (z_nm 51).cls ≠ "java/lang/invoke/VarHandle" ∧ z_ml 51 ≤ 21 ∧ z_OKY 51 := ⟨z_inT 70 (by decide +kernel) rfl, z_inT 44 (by decide +kernel) rfl, by decide +kernel, by decide +kernel, by decide +kernel, by decide +kernel, by decide +kernel, by decide +kernel, fun h => absurd h (by decide +kernel)⟩
theorem z_y52 : Jvm.Cond.code (z_nm 52) (z_by 52) (z_ml 52) (z_rt 52) ∈ z_T ∧ Jvm.Cond.initialized (z_nm 52).cls ∈ z_T ∧ (z_nm 52).cls ≠ "java/lang/invoke/MethodHandle" ∧ (z_nm 52).cls ≠ "java/lang/invoke/VarHandle" ∧ z_ml 52 ≤ 21 ∧ z_OKY 52 := ⟨z_inT 366 (by decide +kernel) rfl, z_inT 44 (by decide +kernel) rfl, by decide +kernel, by decide +kernel, by decide +kernel, by decide +kernel, by decide +kernel, by decide +kernel, fun h => absurd h (by decide +kernel)⟩
theorem z_y53 : Jvm.Cond.code (z_nm 53) (z_by 53) (z_ml 53) (z_rt 53) ∈ z_T ∧ Jvm.Cond.initialized (z_nm 53).cls ∈ z_T ∧ (z_nm 53).cls ≠ "java/lang/invoke/MethodHandle" ∧ (z_nm 53).cls ≠ "java/lang/invoke/VarHandle" ∧ z_ml 53 ≤ 21 ∧ z_OKY 53 := ⟨z_inT 460 (by decide +kernel) rfl, z_inT 44 (by decide +kernel) rfl, by decide +kernel, by decide +kernel, by decide +kernel, by decide +kernel, by decide +kernel, by decide +kernel, fun h => absurd h (by decide +kernel)⟩
theorem z_y54 : Jvm.Cond.code (z_nm 54) (z_by 54) (z_ml 54) (z_rt 54) ∈ z_T ∧ Jvm.Cond.initialized (z_nm 54).cls ∈ z_T ∧ (z_nm 54).cls ≠ "java/lang/invoke/MethodHandle" ∧ (z_nm 54).cls ≠ "java/lang/invoke/VarHandle" ∧ z_ml 54 ≤ 21 ∧ z_OKY 54 := ⟨z_inT 468 (by decide +kernel) rfl, z_inT 44 (by decide +kernel) rfl, by decide +kernel, by decide +kernel, by decide +kernel, by decide +kernel, by decide +kernel, by decide +kernel, fun h => absurd h (by decide +kernel)⟩
theorem z_y55 : Jvm.Cond.code (z_nm 55) (z_by 55) (z_ml 55) (z_rt 55) ∈ z_T ∧ Jvm.Cond.initialized (z_nm 55).cls ∈ z_T ∧ (z_nm 55).cls ≠ "java/lang/invoke/MethodHandle" ∧ (z_nm 55).cls ≠ "java/lang/invoke/VarHandle" ∧ z_ml 55 ≤ 21 ∧ z_OKY 55 := ⟨z_inT 480 (by decide +kernel) rfl, z_inT 44 (by decide +kernel) rfl, by decide +kernel, by decide +kernel, by decide +kernel, by decide +kernel, by decide +kernel, by decide +kernel, fun h => absurd h (by decide +kernel)⟩
theorem z_y56 : Jvm.Cond.code (z_nm 56) (z_by 56) (z_ml 56) (z_rt 56) ∈ z_T ∧ Jvm.Cond.initialized (z_nm 56).cls ∈ z_T ∧ (z_nm 56).cls ≠ "java/lang/invoke/MethodHandle" ∧ (z_nm 56).cls ≠ "java/lang/invoke/VarHandle" ∧ z_ml 56 ≤ 21 ∧ z_OKY 56 := ⟨z_inT 484 (by decide +kernel) rfl, z_inT 44 (by decide +kernel) rfl, by decide +kernel, by decide +kernel, by decide +kernel, by decide +kernel, by decide +kernel, by decide +kernel, fun h => absurd h (by decide +kernel)⟩
theorem z_y57 : Jvm.Cond.code (z_nm 57) (z_by 57) (z_ml 57) (z_rt 57) ∈ z_T ∧ Jvm.Cond.initialized (z_nm 57).cls ∈ z_T ∧ (z_nm 57).cls ≠ "java/lang/invoke/MethodHandle" ∧ (z_nm 57).cls ≠ "java/lang/invoke/VarHandle" ∧ z_ml 57 ≤ 21 ∧ z_OKY 57 := ⟨z_inT 488 (by decide +kernel) rfl, z_inT 44 (by decide +kernel) rfl, by decide +kernel, by decide +kernel, by decide +kernel, by decide +kernel, by decide +kernel, by decide +kernel, fun h => absurd h (by decide +kernel)⟩
theorem z_y58 : Jvm.Cond.code (z_nm 58) (z_by 58) (z_ml 58) (z_rt 58) ∈ z_T ∧ Jvm.Cond.initialized (z_nm 58).cls ∈ z_T ∧ (z_nm 58).cls ≠ "java/lang/invoke/MethodHandle" ∧ (z_nm 58).cls ≠ "java/lang/invoke/VarHandle" ∧ z_ml 58 ≤ 21 ∧ z_OKY 58 := ⟨z_inT 492 (by decide +kernel) rfl, z_inT 44 (by decide +kernel) rfl, by decide +kernel, by decide +kernel, by decide +kernel, by decide +kernel, by decide +kernel, by decide +kernel, fun h => absurd h (by decide +kernel)⟩
theorem z_y59 : Jvm.Cond.code (z_nm 59) (z_by 59) (z_ml 59) (z_rt 59) ∈ z_T ∧ Jvm.Cond.initialized (z_nm 59).cls ∈ z_T ∧ (z_nm 59).cls ≠ "java/lang/invoke/MethodHandle" ∧ (z_nm 59).cls ≠ "java/lang/invoke/VarHandle" ∧ z_ml 59 ≤ 21 ∧ z_OKY 59 := ⟨z_inT 503 (by decide +kernel) rfl, z_inT 44 (by decide +kernel) rfl, by decide +kernel, by decide +kernel, by decide +kernel, by decide +kernel, by decide +kernel, by decide +kernel, fun h => absurd h (by decide +kernel)⟩
theorem z_y60 : Jvm.Cond.code (z_nm 60) (z_by 60) (z_ml 60) (z_rt 60) ∈ z_T ∧ Jvm.Cond.initialized (z_nm 60).cls ∈ z_T ∧ (z_nm 60).cls ≠ "java/lang/invoke/MethodHandle" ∧ (z_nm 60).cls ≠ "java/lang/invoke/VarHandle" ∧ z_ml 60 ≤ 21 ∧ z_OKY 60 := ⟨z_inT 511 (by decide +kernel) rfl, z_inT 44 (by decide +kernel) rfl, by decide +kernel, by decide +kernel, by decide +kernel, by decide +kernel, by decide +kernel, by decide +kernel, fun h => absurd h (by decide +kernel)⟩
theorem z_y61 : Jvm.Cond.code (z_nm 61) (z_by 61) (z_ml 61) (z_rt 61) ∈ z_T ∧ Jvm.Cond.initialized (z_nm 61).cls ∈ z_T ∧ (z_nm 61).cls ≠ "java/lang/invoke/MethodHandle" ∧ (z_nm 61).cls ≠ "java/lang/invoke/VarHandle" ∧ z_ml 61 ≤ 21 ∧ z_OKY 61 := ⟨z_inT 526 (by decide +kernel) rfl, z_inT 44 (by decide +kernel) rfl, by decide +kernel, by decide +kernel, by decide +kernel, by decide +kernel, by decide +kernel, by decide +kernel, fun h => absurd h (by decide +kernel)⟩
theorem z_y62 : Jvm.Cond.code (z_nm 62) (z_by 62) (z_ml 62) (z_rt 62) ∈ z_T ∧ Jvm.Cond.initialized (z_nm 62).cls ∈ z_T ∧ (z_nm 62).cls ≠ "java/lang/invoke/MethodHandle" ∧ (z_nm 62).cls ≠ "java/lang/invoke/VarHandle" ∧ z_ml 62 ≤ 21 ∧ z_OKY 62 := ⟨z_inT 547 (by decide +kernel) rfl, z_inT 44 (by decide +kernel) rfl, by decide +kernel, by decide +kernel, by decide +kernel, by decide +kernel, by decide +kernel, by decide +kernel, fun h => absurd h (by decide +kernel)⟩
theorem z_y63 : Jvm.Cond.code (z_nm 63) (z_by 63) (z_ml 63) (z_rt 63) ∈ z_T ∧ Jvm.Cond.initialized (z_nm 63).cls ∈ z_T ∧ (z_nm 63).cls ≠ "java/lang/invoke/MethodHandle" ∧ (z_nm 63).cls ≠ "java/lang/invoke/VarHandle" ∧ z_ml 63 ≤ 21 ∧ z_OKY 63 := ⟨z_inT 552 (by decide +kernel) rfl, z_inT 44 (by decide +kernel) rfl, by decide +kernel, by decide +kernel, by decide +kernel, by decide +kernel, by decide +kernel, by decide +kernel, fun h => absurd h (by decide +kernel)⟩
theorem z_y64 : Jvm.Cond.code (z_nm 64) (z_by 64) (z_ml 64) (z_rt 64) ∈ z_T ∧ Jvm.Cond.initialized (z_nm 64).cls ∈ z_T ∧ (z_nm 64).cls ≠ "java/lang/invoke/MethodHandle" ∧ (z_nm 64).cls ≠ "java/lang/invoke/VarHandle" ∧ z_ml 64 ≤ 21 ∧ z_OKY 64 := ⟨z_inT 556 (by decide +kernel) rfl, z_inT 44 (by decide +kernel) rfl, by decide +kernel, by decide +kernel, by decide +kernel, by decide +kernel, by decide +kernel, by decide +kernel, fun h => absurd h (by decide +kernel)⟩
theorem z_y65 : Jvm.Cond.code (z_nm 65) (z_by 65) (z_ml 65) (z_rt 65) ∈ z_T ∧ Jvm.Cond.initialized (z_nm 65).cls ∈ z_T ∧ (z_nm 65).cls ≠ "java/lang/invoke/MethodHandle" ∧ (z_nm 65).cls ≠ "java/lang/invoke/VarHandle" ∧ z_ml 65 ≤ 21 ∧ z_OKY 65 := ⟨z_inT 560 (by decide +kernel) rfl, z_inT 44 (by decide +kernel) rfl, by decide +kernel, by decide +kernel, by decide +kernel, by decide +kernel, by decide +kernel, by decide +kernel, fun h => absurd h (by decide +kernel)⟩
theorem z_y66 : Jvm.Cond.code (z_nm 66) (z_by 66) (z_ml 66) (z_rt 66) ∈ z_T ∧ Jvm.Cond.initialized (z_nm 66).cls ∈ z_T ∧ (z_nm 66).cls ≠ "java/lang/invoke/MethodHandle" ∧ (z_nm 66).cls ≠ "java/lang/invoke/VarHandle" ∧ z_ml 66 ≤ 21 ∧ z_OKY 66 := ⟨z_inT 606 (by decide +kernel) rfl, z_inT 44 (by decide +kernel) rfl, by decide +kernel, by decide +kernel, by decide +kernel, by decide +kernel, by decide +kernel, by decide +kernel, fun h => absurd h (by decide +kernel)⟩
theorem z_y67 : Jvm.Cond.code (z_nm 67) (z_by 67) (z_ml 67) (z_rt 67) ∈ z_T ∧ Jvm.Cond.initialized (z_nm 67).cls ∈ z_T ∧ (z_nm 67).cls ≠ "java/lang/invoke/MethodHandle" ∧ (z_nm 67).cls ≠ "java/lang/invoke/VarHandle" ∧ z_ml 67 ≤ 21 ∧ z_OKY 67 := ⟨z_inT 613 (by decide +kernel) rfl, z_inT 44 (by decide +kernel) rfl, by decide +kernel, by decide +kernel, by decide +kernel, by decide +kernel, by decide +kernel, by decide +kernel, fun h => absurd h (by decide +kernel)⟩
theorem z_y68 : Jvm.Cond.code (z_nm 68) (z_by 68) (z_ml 68) (z_rt 68) ∈ z_T ∧ Jvm.Cond.initialized (z_nm 68).cls ∈ z_T ∧ (z_nm 68).cls ≠ "java/lang/invoke/MethodHandle" ∧ (z_nm 68).cls ≠ "java/lang/invoke/VarHandle" ∧ z_ml 68 ≤ 21 ∧ z_OKY 68 := ⟨z_inT 623 (by decide +kernel) rfl, z_inT 44 (by decide +kernel) rfl, by decide +kernel, by decide +kernel, by decide +kernel, by decide +kernel, by decide +kernel, by decide +kernel, fun h => absurd h (by decide +kernel)⟩
theorem z_y69 : Jvm.Cond.code (z_nm 69) (z_by 69) (z_ml 69) (z_rt 69) ∈ z_T ∧ Jvm.Cond.initialized (z_nm 69).cls ∈ z_T ∧ (z_nm 69).cls ≠ "java/lang/invoke/MethodHandle" ∧ (z_nm 69).cls ≠ "java/lang/invoke/VarHandle" ∧ z_ml 69 ≤ 21 ∧ z_OKY 69 := ⟨z_inT 627 (by decide +kernel) rfl, z_inT 44 (by decide +kernel) rfl, by decide +kernel, by decide +kernel, by decide +kernel, by decide +kernel, by decide +kernel, by decide +kernel, fun h => absurd h (by decide +kernel)⟩
theorem z_y70 : Jvm.Cond.code (z_nm 70) (z_by 70) (z_ml 70) (z_rt 70) ∈ z_T ∧ Jvm.Cond.initialized (z_nm 70).cls ∈ z_T ∧ (z_nm 70).cls ≠ "java/lang/invoke/MethodHandle" ∧ (z_nm 70).cls ≠ "java/lang/invoke/VarHandle" ∧ z_ml 70 ≤ 21 ∧ z_OKY 70 := ⟨z_inT 670 (by decide +kernel) rfl, z_inT 44 (by decide +kernel) rfl, by decide +kernel, by decide +kernel, by decide +kernel, by decide +kernel, by decide +kernel, by decide +kernel, fun h => absurd h (by decide +kernel)⟩
theorem z_y71 : Jvm.Cond.code (z_nm 71) (z_by 71) (z_ml 71) (z_rt 71) ∈ z_T ∧ Jvm.Cond.initialized (z_nm 71).cls ∈ z_T ∧ (z_nm 71).cls ≠ "java/lang/invoke/MethodHandle" ∧ (z_nm 71).cls ≠ "java/lang/invoke/VarHandle" ∧ z_ml 71 ≤ 21 ∧ z_OKY 71 := ⟨z_inT 682 (by decide +kernel) rfl, z_inT 44 (by decide +kernel) rfl, by decide +kernel, by decide +kernel, by decide +kernel, by decide +kernel, by decide +kernel, by decide +kernel, fun h => absurd h (by decide +kernel)⟩
theorem z_y72 : Jvm.Cond.code (z_nm 72) (z_by 72) (z_ml 72) (z_rt 72) ∈ z_T ∧ Jvm.Cond.initialized (z_nm 72).cls ∈ z_T ∧ (z_nm 72).cls ≠ "java/lang/invoke/MethodHandle" ∧ (z_nm 72).cls ≠ "java/lang/invoke/VarHandle" ∧ z_ml 72 ≤ 21 ∧ z_OKY 72 := ⟨z_inT 690 (by decide +kernel) rfl, z_inT 44 (by decide +kernel) rfl, by decide +kernel, by decide +kernel, by decide +kernel, by decide +kernel, by decide +kernel, by decide +kernel, fun h => absurd h (by decide +kernel)⟩
theorem z_y73 : Jvm.Cond.code (z_nm 73) (z_by 73) (z_ml 73) (z_rt 73) ∈ z_T ∧ Jvm.Cond.initialized (z_nm 73).cls ∈ z_T ∧ (z_nm 73).cls ≠ "java/lang/invoke/MethodHandle" ∧ (z_nm 73).cls ≠ "java/lang/invoke/VarHandle" ∧ z_ml 73 ≤ 21 ∧ z_OKY 73 := ⟨z_inT 694 (by decide +kernel) rfl, z_inT 44 (by decide +kernel) rfl, by decide +kernel, by decide +kernel, by decide +kernel, by decide +kernel, by decide +kernel, by decide +kernel, fun h => absurd h (by decide +kernel)⟩
theorem z_y74 : Jvm.Cond.code (z_nm 74) (z_by 74) (z_ml 74) (z_rt 74) ∈ z_T ∧ Jvm.Cond.initialized (z_nm 74).cls ∈ z_T ∧ (z_nm 74).cls ≠ "java/lang/invoke/MethodHandle" ∧ (z_nm 74).cls ≠ "java/lang/invoke/VarHandle" ∧ z_ml 74 ≤ 21 ∧ z_OKY 74 := ⟨z_inT 718 (by decide +kernel) rfl, z_inT 44 (by decide +kernel) rfl, by decide +kernel, by decide +kernel, by decide +kernel, by decide +kernel, by decide +kernel, by decide +kernel, fun h => absurd h (by decide +kernel)⟩
theorem z_y75 : Jvm.Cond.code (z_nm 75) (z_by 75) (z_ml 75) (z_rt 75) ∈ z_T ∧ Jvm.Cond.initialized (z_nm 75).cls ∈ z_T ∧ (z_nm 75).cls ≠ "java/lang/invoke/MethodHandle" ∧ (z_nm 75).cls ≠ "java/lang/invoke/VarHandle" ∧ z_ml 75 ≤ 21 ∧ z_OKY 75 := ⟨z_inT 722 (by decide +kernel) rfl, z_inT 44 (by decide +kernel) rfl, by decide +kernel, by decide +kernel, by decide +kernel, by decide +kernel, by decide +kernel, by decide +kernel, fun h => absurd h (by decide +kernel)⟩
theorem z_y76 : Jvm.Cond.code (z_nm 76) (z_by 76) (z_ml 76) (z_rt 76) ∈ z_T ∧ Jvm.Cond.initialized (z_nm 76).cls ∈ z_T ∧ (z_nm 76).cls ≠ "java/lang/invoke/MethodHandle" ∧ (z_nm 76).cls ≠ "java/lang/invoke/VarHandle" ∧ z_ml 76 ≤ 21 ∧ z_OKY 76 := ⟨z_inT 734 (by decide +kernel) rfl, z_inT 44 (by decide +kernel) rfl, by decide +kernel, by decide +kernel, by decide +kernel, by decide +kernel, by decide +kernel, by decide +kernel, fun h => absurd h (by decide +kernel)⟩
theorem z_y77 : Jvm.Cond.code (z_nm 77) (z_by 77) (z_ml 77) (z_rt 77) ∈ z_T ∧ Jvm.Cond.initialized (z_nm 77).cls ∈ z_T ∧ (z_nm 77).cls ≠ "java/lang/invoke/MethodHandle" ∧ (z_nm 77).cls ≠ "java/lang/invoke/VarHandle" ∧ z_ml 77 ≤ 21 ∧ z_OKY 77 := ⟨z_inT 739 (by decide +kernel) rfl, z_inT 44 (by decide +kernel) rfl, by decide +kernel, by decide +kernel, by decide +kernel, by decide +kernel, by decide +kernel, by decide +kernel, fun h => absurd h (by decide +kernel)⟩
theorem z_y78 : Jvm.Cond.code (z_nm 78) (z_by 78) (z_ml 78) (z_rt 78) ∈ z_T ∧ Jvm.Cond.initialized (z_nm 78).cls ∈ z_T ∧ (z_nm 78).cls ≠ "java/lang/invoke/MethodHandle" ∧ (z_nm 78).cls ≠ "java/lang/invoke/VarHandle" ∧ z_ml 78 ≤ 21 ∧ z_OKY 78 := ⟨z_inT 743 (by decide +kernel) rfl, z_inT 44 (by decide +kernel) rfl, by decide +kernel, by decide +kernel, by decide +kernel, by decide +kernel, by decide +kernel, by decide +kernel, fun h => absurd h (by decide +kernel)⟩
theorem z_y79 : Jvm.Cond.code (z_nm 79) (z_by 79) (z_ml 79) (z_rt 79) ∈ z_T ∧ Jvm.Cond.initialized (z_nm 79).cls ∈ z_T ∧ (z_nm 79).cls ≠ "java/lang/invoke/MethodHandle" ∧ (z_nm 79).cls ≠ "java/lang/invoke/VarHandle" ∧ z_ml 79 ≤ 21 ∧ z_OKY 79 := ⟨z_inT 747 (by decide +kernel) rfl, z_inT 44 (by decide +kernel) rfl, by decide +kernel, by decide +kernel, by decide +kernel, by decide +kernel, by decide +kernel, by decide +kernel, fun h => absurd h (by decide +kernel)⟩
theorem z_y80 : Jvm.Cond.code (z_nm 80) (z_by 80) (z_ml 80) (z_rt 80) ∈ z_T ∧ Jvm.Cond.initialized (z_nm 80).cls ∈ z_T ∧ (z_nm 80).cls ≠ "java/lang/invoke/MethodHandle" ∧ (z_nm 80).cls ≠ "java/lang/invoke/VarHandle" ∧ z_ml 80 ≤ 21 ∧ z_OKY 80 := ⟨z_inT 760 (by decide +kernel) rfl, z_inT 44 (by decide +kernel) rfl, by decide +kernel, by decide +kernel, by decide +kernel, by decide +kernel, by decide +kernel, by decide +kernel, fun h => absurd h (by decide +kernel)⟩
theorem z_y81 : Jvm.Cond.code (z_nm 81) (z_by 81) (z_ml 81) (z_rt 81) ∈ z_T ∧ Jvm.Cond.initialized (z_nm 81).cls ∈ z_T ∧ (z_nm 81).cls ≠ "java/lang/invoke/MethodHandle" ∧ (z_nm 81).cls ≠ "java/lang/invoke/VarHandle" ∧ z_ml 81 ≤ 21 ∧ z_OKY 81 := ⟨z_inT 764 (by decide +kernel) rfl, z_inT 44 (by decide +kernel) rfl, by decide +kernel, by decide +kernel, by decide +kernel, by decide +kernel, by decide +kernel, by decide +kernel, fun h => absurd h (by decide +kernel)⟩
theorem z_y82 : Jvm.Cond.code (z_nm 82) (z_by 82) (z_ml 82) (z_rt 82) ∈ z_T ∧ Jvm.Cond.initialized (z_nm 82).cls ∈ z_T ∧ (z_nm 82).cls ≠ "java/lang/invoke/MethodHandle" ∧ (z_nm 82).cls ≠ "java/lang/invoke/VarHandle" ∧ z_ml 82 ≤ 21 ∧ z_OKY 82 := ⟨z_inT 768 (by decide +kernel) rfl, z_inT 44 (by decide +kernel) rfl, by decide +kernel, by decide +kernel, by decide +kernel, by decide +kernel, by decide +kernel, by decide +kernel, fun h => absurd h (by decide +kernel)⟩
theorem z_y83 : Jvm.Cond.code (z_nm 83) (z_by 83) (z_ml 83) (z_rt 83) ∈ z_T ∧ Jvm.Cond.initialized (z_nm 83).cls ∈ z_T ∧ (z_nm 83).cls ≠ "java/lang/invoke/MethodHandle" ∧ (z_nm 83).cls ≠ "java/lang/invoke/VarHandle" ∧ z_ml 83 ≤ 21 ∧ z_OKY 83 := ⟨z_inT 780 (by decide +kernel) rfl, z_inT 44 (by decide +kernel) rfl, by decide +kernel, by decide +kernel, by decide +kernel, by decide +kernel, by decide +kernel, by decide +kernel, fun h => absurd h (by decide +kernel)⟩
theorem z_y84 : Jvm.Cond.code (z_nm 84) (z_by 84) (z_ml 84) (z_rt 84) ∈ z_T ∧ Jvm.Cond.initialized (z_nm 84).cls ∈ z_T ∧ (z_nm 84).cls ≠ "java/lang/invoke/MethodHandle" ∧ (z_nm 84).cls ≠ "java/lang/invoke/VarHandle" ∧ z_ml 84 ≤ 21 ∧ z_OKY 84 := ⟨z_inT 784 (by decide +kernel) rfl, z_inT 44 (by decide +kernel) rfl, by decide +kernel, by decide +kernel, by decide +kernel, by decide +kernel, by decide +kernel, by decide +kernel, fun h => absurd h (by decide +kernel)⟩
theorem z_y85 : Jvm.Cond.code (z_nm 85) (z_by 85) (z_ml 85) (z_rt 85) ∈ z_T ∧ Jvm.Cond.initialized (z_nm 85).cls ∈ z_T ∧ (z_nm 85).cls ≠ "java/lang/invoke/MethodHandle" ∧ (z_nm 85).cls ≠ "java/lang/invoke/VarHandle" ∧ z_ml 85 ≤ 21 ∧ z_OKY 85 := ⟨z_inT 803 (by decide +kernel) rfl, z_inT 44 (by decide +kernel) rfl, by decide +kernel, by decide +kernel, by decide +kernel, by decide +kernel, by decide +kernel, by decide +kernel, fun h => absurd h (by decide +kernel)⟩
theorem z_y86 : Jvm.Cond.code (z_nm 86) (z_by 86) (z_ml 86) (z_rt 86) ∈ z_T ∧ Jvm.Cond.initialized (z_nm 86).cls ∈ z_T ∧ (z_nm 86).cls ≠ "java/lang/invoke/MethodHandle" ∧ (z_nm 86).cls ≠ "java/lang/invoke/VarHandle" ∧ z_ml 86 ≤ 21 ∧ z_OKY 86 := ⟨z_inT 812 (by decide +kernel) rfl, z_inT 44 (by decide +kernel) rfl, by decide +kernel, by decide +kernel, by decide +kernel, by decide +kernel, by decide +kernel, by decide +kernel, fun h => absurd h (by decide +kernel)⟩
theorem z_y87 : Jvm.Cond.code (z_nm 87) (z_by 87) (z_ml 87) (z_rt 87) ∈ z_T ∧ Jvm.Cond.initialized (z_nm 87).cls ∈ z_T ∧ (z_nm 87).cls ≠ "java/lang/invoke/MethodHandle" ∧ (z_nm 87).cls ≠ "java/lang/invoke/VarHandle" ∧ z_ml 87 ≤ 21 ∧ z_OKY 87 := ⟨z_inT 827 (by decide +kernel) rfl, z_inT 44 (by decide +kernel) rfl, by decide +kernel, by decide +kernel, by decide +kernel, by decide +kernel, by decide +kernel, by decide +kernel, fun h => absurd h (by decide +kernel)⟩
theorem z_y88 : Jvm.Cond.code (z_nm 88) (z_by 88) (z_ml 88) (z_rt 88) ∈ z_T ∧ Jvm.Cond.initialized (z_nm 88).cls ∈ z_T ∧ (z_nm 88).cls ≠ "java/lang/invoke/MethodHandle" ∧ (z_nm 88).cls ≠ "java/lang/invoke/VarHandle" ∧ z_ml 88 ≤ 21 ∧ z_OKY 88 := ⟨z_inT 831 (by decide +kernel) rfl, z_inT 44 (by decide +kernel) rfl, by decide +kernel, by decide +kernel, by decide +kernel, by decide +kernel, by decide +kernel, by decide +kernel, fun h => absurd h (by decide +kernel)⟩
theorem z_y89 : Jvm.Cond.code (z_nm 89) (z_by 89) (z_ml 89) (z_rt 89) ∈ z_T ∧ Jvm.Cond.initialized (z_nm 89).cls ∈ z_T ∧ (z_nm 89).cls ≠ "java/lang/invoke/MethodHandle" ∧ (z_nm 89).cls ≠ "java/lang/invoke/VarHandle" ∧ z_ml 89 ≤ 21 ∧ z_OKY 89 := ⟨z_inT 373 (by decide +kernel) rfl, z_inT 44 (by decide +kernel) rfl, by decide +kernel, by decide +kernel, by decide +kernel, by decide +kernel, by decide +kernel, by decide +kernel, fun h => absurd h (by decide +kernel)⟩
theorem z_y90 : Jvm.Cond.code (z_nm 90) (z_by 90) (z_ml 90) (z_rt 90) ∈ z_T ∧ Jvm.Cond.initialized (z_nm 90).cls ∈ z_T ∧ (z_nm 90).cls ≠ "java/lang/invoke/MethodHandle" ∧ (z_nm 90).cls ≠ "java/lang/invoke/VarHandle" ∧ z_ml 90 ≤ 21 ∧ z_OKY 90 := ⟨z_inT 423 (by decide +kernel) rfl, z_inT 44 (by decide +kernel) rfl, by decide +kernel, by decide +kernel, by decide +kernel, by decide +kernel, by decide +kernel, by decide +kernel, fun h => absurd h (by decide +kernel)⟩
theorem z_y91 : Jvm.Cond.code (z_nm 91) (z_by 91) (z_ml 91) (z_rt 91) ∈ z_T ∧ Jvm.Cond.initialized (z_nm 91).cls ∈ z_T ∧ (z_nm 91).cls ≠ "java/lang/invoke/MethodHandle" ∧ (z_nm 91).cls ≠ "java/lang/invoke/VarHandle" ∧ z_ml 91 ≤ 21 ∧ z_OKY 91 := ⟨z_inT 495 (by decide +kernel) rfl, z_inT 44 (by decide +kernel) rfl, by decide +kernel, by decide +kernel, by decide +kernel, by decide +kernel, by decide +kernel, by decide +kernel, fun h => absurd h (by decide +kernel)⟩
theorem z_y92 : Jvm.Cond.code (z_nm 92) (z_by 92) (z_ml 92) (z_rt 92) ∈ z_T ∧ Jvm.Cond.initialized (z_nm 92).cls ∈ z_T ∧ (z_nm 92).cls ≠ "java/lang/invoke/MethodHandle" ∧ (z_nm 92).cls ≠ "java/lang/invoke/VarHandle" ∧ z_ml 92 ≤ 21 ∧ z_OKY 92 := ⟨z_inT 515 (by decide +kernel) rfl, z_inT 44 (by decide +kernel) rfl, by decide +kernel, by decide +kernel, by decide +kernel, by decide +kernel, by decide +kernel, by decide +kernel, fun h => absurd h (by decide +kernel)⟩
theorem z_y93 : Jvm.Cond.code (z_nm 93) (z_by 93) (z_ml 93) (z_rt 93) ∈ z_T ∧ Jvm.Cond.initialized (z_nm 93).cls ∈ z_T ∧ (z_nm 93).cls ≠ "java/lang/invoke/MethodHandle" ∧ (z_nm 93).cls ≠ "java/lang/invoke/VarHandle" ∧ z_ml 93 ≤ 21 ∧ z_OKY 93 := ⟨z_inT 697 (by decide +kernel) rfl, z_inT 44 (by decide +kernel) rfl, by decide +kernel, by decide +kernel, by decide +kernel, by decide +kernel, by decide +kernel, by decide +kernel, fun h => absurd h (by decide +kernel)⟩
theorem z_y94 : Jvm.Cond.code (z_nm 94) (z_by 94) (z_ml 94) (z_rt 94) ∈ z_T ∧ Jvm.Cond.initialized (z_nm 94).cls ∈ z_T ∧ (z_nm 94).cls ≠ "java/lang/invoke/MethodHandle" ∧ (z_nm 94).cls ≠ "java/lang/invoke/VarHandle" ∧ z_ml 94 ≤ 21 ∧ z_OKY 94 := ⟨z_inT 816 (by decide +kernel) rfl, z_inT 44 (by decide +kernel) rfl, by decide +kernel, by decide +kernel, by decide +kernel, by decide +kernel, by decide +kernel, by decide +kernel, fun h => absurd h (by decide +kernel)⟩
theorem z_y95 : Jvm.Cond.code (z_nm 95) (z_by 95) (z_ml 95) (z_rt 95) ∈ z_T ∧ Jvm.Cond.initialized (z_nm 95).cls ∈ z_T ∧ (z_nm 95).cls ≠ "java/lang/invoke/MethodHandle" ∧ (z_nm 95).cls ≠ "java/lang/invoke/VarHandle" ∧ z_ml 95 ≤ 21 ∧ z_OKY 95 := ⟨z_inT 370 (by decide +kernel) rfl, z_inT 44 (by decide +kernel) rfl, by decide +kernel, by decide +kernel, by decide +kernel, by decide +kernel, by decide +kernel, by decide +kernel, fun _ => ⟨_, rfl, Or.inl ⟨_, rfl⟩⟩⟩
theorem z_y96 : Jvm.Cond.code (z_nm 96) (z_by 96) (z_ml 96) (z_rt 96) ∈ z_T ∧ Jvm.Cond.initialized (z_nm 96).cls ∈ z_T ∧ (z_nm 96).cls ≠ "java/lang/invoke/MethodHandle" ∧ (z_nm 96).cls ≠ "java/lang/invoke/VarHandle" ∧ z_ml 96 ≤ 21 ∧ z_OKY 96 := ⟨z_inT 472 (by decide +kernel) rfl, z_inT 44 (by decide +kernel) rfl, by decide +kernel, by decide +kernel, by decide +kernel, by decide +kernel, by decide +kernel, by decide +kernel, fun _ => ⟨_, rfl, Or.inl ⟨_, rfl⟩⟩⟩
theorem z_y97 : Jvm.Cond.code (z_nm 97) (z_by 97) (z_ml 97) (z_rt 97) ∈ z_T ∧ Jvm.Cond.initialized (z_nm 97).cls ∈ z_T ∧ (z_nm 97).cls ≠ "java/lang/invoke/MethodHandle" ∧ (z_nm 97).cls ≠ "java/lang/invoke/VarHandle" ∧ z_ml 97 ≤ 21 ∧ z_OKY 97 := ⟨z_inT 377 (by decide +kernel) rfl, z_inT 44 (by decide +kernel) rfl, by decide +kernel, by decide +kernel, by decide +kernel, by decide +kernel, by decide +kernel, by decide +kernel, fun h => absurd h (by decide +kernel)⟩
theorem z_y98 : Jvm.Cond.code (z_nm 98) (z_by 98) (z_ml 98) (z_rt 98) ∈ z_T ∧ Jvm.Cond.initialized (z_nm 98).cls ∈ z_T ∧ (z_nm 98).cls ≠ "java/lang/invoke/MethodHandle" ∧ (z_nm 98).cls ≠ "java/lang/invoke/VarHandle" ∧ z_ml 98 ≤ 21 ∧ z_OKY 98 := ⟨z_inT 476 (by decide +kernel) rfl, z_inT 44 (by decide +kernel) rfl, by decide +kernel, by decide +kernel, by decide +kernel, by decide +kernel, by decide +kernel, by decide +kernel, fun h => absurd h (by decide +kernel)⟩
theorem z_y99 : Jvm.Cond.code (z_nm 99) (z_by 99) (z_ml 99) (z_rt 99) ∈ z_T ∧ Jvm.Cond.initialized (z_nm 99).cls ∈ z_T ∧ (z_nm 99).cls ≠ "java/lang/invoke/MethodHandle" ∧ (z_nm 99).cls ≠ "java/lang/invoke/VarHandle" ∧ z_ml 99 ≤ 21 ∧ z_OKY 99 := ⟨z_inT 147 (by decide +kernel) rfl, z_inT 44 (by decide +kernel) rfl, by decide +kernel, by decide +kernel, by decide +kernel, by decide +kernel, by decide +kernel, by decide +kernel, fun _ => ⟨_, rfl, Or.inl ⟨_, rfl⟩⟩⟩
theorem z_y100 : Jvm.Cond.code (z_nm 100) (z_by 100) (z_ml 100) (z_rt 100) ∈ z_T ∧ Jvm.Cond.initialized (z_nm 100).cls ∈ z_T ∧ (z_nm 100).cls ≠ "java/lang/invoke/MethodHandle" ∧ (z_nm 100).cls ≠ "java/lang/invoke/VarHandle" ∧ z_ml 100 ≤ 21 ∧ z_OKY 100 := ⟨z_inT 417 (by decide +kernel) rfl, z_inT 44 (by decide +kernel) rfl, by decide +kernel, by decide +kernel, by decide +kernel, by decide +kernel, by decide +kernel, by decide +kernel, fun _ => ⟨_, rfl, Or.inl ⟨_, rfl⟩⟩⟩
theorem z_y101 : Jvm.Cond.code (z_nm 101) (z_by 101) (z_ml 101) (z_rt 101) ∈ z_T ∧ Jvm.Cond.initialized (z_nm 101).cls ∈ z_T ∧ (z_nm 101).cls ≠ "java/lang/invoke/MethodHandle" ∧ (z_nm 101).cls ≠ "java/lang/invoke/VarHandle" ∧ z_ml 101 ≤ 21 ∧ z_OKY 101 := ⟨z_inT 391 (by decide +kernel) rfl, z_inT 44 (by decide +kernel) rfl, by decide +kernel, by decide +kernel, by decide +kernel, by decide +kernel, by decide +kernel, by decide +kernel, fun h => absurd h (by decide +kernel)⟩
theorem z_y102 : Jvm.Cond.code (z_nm 102) (z_by 102) (z_ml 102) (z_rt 102) ∈ z_T ∧ Jvm.Cond.initialized (z_nm 102).cls ∈ z_T ∧ (z_nm 102).cls ≠ "java/lang/invoke/MethodHandle" ∧ (z_nm 102).cls ≠ "java/lang/invoke/VarHandle" ∧ z_ml 102 ≤ 21 ∧ z_OKY 102 := ⟨z_inT 394 (by decide +kernel) rfl, z_inT 44 (by decide +kernel) rfl, by decide +kernel, by decide +kernel, by decide +kernel, by decide +kernel, by decide +kernel, by decide +kernel, fun h => absurd h (by decide +kernel)⟩
theorem z_y103 : Jvm.Cond.code (z_nm 103) (z_by 103) (z_ml 103) (z_rt 103) ∈ z_T ∧ Jvm.Cond.initialized (z_nm 103).cls ∈ z_T ∧ (z_nm 103).cls ≠ "java/lang/invoke/MethodHandle" ∧ (z_nm 103).cls ≠ "java/lang/invoke/VarHandle" ∧ z_ml 103 ≤ 21 ∧ z_OKY 103 := ⟨z_inT 380 (by decide +kernel) rfl, z_inT 44 (by decide +kernel) rfl, by decide +kernel, by decide +kernel, by decide +kernel, by decide +kernel, by decide +kernel, by decide +kernel, fun h => absurd h (by decide +kernel)⟩
theorem z_y104 : Jvm.Cond.code (z_nm 104) (z_by 104) (z_ml 104) (z_rt 104) ∈ z_T ∧ Jvm.Cond.initialized (z_nm 104).cls ∈ z_T ∧ (z_nm 104).cls ≠ "java/lang/invoke/MethodHandle" ∧ (z_nm 104).cls ≠ "java/lang/invoke/VarHandle" ∧ z_ml 104 ≤ 21 ∧ z_OKY 104 := ⟨z_inT 402 (by decide +kernel) rfl, z_inT 44 (by decide +kernel) rfl, by decide +kernel, by decide +kernel, by decide +kernel, by decide +kernel, by decide +kernel, by decide +kernel, fun h => absurd h (by decide +kernel)⟩
theorem z_y105 : Jvm.Cond.code (z_nm 105) (z_by 105) (z_ml 105) (z_rt 105) ∈ z_T ∧ Jvm.Cond.initialized (z_nm 105).cls ∈ z_T ∧ (z_nm 105).cls ≠ "java/lang/invoke/MethodHandle" ∧ (z_nm 105).cls ≠ "java/lang/invoke/VarHandle" ∧ z_ml 105 ≤ 21 ∧ z_OKY 105 := ⟨z_inT 410 (by decide +kernel) rfl, z_inT 44 (by decide +kernel) rfl, by decide +kernel, by decide +kernel, by decide +kernel, by decide +kernel, by decide +kernel, by decide +kernel, fun h => absurd h (by decide +kernel)⟩
theorem z_y106 : Jvm.Cond.code (z_nm 106) (z_by 106) (z_ml 106) (z_rt 106) ∈ z_T ∧ Jvm.Cond.initialized (z_nm 106).cls ∈ z_T ∧ (z_nm 106).cls ≠ "java/lang/invoke/MethodHandle" ∧ (z_nm 106).cls ≠ "java/lang/invoke/VarHandle" ∧ z_ml 106 ≤ 21 ∧ z_OKY 106 := ⟨z_inT 413 (by decide +kernel) rfl, z_inT 44 (by decide +kernel) rfl, by decide +kernel, by decide +kernel, by decide +kernel, by decide +kernel, by decide +kernel, by decide +kernel, fun h => absurd h (by decide +kernel)⟩
theorem z_y107 : Jvm.Cond.code (z_nm 107) (z_by 107) (z_ml 107) (z_rt 107) ∈ z_T ∧ Jvm.Cond.initialized (z_nm 107).cls ∈ z_T ∧ (z_nm 107).cls ≠ "java/lang/invoke/MethodHandle" ∧ (z_nm 107).cls ≠ "java/lang/invoke/VarHandle" ∧ z_ml 107 ≤ 21 ∧ z_OKY 107 := ⟨z_inT 420 (by decide +kernel) rfl, z_inT 44 (by decide +kernel) rfl, by decide +kernel, by decide +kernel, by decide +kernel, by decide +kernel, by decide +kernel, by decide +kernel, fun h => absurd h (by decide +kernel)⟩
theorem z_y108 : Jvm.Cond.code (z_nm 108) (z_by 108) (z_ml 108) (z_rt 108) ∈ z_T ∧ Jvm.Cond.initialized (z_nm 108).cls ∈ z_T ∧ (z_nm 108).cls ≠ "java/lang/invoke/MethodHandle" ∧ (z_nm 108).cls ≠ "java/lang/invoke/VarHandle" ∧ z_ml 108 ≤ 21 ∧ z_OKY 108 := ⟨z_inT 518 (by decide +kernel) rfl, z_inT 44 (by decide +kernel) rfl, by decide +kernel, by decide +kernel, by decide +kernel, by decide +kernel, by decide +kernel, by decide +kernel, fun h => absurd h (by decide +kernel)⟩
theorem z_y109 : Jvm.Cond.code (z_nm 109) (z_by 109) (z_ml 109) (z_rt 109) ∈ z_T ∧ Jvm.Cond.initialized (z_nm 109).cls ∈ z_T ∧ (z_nm 109).cls ≠ "java/lang/invoke/MethodHandle" ∧ (z_nm 109).cls ≠ "java/lang/invoke/VarHandle" ∧ z_ml 109 ≤ 21 ∧ z_OKY 109 := ⟨z_inT 609 (by decide +kernel) rfl, z_inT 44 (by decide +kernel) rfl, by decide +kernel, by decide +kernel, by decide +kernel, by decide +kernel, by decide +kernel, by decide +kernel, fun h => absurd h (by decide +kernel)⟩
theorem z_y110 : Jvm.Cond.code (z_nm 110) (z_by 110) (z_ml 110) (z_rt 110) ∈ z_T ∧ Jvm.Cond.initialized (z_nm 110).cls ∈ z_T ∧ (z_nm 110).cls ≠ "java/lang/invoke/MethodHandle" ∧ (z_nm 110).cls ≠ "java/lang/invoke/VarHandle" ∧ z_ml 110 ≤ 21 ∧ z_OKY 110 := ⟨z_inT 631 (by decide +kernel) rfl, z_inT 44 (by decide +kernel) rfl, by decide +kernel, by decide +kernel, by decide +kernel, by decide +kernel, by decide +kernel, by decide +kernel, fun h => absurd h (by decide +kernel)⟩
theorem z_y111 : Jvm.Cond.code (z_nm 111) (z_by 111) (z_ml 111) (z_rt 111) ∈ z_T ∧ Jvm.Cond.initialized (z_nm 111).cls ∈ z_T ∧ (z_nm 111).cls ≠ "java/lang/invoke/MethodHandle" ∧ (z_nm 111).cls ≠ "java/lang/invoke/VarHandle" ∧ z_ml 111 ≤ 21 ∧ z_OKY 111 := ⟨z_inT 635 (by decide +kernel) rfl, z_inT 44 (by decide +kernel) rfl, by decide +kernel, by decide +kernel, by decide +kernel, by decide +kernel, by decide +kernel, by decide +kernel, fun h => absurd h (by decide +kernel)⟩
theorem z_y112 : Jvm.Cond.code (z_nm 112) (z_by 112) (z_ml 112) (z_rt 112) ∈ z_T ∧ Jvm.Cond.initialized (z_nm 112).cls ∈ z_T ∧ (z_nm 112).cls ≠ "java/lang/invoke/MethodHandle" ∧ (z_nm 112).cls ≠ "java/lang/invoke/VarHandle" ∧ z_ml 112 ≤ 21 ∧ z_OKY 112 := ⟨z_inT 639 (by decide +kernel) rfl, z_inT 44 (by decide +kernel) rfl, by decide +kernel, by decide +kernel, by decide +kernel, by decide +kernel, by decide +kernel, by decide +kernel, fun h => absurd h (by decide +kernel)⟩
theorem z_y113 : Jvm.Cond.code (z_nm 113) (z_by 113) (z_ml 113) (z_rt 113) ∈ z_T ∧ Jvm.Cond.initialized (z_nm 113).cls ∈ z_T ∧ (z_nm 113).cls ≠ "java/lang/invoke/MethodHandle" ∧ (z_nm 113).cls ≠ "java/lang/invoke/VarHandle" ∧ z_ml 113 ≤ 21 ∧ z_OKY 113 := ⟨z_inT 662 (by decide +kernel) rfl, z_inT 44 (by decide +kernel) rfl, by decide +kernel, by decide +kernel, by decide +kernel, by decide +kernel, by decide +kernel, by decide +kernel, fun h => absurd h (by decide +kernel)⟩
theorem z_y114 : Jvm.Cond.code (z_nm 114) (z_by 114) (z_ml 114) (z_rt 114) ∈ z_T ∧ Jvm.Cond.initialized (z_nm 114).cls ∈ z_T ∧ (z_nm 114).cls ≠ "java/lang/invoke/MethodHandle" ∧ (z_nm 114).cls ≠ "java/lang/invoke/VarHandle" ∧ z_ml 114 ≤ 21 ∧ z_OKY 114 := ⟨z_inT 648 (by decide +kernel) rfl, z_inT 44 (by decide +kernel) rfl, by decide +kernel, by decide +kernel, by decide +kernel, by decide +kernel, by decide +kernel, by decide +kernel, fun h => absurd h (by decide +kernel)⟩
theorem z_y115 : Jvm.Cond.code (z_nm 115) (z_by 115) (z_ml 115) (z_rt 115) ∈ z_T ∧ Jvm.Cond.initialized (z_nm 115).cls ∈ z_T ∧ (z_nm 115).cls ≠ "java/lang/invoke/MethodHandle" ∧ (z_nm 115).cls ≠ "java/lang/invoke/VarHandle" ∧ z_ml 115 ≤ 21 ∧ z_OKY 115 := ⟨z_inT 674 (by decide +kernel) rfl, z_inT 44 (by decide +kernel) rfl, by decide +kernel, by decide +kernel, by decide +kernel, by decide +kernel, by decide +kernel, by decide +kernel, fun h => absurd h (by decide +kernel)⟩
theorem z_y116 : Jvm.Cond.code (z_nm 116) (z_by 116) (z_ml 116) (z_rt 116) ∈ z_T ∧ Jvm.Cond.initialized (z_nm 116).cls ∈ z_T ∧ (z_nm 116).cls ≠ "java/lang/invoke/MethodHandle" ∧ (z_nm 116).cls ≠ "java/lang/invoke/VarHandle" ∧ z_ml 116 ≤ 21 ∧ z_OKY 116 := ⟨z_inT 678 (by decide +kernel) rfl, z_inT 44 (by decide +kernel) rfl, by decide +kernel, by decide +kernel, by decide +kernel, by decide +kernel, by decide +kernel, by decide +kernel, fun h => absurd h (by decide +kernel)⟩
theorem z_y117 : Jvm.Cond.code (z_nm 117) (z_by 117) (z_ml 117) (z_rt 117) ∈ z_T ∧ Jvm.Cond.initialized (z_nm 117).cls ∈ z_T ∧ (z_nm 117).cls ≠ "java/lang/invoke/MethodHandle" ∧ (z_nm 117).cls ≠ "java/lang/invoke/VarHandle" ∧ z_ml 117 ≤ 21 ∧ z_OKY 117 := ⟨z_inT 702 (by decide +kernel) rfl, z_inT 44 (by decide +kernel) rfl, by decide +kernel, by decide +kernel, by decide +kernel, by decide +kernel, by decide +kernel, by decide +kernel, fun h => absurd h (by decide +kernel)⟩
theorem z_y118 : Jvm.Cond.code (z_nm 118) (z_by 118) (z_ml 118) (z_rt 118) ∈ z_T ∧ Jvm.Cond.initialized (z_nm 118).cls ∈ z_T ∧ (z_nm 118).cls ≠ "java/lang/invoke/MethodHandle" ∧ (z_nm 118).cls ≠ "java/lang/invoke/VarHandle" ∧ z_ml 118 ≤ 21 ∧ z_OKY 118 := ⟨z_inT 708 (by decide +kernel) rfl, z_inT 44 (by decide +kernel) rfl, by decide +kernel, by decide +kernel, by decide +kernel, by decide +kernel, by decide +kernel, by decide +kernel, fun h => absurd h (by decide +kernel)⟩
theorem z_y119 : Jvm.Cond.code (z_nm 119) (z_by 119) (z_ml 119) (z_rt 119) ∈ z_T ∧ Jvm.Cond.initialized (z_nm 119).cls ∈ z_T ∧ (z_nm 119).cls ≠ "java/lang/invoke/MethodHandle" ∧ (z_nm 119).cls ≠ "java/lang/invoke/VarHandle" ∧ z_ml 119 ≤ 21 ∧ z_OKY 119 := ⟨z_inT 711 (by decide +kernel) rfl, z_inT 44 (by decide +kernel) rfl, by decide +kernel, by decide +kernel, by decide +kernel, by decide +kernel, by decide +kernel, by decide +kernel, fun h => absurd h (by decide +kernel)⟩
theorem z_y120 : Jvm.Cond.code (z_nm 120) (z_by 120) (z_ml 120) (z_rt 120) ∈ z_T ∧ Jvm.Cond.initialized (z_nm 120).cls ∈ z_T ∧ (z_nm 120).cls ≠ "java/lang/invoke/MethodHandle" ∧ (z_nm 120).cls ≠ "java/lang/invoke/VarHandle" ∧ z_ml 120 ≤ 21 ∧ z_OKY 120 := ⟨z_inT 714 (by decide +kernel) rfl, z_inT 44 (by decide +kernel) rfl, by decide +kernel, by decide +kernel, by decide +kernel, by decide +kernel, by decide +kernel, by decide +kernel, fun h => absurd h (by decide +kernel)⟩
theorem z_y121 : Jvm.Cond.code (z_nm 121) (z_by 121) (z_ml 121) (z_rt 121) ∈ z_T ∧ Jvm.Cond.initialized (z_nm 121).cls ∈ z_T ∧ (z_nm 121).cls ≠ "java/lang/invoke/MethodHandle" ∧ (z_nm 121).cls ≠ "java/lang/invoke/VarHandle" ∧ z_ml 121 ≤ 21 ∧ z_OKY 121 := ⟨z_inT 750 (by decide +kernel) rfl, z_inT 44 (by decide +kernel) rfl, by decide +kernel, by decide +kernel, by decide +kernel, by decide +kernel, by decide +kernel, by decide +kernel, fun h => absurd h (by decide +kernel)⟩
theorem z_y122 : Jvm.Cond.code (z_nm 122) (z_by 122) (z_ml 122) (z_rt 122) ∈ z_T ∧ Jvm.Cond.initialized (z_nm 122).cls ∈ z_T ∧ (z_nm 122).cls ≠ "java/lang/invoke/MethodHandle" ∧ (z_nm 122).cls ≠ "java/lang/invoke/VarHandle" ∧ z_ml 122 ≤ 21 ∧ z_OKY 122 := ⟨z_inT 754 (by decide +kernel) rfl, z_inT 44 (by decide +kernel) rfl, by decide +kernel, by decide +kernel, by decide +kernel, by decide +kernel, by decide +kernel, by decide +kernel, fun h => absurd h (by decide +kernel)⟩
theorem z_y123 : Jvm.Cond.code (z_nm 123) (z_by 123) (z_ml 123) (z_rt 123) ∈ z_T ∧ Jvm.Cond.initialized (z_nm 123).cls ∈ z_T ∧ (z_nm 123).cls ≠ "java/lang/invoke/MethodHandle" ∧ (z_nm 123).cls ≠ "java/lang/invoke/VarHandle" ∧ z_ml 123 ≤ 21 ∧ z_OKY 123 := ⟨z_inT 975 (by decide +kernel) rfl, z_inT 56 (by decide +kernel) rfl, by decide +kernel, by decide +kernel, by decide +kernel, by decide +kernel, by decide +kernel, by decide +kernel, fun h => absurd h (by decide +kernel)⟩
theorem z_y124 : Jvm.Cond.code (z_nm 124) (z_by 124) (z_ml 124) (z_rt 124) ∈ z_T ∧ Jvm.Cond.initialized (z_nm 124).cls ∈ z_T ∧ (z_nm 124).cls ≠ "java/lang/invoke/MethodHandle" ∧ (z_nm 124).cls ≠ "java/lang/invoke/VarHandle" ∧ z_ml 124 ≤ 21 ∧ z_OKY 124 := ⟨z_inT 1054 (by decide +kernel) rfl, z_inT 56 (by decide +kernel) rfl, by decide +kernel, by decide +kernel, by decide +kernel, by decide +kernel, by decide +kernel, by decide +kernel, fun h => absurd h (by decide +kernel)⟩
theorem z_y125 : Jvm.Cond.code (z_nm 125) (z_by 125) (z_ml 125) (z_rt 125) ∈ z_T ∧ Jvm.Cond.initialized (z_nm 125).cls ∈ z_T ∧ (z_nm 125).cls ≠ "java/lang/invoke/MethodHandle" ∧ (z_nm 125).cls ≠ "java/lang/invoke/VarHandle" ∧ z_ml 125 ≤ 21 ∧ z_OKY 125 := ⟨z_inT 1114 (by decide +kernel) rfl, z_inT 56 (by decide +kernel) rfl, by decide +kernel, by decide +kernel, by decide +kernel, by decide +kernel, by decide +kernel, by decide +kernel, fun h => absurd h (by decide +kernel)⟩
theorem z_y126 : Jvm.Cond.code (z_nm 126) (z_by 126) (z_ml 126) (z_rt 126) ∈ z_T ∧ Jvm.Cond.initialized (z_nm 126).cls ∈ z_T ∧ (z_nm 126).cls ≠ "java/lang/invoke/MethodHandle" ∧ (z_nm 126).cls ≠ "java/lang/invoke/VarHandle" ∧ z_ml 126 ≤ 21 ∧ z_OKY 126 := ⟨z_inT 1069 (by decide +kernel) rfl, z_inT 56 (by decide +kernel) rfl, by decide +kernel, by decide +kernel, by decide +kernel, by decide +kernel, by decide +kernel, by decide +kernel, fun h => absurd h (by decide +kernel)⟩
theorem z_y127 : Jvm.Cond.code (z_nm 127) (z_by 127) (z_ml 127) (z_rt 127) ∈ z_T ∧ Jvm.Cond.initialized (z_nm 127).cls ∈ z_T ∧ (z_nm 127).cls ≠ "java/lang/invoke/MethodHandle" ∧ (z_nm 127).cls ≠ "java/lang/invoke/VarHandle" ∧ z_ml 127 ≤ 21 ∧ z_OKY 127 := ⟨z_inT 1083 (by decide +kernel) rfl, z_inT 56 (by decide +kernel) rfl, by decide +kernel, by decide +kernel, by decide +kernel, by decide +kernel, by decide +kernel, by decide +kernel, fun h => absurd h (by decide +kernel)⟩
theorem z_y128 : Jvm.Cond.code (z_nm 128) (z_by 128) (z_ml 128) (z_rt 128) ∈ z_T ∧ Jvm.Cond.initialized (z_nm 128).cls ∈ z_T ∧ (z_nm 128).cls ≠ "java/lang/invoke/MethodHandle" ∧ (z_nm 128).cls ≠ "java/lang/invoke/VarHandle" ∧ z_ml 128 ≤ 21 ∧ z_OKY 128 := ⟨z_inT 1087 (by decide +kernel) rfl, z_inT 56 (by decide +kernel) rfl, by decide +kernel, by decide +kernel, by decide +kernel, by decide +kernel, by decide +kernel, by decide +kernel, fun h => absurd h (by decide +kernel)⟩
theorem z_y129 : Jvm.Cond.code (z_nm 129) (z_by 129) (z_ml 129) (z_rt 129) ∈ z_T ∧ Jvm.Cond.initialized (z_nm 129).cls ∈ z_T ∧ (z_nm 129).cls ≠ "java/lang/invoke/MethodHandle" ∧ (z_nm 129).cls ≠ "java/lang/invoke/VarHandle" ∧ z_ml 129 ≤ 21 ∧ z_OKY 129 := ⟨z_inT 1076 (by decide +kernel) rfl, z_inT 56 (by decide +kernel) rfl, by decide +kernel, by decide +kernel, by decide +kernel, by decide +kernel, by decide +kernel, by decide +kernel, fun h => absurd h (by decide +kernel)⟩
theorem z_y130 : Jvm.Cond.code (z_nm 130) (z_by 130) (z_ml 130) (z_rt 130) ∈ z_T ∧ Jvm.Cond.initialized (z_nm 130).cls ∈ z_T ∧ (z_nm 130).cls ≠ "java/lang/invoke/MethodHandle" ∧ (z_nm 130).cls ≠ "java/lang/invoke/VarHandle" ∧ z_ml 130 ≤ 21 ∧ z_OKY 130 := ⟨z_inT 1201 (by decide +kernel) rfl, z_inT 56 (by decide +kernel) rfl, by decide +kernel, by decide +kernel, by decide +kernel, by decide +kernel, by decide +kernel, by decide +kernel, fun h => absurd h (by decide +kernel)⟩
theorem z_y131 : Jvm.Cond.code (z_nm 131) (z_by 131) (z_ml 131) (z_rt 131) ∈ z_T ∧ Jvm.Cond.initialized (z_nm 131).cls ∈ z_T ∧ (z_nm 131).cls ≠ "java/lang/invoke/MethodHandle" ∧ (z_nm 131).cls ≠ "java/lang/invoke/VarHandle" ∧ z_ml 131 ≤ 21 ∧ z_OKY 131 := ⟨z_inT 1211 (by decide +kernel) rfl, z_inT 56 (by decide +kernel) rfl, by decide +kernel, by decide +kernel, by decide +kernel, by decide +kernel, by decide +kernel, by decide +kernel, fun h => absurd h (by decide +kernel)⟩
theorem z_y132 : Jvm.Cond.code (z_nm 132) (z_by 132) (z_ml 132) (z_rt 132) ∈ z_T ∧ Jvm.Cond.initialized (z_nm 132).cls ∈ z_T ∧ (z_nm 132).cls ≠ "java/lang/invoke/MethodHandle" ∧ (z_nm 132).cls ≠ "java/lang/invoke/VarHandle" ∧ z_ml 132 ≤ 21 ∧ z_OKY 132 := ⟨z_inT 1096 (by decide +kernel) rfl, z_inT 56 (by decide +kernel) rfl, by decide +kernel, by decide +kernel, by decide +kernel, by decide +kernel, by decide +kernel, by decide +kernel, fun h => absurd h (by decide +kernel)⟩
theorem z_y133 : Jvm.Cond.code (z_nm 133) (z_by 133) (z_ml 133) (z_rt 133) ∈ z_T ∧ Jvm.Cond.initialized (z_nm 133).cls ∈ z_T ∧ (z_nm 133).cls ≠ "java/lang/invoke/MethodHandle" ∧ (z_nm 133).cls ≠ "java/lang/invoke/VarHandle" ∧ z_ml 133 ≤ 21 ∧ z_OKY 133 := ⟨z_inT 1105 (by decide +kernel) rfl, z_inT 56 (by decide +kernel) rfl, by decide +kernel, by decide +kernel, by decide +kernel, by decide +kernel, by decide +kernel, by decide +kernel, fun h => absurd h (by decide +kernel)⟩
theorem z_y134 : Jvm.Cond.code (z_nm 134) (z_by 134) (z_ml 134) (z_rt 134) ∈ z_T ∧ Jvm.Cond.initialized (z_nm 134).cls ∈ z_T ∧ (z_nm 134).cls ≠ "java/lang/invoke/MethodHandle" ∧ (z_nm 134).cls ≠ "java/lang/invoke/VarHandle" ∧ z_ml 134 ≤ 21 ∧ z_OKY 134 := ⟨z_inT 1111 (by decide +kernel) rfl, z_inT 56 (by decide +kernel) rfl, by decide +kernel, by decide +kernel, by decide +kernel, by decide +kernel, by decide +kernel, by decide +kernel, fun h => absurd h (by decide +kernel)⟩
theorem z_y135 : Jvm.Cond.code (z_nm 135) (z_by 135) (z_ml 135) (z_rt 135) ∈ z_T ∧ Jvm.Cond.initialized (z_nm 135).cls ∈ z_T ∧ (z_nm 135).cls ≠ "java/lang/invoke/MethodHandle" ∧ (z_nm 135).cls ≠ "java/lang/invoke/VarHandle" ∧ z_ml 135 ≤ 21 ∧ z_OKY 135 := ⟨z_inT 1093 (by decide +kernel) rfl, z_inT 56 (by decide +kernel) rfl, by decide +kernel, by decide +kernel, by decide +kernel, by decide +kernel, by decide +kernel, by decide +kernel, fun h => absurd h (by decide +kernel)⟩
theorem z_y136 : Jvm.Cond.code (z_nm 136) (z_by 136) (z_ml 136) (z_rt 136) ∈ z_T ∧ Jvm.Cond.initialized (z_nm 136).cls ∈ z_T ∧ (z_nm 136).cls ≠ "java/lang/invoke/MethodHandle" ∧ (z_nm 136).cls ≠ "java/lang/invoke/VarHandle" ∧ z_ml 136 ≤ 21 ∧ z_OKY 136 := ⟨z_inT 1102 (by decide +kernel) rfl, z_inT 56 (by decide +kernel) rfl, by decide +kernel, by decide +kernel, by decide +kernel, by decide +kernel, by decide +kernel, by decide +kernel, fun h => absurd h (by decide +kernel)⟩
theorem z_y137 : Jvm.Cond.code (z_nm 137) (z_by 137) (z_ml 137) (z_rt 137) ∈ z_T ∧ Jvm.Cond.initialized (z_nm 137).cls ∈ z_T ∧ (z_nm 137).cls ≠ "java/lang/invoke/MethodHandle" ∧ (z_nm 137).cls ≠ "java/lang/invoke/VarHandle" ∧ z_ml 137 ≤ 21 ∧ z_OKY 137 := ⟨z_inT 1108 (by decide +kernel) rfl, z_inT 56 (by decide +kernel) rfl, by decide +kernel, by decide +kernel, by decide +kernel, by decide +kernel, by decide +kernel, by decide +kernel, fun h => absurd h (by decide +kernel)⟩
theorem z_y138 : Jvm.Cond.code (z_nm 138) (z_by 138) (z_ml 138) (z_rt 138) ∈ z_T ∧ Jvm.Cond.initialized (z_nm 138).cls ∈ z_T ∧ (z_nm 138).cls ≠ "java/lang/invoke/MethodHandle" ∧ (z_nm 138).cls ≠ "java/lang/invoke/VarHandle" ∧ z_ml 138 ≤ 21 ∧ z_OKY 138 := ⟨z_inT 1099 (by decide +kernel) rfl, z_inT 56 (by decide +kernel) rfl, by decide +kernel, by decide +kernel, by decide +kernel, by decide +kernel, by decide +kernel, by decide +kernel, fun h => absurd h (by decide +kernel)⟩
theorem z_y139 : Jvm.Cond.code (z_nm 139) (z_by 139) (z_ml 139) (z_rt 139) ∈ z_T ∧ Jvm.Cond.initialized (z_nm 139).cls ∈ z_T ∧ (z_nm 139).cls ≠ "java/lang/invoke/MethodHandle" ∧ (z_nm 139).cls ≠ "java/lang/invoke/VarHandle" ∧ z_ml 139 ≤ 21 ∧ z_OKY 139 := ⟨z_inT 1090 (by decide +kernel) rfl, z_inT 56 (by decide +kernel) rfl, by decide +kernel, by decide +kernel, by decide +kernel, by decide +kernel, by decide +kernel, by decide +kernel, fun h => absurd h (by decide +kernel)⟩
theorem z_y140 : Jvm.Cond.code (z_nm 140) (z_by 140) (z_ml 140) (z_rt 140) ∈ z_T ∧ Jvm.Cond.initialized (z_nm 140).cls ∈ z_T ∧ (z_nm 140).cls ≠ "java/lang/invoke/MethodHandle" ∧ (z_nm 140).cls ≠ "java/lang/invoke/VarHandle" ∧ z_ml 140 ≤ 21 ∧ z_OKY 140 := ⟨z_inT 1125 (by decide +kernel) rfl, z_inT 56 (by decide +kernel) rfl, by decide +kernel, by decide +kernel, by decide +kernel, by decide +kernel, by decide +kernel, by decide +kernel, fun h => absurd h (by decide +kernel)⟩
theorem z_y141 : Jvm.Cond.code (z_nm 141) (z_by 141) (z_ml 141) (z_rt 141) ∈ z_T ∧ Jvm.Cond.initialized (z_nm 141).cls ∈ z_T ∧ (z_nm 141).cls ≠ "java/lang/invoke/MethodHandle" ∧ (z_nm 141).cls ≠ "java/lang/invoke/VarHandle" ∧ z_ml 141 ≤ 21 ∧ z_OKY 141 := ⟨z_inT 1062 (by decide +kernel) rfl, z_inT 56 (by decide +kernel) rfl, by decide +kernel, by decide +kernel, by decide +kernel, by decide +kernel, by decide +kernel, by decide +kernel, fun h => absurd h (by decide +kernel)⟩
theorem z_y142 : Jvm.Cond.code (z_nm 142) (z_by 142) (z_ml 142) (z_rt 142) ∈ z_T ∧ Jvm.Cond.initialized (z_nm 142).cls ∈ z_T ∧ (z_nm 142).cls ≠ "java/lang/invoke/MethodHandle" ∧ (z_nm 142).cls ≠ "java/lang/invoke/VarHandle" ∧ z_ml 142 ≤ 21 ∧ z_OKY 142 := ⟨z_inT 1066 (by decide +kernel) rfl, z_inT 56 (by decide +kernel) rfl, by decide +kernel, by decide +kernel, by decide +kernel, by decide +kernel, by decide +kernel, by decide +kernel, fun h => absurd h (by decide +kernel)⟩
theorem z_y143 : Jvm.Cond.code (z_nm 143) (z_by 143) (z_ml 143) (z_rt 143) ∈ z_T ∧ Jvm.Cond.initialized (z_nm 143).cls ∈ z_T ∧ (z_nm 143).cls ≠ "java/lang/invoke/MethodHandle" ∧ (z_nm 143).cls ≠ "java/lang/invoke/VarHandle" ∧ z_ml 143 ≤ 21 ∧ z_OKY 143 := ⟨z_inT 1058 (by decide +kernel) rfl, z_inT 56 (by decide +kernel) rfl, by decide +kernel, by decide +kernel, by decide +kernel, by decide +kernel, by decide +kernel, by decide +kernel, fun h => absurd h (by decide +kernel)⟩
theorem z_y144 : Jvm.Cond.code (z_nm 144) (z_by 144) (z_ml 144) (z_rt 144) ∈ z_T ∧ Jvm.Cond.initialized (z_nm 144).cls ∈ z_T ∧ (z_nm 144).cls ≠ "java/lang/invoke/MethodHandle" ∧ (z_nm 144).cls ≠ "java/lang/invoke/VarHandle" ∧ z_ml 144 ≤ 21 ∧ z_OKY 144 := ⟨z_inT 1080 (by decide +kernel) rfl, z_inT 56 (by decide +kernel) rfl, by decide +kernel, by decide +kernel, by decide +kernel, by decide +kernel, by decide +kernel, by decide +kernel, fun h => absurd h (by decide +kernel)⟩
theorem z_y145 : Jvm.Cond.code (z_nm 145) (z_by 145) (z_ml 145) (z_rt 145) ∈ z_T ∧ Jvm.Cond.initialized (z_nm 145).cls ∈ z_T ∧ (z_nm 145).cls ≠ "java/lang/invoke/MethodHandle" ∧ (z_nm 145).cls ≠ "java/lang/invoke/VarHandle" ∧ z_ml 145 ≤ 21 ∧ z_OKY 145 := ⟨z_inT 1118 (by decide +kernel) rfl, z_inT 56 (by decide +kernel) rfl, by decide +kernel, by decide +kernel, by decide +kernel, by decide +kernel, by decide +kernel, by decide +kernel, fun h => absurd h (by decide +kernel)⟩
theorem z_y146 : Jvm.Cond.code (z_nm 146) (z_by 146) (z_ml 146) (z_rt 146) ∈ z_T ∧ Jvm.Cond.initialized (z_nm 146).cls ∈ z_T ∧ (z_nm 146).cls ≠ "java/lang/invoke/MethodHandle" ∧ (z_nm 146).cls ≠ "java/lang/invoke/VarHandle" ∧ z_ml 146 ≤ 21 ∧ z_OKY 146 := ⟨z_inT 1122 (by decide +kernel) rfl, z_inT 56 (by decide +kernel) rfl, by decide +kernel, by decide +kernel, by decide +kernel, by decide +kernel, by decide +kernel, by decide +kernel, fun h => absurd h (by decide +kernel)⟩
theorem z_y147 : Jvm.Cond.code (z_nm 147) (z_by 147) (z_ml 147) (z_rt 147) ∈ z_T ∧ Jvm.Cond.initialized (z_nm 147).cls ∈ z_T ∧ (z_nm 147).cls ≠ "java/lang/invoke/MethodHandle" ∧ (z_nm 147).cls ≠ "java/lang/invoke/VarHandle" ∧ z_ml 147 ≤ 21 ∧ z_OKY 147 := ⟨z_inT 1073 (by decide +kernel) rfl, z_inT 56 (by decide +kernel) rfl, by decide +kernel, by decide +kernel, by decide +kernel, by decide +kernel, by decide +kernel, by decide +kernel, fun h => absurd h (by decide +kernel)⟩
theorem z_y148 : Jvm.Cond.code (z_nm 148) (z_by 148) (z_ml 148) (z_rt 148) ∈ z_T ∧ Jvm.Cond.initialized (z_nm 148).cls ∈ z_T ∧ (z_nm 148).cls ≠ "java/lang/invoke/MethodHandle" ∧ (z_nm 148).cls ≠ "java/lang/invoke/VarHandle" ∧ z_ml 148 ≤ 21 ∧ z_OKY 148 := ⟨z_inT 1044 (by decide +kernel) rfl, z_inT 56 (by decide +kernel) rfl, by decide +kernel, by decide +kernel, by decide +kernel, by decide +kernel, by decide +kernel, by decide +kernel, fun h => absurd h (by decide +kernel)⟩
theorem z_y149 : Jvm.Cond.code (z_nm 149) (z_by 149) (z_ml 149) (z_rt 149) ∈ z_T ∧ Jvm.Cond.initialized (z_nm 149).cls ∈ z_T ∧ (z_nm 149).cls ≠ "java/lang/invoke/MethodHandle" ∧ (z_nm 149).cls ≠ "java/lang/invoke/VarHandle" ∧ z_ml 149 ≤ 21 ∧ z_OKY 149 := ⟨z_inT 1129 (by decide +kernel) rfl, z_inT 56 (by decide +kernel) rfl, by decide +kernel, by decide +kernel, by decide +kernel, by decide +kernel, by decide +kernel, by decide +kernel, fun h => absurd h (by decide +kernel)⟩
theorem z_y150 : Jvm.Cond.code (z_nm 150) (z_by 150) (z_ml 150) (z_rt 150) ∈ z_T ∧ Jvm.Cond.initialized (z_nm 150).cls ∈ z_T ∧ (z_nm 150).cls ≠ "java/lang/invoke/MethodHandle" ∧ (z_nm 150).cls ≠ "java/lang/invoke/VarHandle" ∧ z_ml 150 ≤ 21 ∧ z_OKY 150 := ⟨z_inT 1133 (by decide +kernel) rfl, z_inT 56 (by decide +kernel) rfl, by decide +kernel, by decide +kernel, by decide +kernel, by decide +kernel, by decide +kernel, by decide +kernel, fun h => absurd h (by decide +kernel)⟩
theorem z_y151 : Jvm.Cond.code (z_nm 151) (z_by 151) (z_ml 151) (z_rt 151) ∈ z_T ∧ Jvm.Cond.initialized (z_nm 151).cls ∈ z_T ∧ (z_nm 151).cls ≠ "java/lang/invoke/MethodHandle" ∧ (z_nm 151).cls ≠ "java/lang/invoke/VarHandle" ∧ z_ml 151 ≤ 21 ∧ z_OKY 151 := ⟨z_inT 1141 (by decide +kernel) rfl, z_inT 56 (by decide +kernel) rfl, by decide +kernel, by decide +kernel, by decide +kernel, by decide +kernel, by decide +kernel, by decide +kernel, fun h => absurd h (by decide +kernel)⟩
theorem z_y152 : Jvm.Cond.code (z_nm 152) (z_by 152) (z_ml 152) (z_rt 152) ∈ z_T ∧ Jvm.Cond.initialized (z_nm 152).cls ∈ z_T ∧ (z_nm 152).cls ≠ "java/lang/invoke/MethodHandle" ∧ (z_nm 152).cls ≠ "java/lang/invoke/VarHandle" ∧ z_ml 152 ≤ 21 ∧ z_OKY 152 := ⟨z_inT 1145 (by decide +kernel) rfl, z_inT 56 (by decide +kernel) rfl, by decide +kernel, by decide +kernel, by decide +kernel, by decide +kernel, by decide +kernel, by decide +kernel, fun h => absurd h (by decide +kernel)⟩
theorem z_y153 : Jvm.Cond.code (z_nm 153) (z_by 153) (z_ml 153) (z_rt 153) ∈ z_T ∧ Jvm.Cond.initialized (z_nm 153).cls ∈ z_T ∧ (z_nm 153).cls ≠ "java/lang/invoke/MethodHandle" ∧ (z_nm 153).cls ≠ "java/lang/invoke/VarHandle" ∧ z_ml 153 ≤ 21 ∧ z_OKY 153 := ⟨z_inT 1149 (by decide +kernel) rfl, z_inT 56 (by decide +kernel) rfl, by decide +kernel, by decide +kernel, by decide +kernel, by decide +kernel, by decide +kernel, by decide +kernel, fun h => absurd h (by decide +kernel)⟩
theorem z_y154 : Jvm.Cond.code (z_nm 154) (z_by 154) (z_ml 154) (z_rt 154) ∈ z_T ∧ Jvm.Cond.initialized (z_nm 154).cls ∈ z_T ∧ (z_nm 154).cls ≠ "java/lang/invoke/MethodHandle" ∧ (z_nm 154).cls ≠ "java/lang/invoke/VarHandle" ∧ z_ml 154 ≤ 21 ∧ z_OKY 154 := ⟨z_inT 1157 (by decide +kernel) rfl, z_inT 56 (by decide +kernel) rfl, by decide +kernel, by decide +kernel, by decide +kernel, by decide +kernel, by decide +kernel, by decide +kernel, fun h => absurd h (by decide +kernel)⟩
theorem z_y155 : Jvm.Cond.code (z_nm 155) (z_by 155) (z_ml 155) (z_rt 155) ∈ z_T ∧ Jvm.Cond.initialized (z_nm 155).cls ∈ z_T ∧ (z_nm 155).cls ≠ "java/lang/invoke/MethodHandle" ∧ (z_nm 155).cls ≠ "java/lang/invoke/VarHandle" ∧ z_ml 155 ≤ 21 ∧ z_OKY 155 := ⟨z_inT 1153 (by decide +kernel) rfl, z_inT 56 (by decide +kernel) rfl, by decide +kernel, by decide +kernel, by decide +kernel, by decide +kernel, by decide +kernel, by decide +kernel, fun h => absurd h (by decide +kernel)⟩
theorem z_y156 : Jvm.Cond.code (z_nm 156) (z_by 156) (z_ml 156) (z_rt 156) ∈ z_T ∧ Jvm.Cond.initialized (z_nm 156).cls ∈ z_T ∧ (z_nm 156).cls ≠ "java/lang/invoke/MethodHandle" ∧ (z_nm 156).cls ≠ "java/lang/invoke/VarHandle" ∧ z_ml 156 ≤ 21 ∧ z_OKY 156 := ⟨z_inT 1165 (by decide +kernel) rfl, z_inT 56 (by decide +kernel) rfl, by decide +kernel, by decide +kernel, by decide +kernel, by decide +kernel, by decide +kernel, by decide +kernel, fun h => absurd h (by decide +kernel)⟩
theorem z_y157 : Jvm.Cond.code (z_nm 157) (z_by 157) (z_ml 157) (z_rt 157) ∈ z_T ∧ Jvm.Cond.initialized (z_nm 157).cls ∈ z_T ∧ (z_nm 157).cls ≠ "java/lang/invoke/MethodHandle" ∧ (z_nm 157).cls ≠ "java/lang/invoke/VarHandle" ∧ z_ml 157 ≤ 21 ∧ z_OKY 157 := ⟨z_inT 1161 (by decide +kernel) rfl, z_inT 56 (by decide +kernel) rfl, by decide +kernel, by decide +kernel, by decide +kernel, by decide +kernel, by decide +kernel, by decide +kernel, fun h => absurd h (by decide +kernel)⟩
theorem z_y158 : Jvm.Cond.code (z_nm 158) (z_by 158) (z_ml 158) (z_rt 158) ∈ z_T ∧ Jvm.Cond.initialized (z_nm 158).cls ∈ z_T ∧ (z_nm 158).cls ≠ "java/lang/invoke/MethodHandle" ∧ (z_nm 158).cls ≠ "java/lang/invoke/VarHandle" ∧ z_ml 158 ≤ 21 ∧ z_OKY 158 := ⟨z_inT 1169 (by decide +kernel) rfl, z_inT 56 (by decide +kernel) rfl, by decide +kernel, by decide +kernel, by decide +kernel, by decide +kernel, by decide +kernel, by decide +kernel, fun h => absurd h (by decide +kernel)⟩
theorem z_y159 : Jvm.Cond.code (z_nm 159) (z_by 159) (z_ml 159) (z_rt 159) ∈ z_T ∧ Jvm.Cond.initialized (z_nm 159).cls ∈ z_T ∧ (z_nm 159).cls ≠ "java/lang/invoke/MethodHandle" ∧ (z_nm 159).cls ≠ "java/lang/invoke/VarHandle" ∧ z_ml 159 ≤ 21 ∧ z_OKY 159 := ⟨z_inT 1177 (by decide +kernel) rfl, z_inT 56 (by decide +kernel) rfl, by decide +kernel, by decide +kernel, by decide +kernel, by decide +kernel, by decide +kernel, by decide +kernel, fun h => absurd h (by decide +kernel)⟩
theorem z_y160 : Jvm.Cond.code (z_nm 160) (z_by 160) (z_ml 160) (z_rt 160) ∈ z_T ∧ Jvm.Cond.initialized (z_nm 160).cls ∈ z_T ∧ (z_nm 160).cls ≠ "java/lang/invoke/MethodHandle" ∧ (z_nm 160).cls ≠ "java/lang/invoke/VarHandle" ∧ z_ml 160 ≤ 21 ∧ z_OKY 160 := ⟨z_inT 1173 (by decide +kernel) rfl, z_inT 56 (by decide +kernel) rfl, by decide +kernel, by decide +kernel, by decide +kernel, by decide +kernel, by decide +kernel, by decide +kernel, fun h => absurd h (by decide +kernel)⟩
theorem z_y161 : Jvm.Cond.code (z_nm 161) (z_by 161) (z_ml 161) (z_rt 161) ∈ z_T ∧ Jvm.Cond.initialized (z_nm 161).cls ∈ z_T ∧ (z_nm 161).cls ≠ "java/lang/invoke/MethodHandle" ∧ (z_nm 161).cls ≠ "java/lang/invoke/VarHandle" ∧ z_ml 161 ≤ 21 ∧ z_OKY 161 := ⟨z_inT 1181 (by decide +kernel) rfl, z_inT 56 (by decide +kernel) rfl, by decide +kernel, by decide +kernel, by decide +kernel, by decide +kernel, by decide +kernel, by decide +kernel, fun h => absurd h (by decide +kernel)⟩
theorem z_y162 : Jvm.Cond.code (z_nm 162) (z_by 162) (z_ml 162) (z_rt 162) ∈ z_T ∧ Jvm.Cond.initialized (z_nm 162).cls ∈ z_T ∧ (z_nm 162).cls ≠ "java/lang/invoke/MethodHandle" ∧ (z_nm 162).cls ≠ "java/lang/invoke/VarHandle" ∧ z_ml 162 ≤ 21 ∧ z_OKY 162 := ⟨z_inT 1185 (by decide +kernel) rfl, z_inT 56 (by decide +kernel) rfl, by decide +kernel, by decide +kernel, by decide +kernel, by decide +kernel, by decide +kernel, by decide +kernel, fun h => absurd h (by decide +kernel)⟩
theorem z_y163 : Jvm.Cond.code (z_nm 163) (z_by 163) (z_ml 163) (z_rt 163) ∈ z_T ∧ Jvm.Cond.initialized (z_nm 163).cls ∈ z_T ∧ (z_nm 163).cls ≠ "java/lang/invoke/MethodHandle" ∧ (z_nm 163).cls ≠ "java/lang/invoke/VarHandle" ∧ z_ml 163 ≤ 21 ∧ z_OKY 163 := ⟨z_inT 1189 (by decide +kernel) rfl, z_inT 56 (by decide +kernel) rfl, by decide +kernel, by decide +kernel, by decide +kernel, by decide +kernel, by decide +kernel, by decide +kernel, fun h => absurd h (by decide +kernel)⟩
theorem z_y164 : Jvm.Cond.code (z_nm 164) (z_by 164) (z_ml 164) (z_rt 164) ∈ z_T ∧ Jvm.Cond.initialized (z_nm 164).cls ∈ z_T ∧ (z_nm 164).cls ≠ "java/lang/invoke/MethodHandle" ∧ (z_nm 164).cls ≠ "java/lang/invoke/VarHandle" ∧ z_ml 164 ≤ 21 ∧ z_OKY 164 := ⟨z_inT 1208 (by decide +kernel) rfl, z_inT 56 (by decide +kernel) rfl, by decide +kernel, by decide +kernel, by decide +kernel, by decide +kernel, by decide +kernel, by decide +kernel, fun h => absurd h (by decide +kernel)⟩
theorem z_y165 : Jvm.Cond.code (z_nm 165) (z_by 165) (z_ml 165) (z_rt 165) ∈ z_T ∧ Jvm.Cond.initialized (z_nm 165).cls ∈ z_T ∧ (z_nm 165).cls ≠ "java/lang/invoke/MethodHandle" ∧ (z_nm 165).cls ≠ "java/lang/invoke/VarHandle" ∧ z_ml 165 ≤ 21 ∧ z_OKY 165 := ⟨z_inT 1204 (by decide +kernel) rfl, z_inT 56 (by decide +kernel) rfl, by decide +kernel, by decide +kernel, by decide +kernel, by decide +kernel, by decide +kernel, by decide +kernel, fun h => absurd h (by decide +kernel)⟩
theorem z_y166 : Jvm.Cond.code (z_nm 166) (z_by 166) (z_ml 166) (z_rt 166) ∈ z_T ∧ Jvm.Cond.initialized (z_nm 166).cls ∈ z_T ∧ (z_nm 166).cls ≠ "java/lang/invoke/MethodHandle" ∧ (z_nm 166).cls ≠ "java/lang/invoke/VarHandle" ∧ z_ml 166 ≤ 21 ∧ z_OKY 166 := ⟨z_inT 1198 (by decide +kernel) rfl, z_inT 56 (by decide +kernel) rfl, by decide +kernel, by decide +kernel, by decide +kernel, by decide +kernel, by decide +kernel, by decide +kernel, fun h => absurd h (by decide +kernel)⟩
theorem z_y167 : Jvm.Cond.code (z_nm 167) (z_by 167) (z_ml 167) (z_rt 167) ∈ z_T ∧ Jvm.Cond.initialized (z_nm 167).cls ∈ z_T ∧ (z_nm 167).cls ≠ "java/lang/invoke/MethodHandle" ∧ (z_nm 167).cls ≠ "java/lang/invoke/VarHandle" ∧ z_ml 167 ≤ 21 ∧ z_OKY 167 := ⟨z_inT 1194 (by decide +kernel) rfl, z_inT 56 (by decide +kernel) rfl, by decide +kernel, by decide +kernel, by decide +kernel, by decide +kernel, by decide +kernel, by decide +kernel, fun h => absurd h (by decide +kernel)⟩
theorem z_y168 : Jvm.Cond.code (z_nm 168) (z_by 168) (z_ml 168) (z_rt 168) ∈ z_T ∧ Jvm.Cond.initialized (z_nm 168).cls ∈ z_T ∧ (z_nm 168).cls ≠ "java/lang/invoke/MethodHandle" ∧ (z_nm 168).cls ≠ "java/lang/invoke/VarHandle" ∧ z_ml 168 ≤ 21 ∧ z_OKY 168 := ⟨z_inT 1219 (by decide +kernel) rfl, z_inT 56 (by decide +kernel) rfl, by decide +kernel, by decide +kernel, by decide +kernel, by decide +kernel, by decide +kernel, by decide +kernel, fun h => absurd h (by decide +kernel)⟩
theorem z_y169 : Jvm.Cond.code (z_nm 169) (z_by 169) (z_ml 169) (z_rt 169) ∈ z_T ∧ Jvm.Cond.initialized (z_nm 169).cls ∈ z_T ∧ (z_nm 169).cls ≠ "java/lang/invoke/MethodHandle" ∧ (z_nm 169).cls ≠ "java/lang/invoke/VarHandle" ∧ z_ml 169 ≤ 21 ∧ z_OKY 169 := ⟨z_inT 1215 (by decide +kernel) rfl, z_inT 56 (by decide +kernel) rfl, by decide +kernel, by decide +kernel, by decide +kernel, by decide +kernel, by decide +kernel, by decide +kernel, fun h => absurd h (by decide +kernel)⟩
theorem z_y170 : Jvm.Cond.code (z_nm 170) (z_by 170) (z_ml 170) (z_rt 170) ∈ z_T ∧ Jvm.Cond.initialized (z_nm 170).cls ∈ z_T ∧ (z_nm 170).cls ≠ "java/lang/invoke/MethodHandle" ∧ (z_nm 170).cls ≠ "java/lang/invoke/VarHandle" ∧ z_ml 170 ≤ 21 ∧ z_OKY 170 := ⟨z_inT 1223 (by decide +kernel) rfl, z_inT 56 (by decide +kernel) rfl, by decide +kernel, by decide +kernel, by decide +kernel, by decide +kernel, by decide +kernel, by decide +kernel, fun h => absurd h (by decide +kernel)⟩
theorem z_y171 : Jvm.Cond.code (z_nm 171) (z_by 171) (z_ml 171) (z_rt 171) ∈ z_T ∧ Jvm.Cond.initialized (z_nm 171).cls ∈ z_T ∧ (z_nm 171).cls ≠ "java/lang/invoke/MethodHandle" ∧ (z_nm 171).cls ≠ "java/lang/invoke/VarHandle" ∧ z_ml 171 ≤ 21 ∧ z_OKY 171 := ⟨z_inT 1227 (by decide +kernel) rfl, z_inT 56 (by decide +kernel) rfl, by decide +kernel, by decide +kernel, by decide +kernel, by decide +kernel, by decide +kernel, by decide +kernel, fun h => absurd h (by decide +kernel)⟩
theorem z_y172 : Jvm.Cond.code (z_nm 172) (z_by 172) (z_ml 172) (z_rt 172) ∈ z_T ∧ Jvm.Cond.initialized (z_nm 172).cls ∈ z_T ∧ (z_nm 172).cls ≠ "java/lang/invoke/MethodHandle" ∧ (z_nm 172).cls ≠ "java/lang/invoke/VarHandle" ∧ z_ml 172 ≤ 21 ∧ z_OKY 172 := ⟨z_inT 1246 (by decide +kernel) rfl, z_inT 56 (by decide +kernel) rfl, by decide +kernel, by decide +kernel, by decide +kernel, by decide +kernel, by decide +kernel, by decide +kernel, fun h => absurd h (by decide +kernel)⟩
theorem z_y173 : Jvm.Cond.code (z_nm 173) (z_by 173) (z_ml 173) (z_rt 173) ∈ z_T ∧ Jvm.Cond.initialized (z_nm 173).cls ∈ z_T ∧ (z_nm 173).cls ≠ "java/lang/invoke/MethodHandle" ∧ (z_nm 173).cls ≠ "java/lang/invoke/VarHandle" ∧ z_ml 173 ≤ 21 ∧ z_OKY 173 := ⟨z_inT 1235 (by decide +kernel) rfl, z_inT 56 (by decide +kernel) rfl, by decide +kernel, by decide +kernel, by decide +kernel, by decide +kernel, by decide +kernel, by decide +kernel, fun h => absurd h (by decide +kernel)⟩
theorem z_y174 : Jvm.Cond.code (z_nm 174) (z_by 174) (z_ml 174) (z_rt 174) ∈ z_T ∧ Jvm.Cond.initialized (z_nm 174).cls ∈ z_T ∧ (z_nm 174).cls ≠ "java/lang/invoke/MethodHandle" ∧ (z_nm 174).cls ≠ "java/lang/invoke/VarHandle" ∧ z_ml 174 ≤ 21 ∧ z_OKY 174 := ⟨z_inT 1243 (by decide +kernel) rfl, z_inT 56 (by decide +kernel) rfl, by decide +kernel, by decide +kernel, by decide +kernel, by decide +kernel, by decide +kernel, by decide +kernel, fun h => absurd h (by decide +kernel)⟩
theorem z_y175 : Jvm.Cond.code (z_nm 175) (z_by 175) (z_ml 175) (z_rt 175) ∈ z_T ∧ Jvm.Cond.initialized (z_nm 175).cls ∈ z_T ∧ (z_nm 175).cls ≠ "java/lang/invoke/MethodHandle" ∧ (z_nm 175).cls ≠ "java/lang/invoke/VarHandle" ∧ z_ml 175 ≤ 21 ∧ z_OKY 175 := ⟨z_inT 1239 (by decide +kernel) rfl, z_inT 56 (by decide +kernel) rfl, by decide +kernel, by decide +kernel, by decide +kernel, by decide +kernel, by decide +kernel, by decide +kernel, fun h => absurd h (by decide +kernel)⟩
theorem z_y176 : Jvm.Cond.code (z_nm 176) (z_by 176) (z_ml 176) (z_rt 176) ∈ z_T ∧ Jvm.Cond.initialized (z_nm 176).cls ∈ z_T ∧ (z_nm 176).cls ≠ "java/lang/invoke/MethodHandle" ∧ (z_nm 176).cls ≠ "java/lang/invoke/VarHandle" ∧ z_ml 176 ≤ 21 ∧ z_OKY 176 := ⟨z_inT 1231 (by decide +kernel) rfl, z_inT 56 (by decide +kernel) rfl, by decide +kernel, by decide +kernel, by decide +kernel, by decide +kernel, by decide +kernel, by decide +kernel, fun h => absurd h (by decide +kernel)⟩
theorem z_y177 : Jvm.Cond.code (z_nm 177) (z_by 177) (z_ml 177) (z_rt 177) ∈ z_T ∧ Jvm.Cond.initialized (z_nm 177).cls ∈ z_T ∧ (z_nm 177).cls ≠ "java/lang/invoke/MethodHandle" ∧ (z_nm 177).cls ≠ "java/lang/invoke/VarHandle" ∧ z_ml 177 ≤ 21 ∧ z_OKY 177 := ⟨z_inT 1257 (by decide +kernel) rfl, z_inT 56 (by decide +kernel) rfl, by decide +kernel, by decide +kernel, by decide +kernel, by decide +kernel, by decide +kernel, by decide +kernel, fun h => absurd h (by decide +kernel)⟩
theorem z_y178 : Jvm.Cond.code (z_nm 178) (z_by 178) (z_ml 178) (z_rt 178) ∈ z_T ∧ Jvm.Cond.initialized (z_nm 178).cls ∈ z_T ∧ (z_nm 178).cls ≠ "java/lang/invoke/MethodHandle" ∧ (z_nm 178).cls ≠ "java/lang/invoke/VarHandle" ∧ z_ml 178 ≤ 21 ∧ z_OKY 178 := ⟨z_inT 1254 (by decide +kernel) rfl, z_inT 56 (by decide +kernel) rfl, by decide +kernel, by decide +kernel, by decide +kernel, by decide +kernel, by decide +kernel, by decide +kernel, fun h => absurd h (by decide +kernel)⟩
theorem z_y179 : Jvm.Cond.code (z_nm 179) (z_by 179) (z_ml 179) (z_rt 179) ∈ z_T ∧ Jvm.Cond.initialized (z_nm 179).cls ∈ z_T ∧ (z_nm 179).cls ≠ "java/lang/invoke/MethodHandle" ∧ (z_nm 179).cls ≠ "java/lang/invoke/VarHandle" ∧ z_ml 179 ≤ 21 ∧ z_OKY 179 := ⟨z_inT 1251 (by decide +kernel) rfl, z_inT 56 (by decide +kernel) rfl, by decide +kernel, by decide +kernel, by decide +kernel, by decide +kernel, by decide +kernel, by decide +kernel, fun h => absurd h (by decide +kernel)⟩
theorem z_y180 : Jvm.Cond.code (z_nm 180) (z_by 180) (z_ml 180) (z_rt 180) ∈ z_T ∧ Jvm.Cond.initialized (z_nm 180).cls ∈ z_T ∧ (z_nm 180).cls ≠ "java/lang/invoke/MethodHandle" ∧ (z_nm 180).cls ≠ "java/lang/invoke/VarHandle" ∧ z_ml 180 ≤ 21 ∧ z_OKY 180 := ⟨z_inT 1261 (by decide +kernel) rfl, z_inT 56 (by decide +kernel) rfl, by decide +kernel, by decide +kernel, by decide +kernel, by decide +kernel, by decide +kernel, by decide +kernel, fun h => absurd h (by decide +kernel)⟩
theorem z_y181 : Jvm.Cond.code (z_nm 181) (z_by 181) (z_ml 181) (z_rt 181) ∈ z_T ∧ Jvm.Cond.initialized (z_nm 181).cls ∈ z_T ∧ (z_nm 181).cls ≠ "java/lang/invoke/MethodHandle" ∧ (z_nm 181).cls ≠ "java/lang/invoke/VarHandle" ∧ z_ml 181 ≤ 21 ∧ z_OKY 181 := ⟨z_inT 1265 (by decide +kernel) rfl, z_inT 56 (by decide +kernel) rfl, by decide +kernel, by decide +kernel, by decide +kernel, by decide +kernel, by decide +kernel, by decide +kernel, fun h => absurd h (by decide +kernel)⟩
theorem z_y182 : Jvm.Cond.code (z_nm 182) (z_by 182) (z_ml 182) (z_rt 182) ∈ z_T ∧ Jvm.Cond.initialized (z_nm 182).cls ∈ z_T ∧ (z_nm 182).cls ≠ "java/lang/invoke/MethodHandle" ∧ (z_nm 182).cls ≠ "java/lang/invoke/VarHandle" ∧ z_ml 182 ≤ 21 ∧ z_OKY 182 := ⟨z_inT 1276 (by decide +kernel) rfl, z_inT 56 (by decide +kernel) rfl, by decide +kernel, by decide +kernel, by decide +kernel, by decide +kernel, by decide +kernel, by decide +kernel, fun h => absurd h (by decide +kernel)⟩
theorem z_y183 : Jvm.Cond.code (z_nm 183) (z_by 183) (z_ml 183) (z_rt 183) ∈ z_T ∧ Jvm.Cond.initialized (z_nm 183).cls ∈ z_T ∧ (z_nm 183).cls ≠ "java/lang/invoke/MethodHandle" ∧ (z_nm 183).cls ≠ "java/lang/invoke/VarHandle" ∧ z_ml 183 ≤ 21 ∧ z_OKY 183 := ⟨z_inT 1273 (by decide +kernel) rfl, z_inT 56 (by decide +kernel) rfl, by decide +kernel, by decide +kernel, by decide +kernel, by decide +kernel, by decide +kernel, by decide +kernel, fun h => absurd h (by decide +kernel)⟩
theorem z_y184 : Jvm.Cond.code (z_nm 184) (z_by 184) (z_ml 184) (z_rt 184) ∈ z_T ∧ Jvm.Cond.initialized (z_nm 184).cls ∈ z_T ∧ (z_nm 184).cls ≠ "java/lang/invoke/MethodHandle" ∧ (z_nm 184).cls ≠ "java/lang/invoke/VarHandle" ∧ z_ml 184 ≤ 21 ∧ z_OKY 184 := ⟨z_inT 1269 (by decide +kernel) rfl, z_inT 56 (by decide +kernel) rfl, by decide +kernel, by decide +kernel, by decide +kernel, by decide +kernel, by decide +kernel, by decide +kernel, fun h => absurd h (by decide +kernel)⟩
theorem z_y185 : Jvm.Cond.code (z_nm 185) (z_by 185) (z_ml 185) (z_rt 185) ∈ z_T ∧ Jvm.Cond.initialized (z_nm 185).cls ∈ z_T ∧ (z_nm 185).cls ≠ "java/lang/invoke/MethodHandle" ∧ (z_nm 185).cls ≠ "java/lang/invoke/VarHandle" ∧ z_ml 185 ≤ 21 ∧ z_OKY 185 := ⟨z_inT 1280 (by decide +kernel) rfl, z_inT 56 (by decide +kernel) rfl, by decide +kernel, by decide +kernel, by decide +kernel, by decide +kernel, by decide +kernel, by decide +kernel, fun h => absurd h (by decide +kernel)⟩
theorem z_y186 : Jvm.Cond.code (z_nm 186) (z_by 186) (z_ml 186) (z_rt 186) ∈ z_T ∧ Jvm.Cond.initialized (z_nm 186).cls ∈ z_T ∧ (z_nm 186).cls ≠ "java/lang/invoke/MethodHandle" ∧ (z_nm 186).cls ≠ "java/lang/invoke/VarHandle" ∧ z_ml 186 ≤ 21 ∧ z_OKY 186 := ⟨z_inT 1288 (by decide +kernel) rfl, z_inT 56 (by decide +kernel) rfl, by decide +kernel, by decide +kernel, by decide +kernel, by decide +kernel, by decide +kernel, by decide +kernel, fun h => absurd h (by decide +kernel)⟩
theorem z_y187 : Jvm.Cond.code (z_nm 187) (z_by 187) (z_ml 187) (z_rt 187) ∈ z_T ∧ Jvm.Cond.initialized (z_nm 187).cls ∈ z_T ∧ (z_nm 187).cls ≠ "java/lang/invoke/MethodHandle" ∧ (z_nm 187).cls ≠ "java/lang/invoke/VarHandle" ∧ z_ml 187 ≤ 21 ∧ z_OKY 187 := ⟨z_inT 1284 (by decide +kernel) rfl, z_inT 56 (by decide +kernel) rfl, by decide +kernel, by decide +kernel, by decide +kernel, by decide +kernel, by decide +kernel, by decide +kernel, fun h => absurd h (by decide +kernel)⟩
theorem z_y188 : Jvm.Cond.code (z_nm 188) (z_by 188) (z_ml 188) (z_rt 188) ∈ z_T ∧ Jvm.Cond.initialized (z_nm 188).cls ∈ z_T ∧ (z_nm 188).cls ≠ "java/lang/invoke/MethodHandle" ∧ (z_nm 188).cls ≠ "java/lang/invoke/VarHandle" ∧ z_ml 188 ≤ 21 ∧ z_OKY 188 := ⟨z_inT 1292 (by decide +kernel) rfl, z_inT 56 (by decide +kernel) rfl, by decide +kernel, by decide +kernel, by decide +kernel, by decide +kernel, by decide +kernel, by decide +kernel, fun h => absurd h (by decide +kernel)⟩
theorem z_y189 : Jvm.Cond.code (z_nm 189) (z_by 189) (z_ml 189) (z_rt 189) ∈ z_T ∧ Jvm.Cond.initialized (z_nm 189).cls ∈ z_T ∧ (z_nm 189).cls ≠ "java/lang/invoke/MethodHandle" ∧ (z_nm 189).cls ≠ "java/lang/invoke/VarHandle" ∧ z_ml 189 ≤ 21 ∧ z_OKY 189 := ⟨z_inT 1296 (by decide +kernel) rfl, z_inT 56 (by decide +kernel) rfl, by decide +kernel, by decide +kernel, by decide +kernel, by decide +kernel, by decide +kernel, by decide +kernel, fun h => absurd h (by decide +kernel)⟩
theorem z_y190 : Jvm.Cond.code (z_nm 190) (z_by 190) (z_ml 190) (z_rt 190) ∈ z_T ∧ Jvm.Cond.initialized (z_nm 190).cls ∈ z_T ∧ (z_nm 190).cls ≠ "java/lang/invoke/MethodHandle" ∧ (z_nm 190).cls ≠ "java/lang/invoke/VarHandle" ∧ z_ml 190 ≤ 21 ∧ z_OKY 190 := ⟨z_inT 1300 (by decide +kernel) rfl, z_inT 56 (by decide +kernel) rfl, by decide +kernel, by decide +kernel, by decide +kernel, by decide +kernel, by decide +kernel, by decide +kernel, fun h => absurd h (by decide +kernel)⟩
theorem z_y191 : Jvm.Cond.code (z_nm 191) (z_by 191) (z_ml 191) (z_rt 191) ∈ z_T ∧ Jvm.Cond.initialized (z_nm 191).cls ∈ z_T ∧ (z_nm 191).cls ≠ "java/lang/invoke/MethodHandle" ∧ (z_nm 191).cls ≠ "java/lang/invoke/VarHandle" ∧ z_ml 191 ≤ 21 ∧ z_OKY 191 := ⟨z_inT 1308 (by decide +kernel) rfl, z_inT 56 (by decide +kernel) rfl, by decide +kernel, by decide +kernel, by decide +kernel, by decide +kernel, by decide +kernel, by decide +kernel, fun h => absurd h (by decide +kernel)⟩
theorem z_y192 : Jvm.Cond.code (z_nm 192) (z_by 192) (z_ml 192) (z_rt 192) ∈ z_T ∧ Jvm.Cond.initialized (z_nm 192).cls ∈ z_T ∧ (z_nm 192).cls ≠ "java/lang/invoke/MethodHandle" ∧ (z_nm 192).cls ≠ "java/lang/invoke/VarHandle" ∧ z_ml 192 ≤ 21 ∧ z_OKY 192 := ⟨z_inT 1304 (by decide +kernel) rfl, z_inT 56 (by decide +kernel) rfl, by decide +kernel, by decide +kernel, by decide +kernel, by decide +kernel, by decide +kernel, by decide +kernel, fun h => absurd h (by decide +kernel)⟩
theorem z_y193 : Jvm.Cond.code (z_nm 193) (z_by 193) (z_ml 193) (z_rt 193) ∈ z_T ∧ Jvm.Cond.initialized (z_nm 193).cls ∈ z_T ∧ (z_nm 193).cls ≠ "java/lang/invoke/MethodHandle" ∧ (z_nm 193).cls ≠ "java/lang/invoke/VarHandle" ∧ z_ml 193 ≤ 21 ∧ z_OKY 193 := ⟨z_inT 1315 (by decide +kernel) rfl, z_inT 56 (by decide +kernel) rfl, by decide +kernel, by decide +kernel, by decide +kernel, by decide +kernel, by decide +kernel, by decide +kernel, fun h => absurd h (by decide +kernel)⟩
theorem z_y194 : Jvm.Cond.code (z_nm 194) (z_by 194) (z_ml 194) (z_rt 194) ∈ z_T ∧ Jvm.Cond.initialized (z_nm 194).cls ∈ z_T ∧ (z_nm 194).cls ≠ "java/lang/invoke/MethodHandle" ∧ (z_nm 194).cls ≠ "java/lang/invoke/VarHandle" ∧ z_ml 194 ≤ 21 ∧ z_OKY 194 := ⟨z_inT 1319 (by decide +kernel) rfl, z_inT 56 (by decide +kernel) rfl, by decide +kernel, by decide +kernel, by decide +kernel, by decide +kernel, by decide +kernel, by decide +kernel, fun h => absurd h (by decide +kernel)⟩
theorem z_y195 : Jvm.Cond.code (z_nm 195) (z_by 195) (z_ml 195) (z_rt 195) ∈ z_T ∧ Jvm.Cond.initialized (z_nm 195).cls ∈ z_T ∧ (z_nm 195).cls ≠ "java/lang/invoke/MethodHandle" ∧ (z_nm 195).cls ≠ "java/lang/invoke/VarHandle" ∧ z_ml 195 ≤ 21 ∧ z_OKY 195 := ⟨z_inT 1323 (by decide +kernel) rfl, z_inT 56 (by decide +kernel) rfl, by decide +kernel, by decide +kernel, by decide +kernel, by decide +kernel, by decide +kernel, by decide +kernel, fun h => absurd h (by decide +kernel)⟩
theorem z_y196 : Jvm.Cond.code (z_nm 196) (z_by 196) (z_ml 196) (z_rt 196) ∈ z_T ∧ Jvm.Cond.initialized (z_nm 196).cls ∈ z_T ∧ (z_nm 196).cls ≠ "java/lang/invoke/MethodHandle" ∧ (z_nm 196).cls ≠ "java/lang/invoke/VarHandle" ∧ z_ml 196 ≤ 21 ∧ z_OKY 196 := ⟨z_inT 1327 (by decide +kernel) rfl, z_inT 56 (by decide +kernel) rfl, by decide +kernel, by decide +kernel, by decide +kernel, by decide +kernel, by decide +kernel, by decide +kernel, fun h => absurd h (by decide +kernel)⟩
theorem z_y197 : Jvm.Cond.code (z_nm 197) (z_by 197) (z_ml 197) (z_rt 197) ∈ z_T ∧ Jvm.Cond.initialized (z_nm 197).cls ∈ z_T ∧ (z_nm 197).cls ≠ "java/lang/invoke/MethodHandle" ∧ (z_nm 197).cls ≠ "java/lang/invoke/VarHandle" ∧ z_ml 197 ≤ 21 ∧ z_OKY 197 := ⟨z_inT 1051 (by decide +kernel) rfl, z_inT 56 (by decide +kernel) rfl, by decide +kernel, by decide +kernel, by decide +kernel, by decide +kernel, by decide +kernel, by decide +kernel, fun h => absurd h (by decide +kernel)⟩
theorem z_y198 : Jvm.Cond.code (z_nm 198) (z_by 198) (z_ml 198) (z_rt 198) ∈ z_T ∧ Jvm.Cond.initialized (z_nm 198).cls ∈ z_T ∧ (z_nm 198).cls ≠ "java/lang/invoke/MethodHandle" ∧ (z_nm 198).cls ≠ "java/lang/invoke/VarHandle" ∧ z_ml 198 ≤ 21 ∧ z_OKY 198 := ⟨z_inT 1048 (by decide +kernel) rfl, z_inT 56 (by decide +kernel) rfl, by decide +kernel, by decide +kernel, by decide +kernel, by decide +kernel, by decide +kernel, by decide +kernel, fun h => absurd h (by decide +kernel)⟩
theorem z_y199 : Jvm.Cond.code (z_nm 199) (z_by 199) (z_ml 199) (z_rt 199) ∈ z_T ∧ Jvm.Cond.initialized (z_nm 199).cls ∈ z_T ∧ (z_nm 199).cls ≠ "java/lang/invoke/MethodHandle" ∧ (z_nm 199).cls ≠ "java/lang/invoke/VarHandle" ∧ z_ml 199 ≤ 21 ∧ z_OKY 199 := ⟨z_inT 1137 (by decide +kernel) rfl, z_inT 56 (by decide +kernel) rfl, by decide +kernel, by decide +kernel, by decide +kernel, by decide +kernel, by decide +kernel, by decide +kernel, fun h => absurd h (by decide +kernel)⟩
theorem z_y200 : Jvm.Cond.code (z_nm 200) (z_by 200) (z_ml 200) (z_rt 200) ∈ z_T ∧ Jvm.Cond.initialized (z_nm 200).cls ∈ z_T ∧ (z_nm 200).cls ≠ "java/lang/invoke/MethodHandle" ∧ (z_nm 200).cls ≠ "java/lang/invoke/VarHandle" ∧ z_ml 200 ≤ 21 ∧ z_OKY 200 := ⟨z_inT 1331 (by decide +kernel) rfl, z_inT 56 (by decide +kernel) rfl, by decide +kernel, by decide +kernel, by decide +kernel, by decide +kernel, by decide +kernel, by decide +kernel, fun h => absurd h (by decide +kernel)⟩
theorem z_y201 : Jvm.Cond.code (z_nm 201) (z_by 201) (z_ml 201) (z_rt 201) ∈ z_T ∧ Jvm.Cond.initialized (z_nm 201).cls ∈ z_T ∧ (z_nm 201).cls ≠ "java/lang/invoke/MethodHandle" ∧ (z_nm 201).cls ≠ "java/lang/invoke/VarHandle" ∧ z_ml 201 ≤ 21 ∧ z_OKY 201 := ⟨z_inT 1335 (by decide +kernel) rfl, z_inT 56 (by decide +kernel) rfl, by decide +kernel, by decide +kernel, by decide +kernel, by decide +kernel, by decide +kernel, by decide +kernel, fun h => absurd h (by decide +kernel)⟩
theorem z_y202 : Jvm.Cond.code (z_nm 202) (z_by 202) (z_ml 202) (z_rt 202) ∈ z_T ∧ Jvm.Cond.initialized (z_nm 202).cls ∈ z_T ∧ (z_nm 202).cls ≠ "java/lang/invoke/MethodHandle" ∧ (z_nm 202).cls ≠ "java/lang/invoke/VarHandle" ∧ z_ml 202 ≤ 21 ∧ z_OKY 202 := ⟨z_inT 1339 (by decide +kernel) rfl, z_inT 56 (by decide +kernel) rfl, by decide +kernel, by decide +kernel, by decide +kernel, by decide +kernel, by decide +kernel, by decide +kernel, fun h => absurd h (by decide +kernel)⟩
theorem z_y203 : Jvm.Cond.code (z_nm 203) (z_by 203) (z_ml 203) (z_rt 203) ∈ z_T ∧ Jvm.Cond.initialized (z_nm 203).cls ∈ z_T ∧ (z_nm 203).cls ≠ "java/lang/invoke/MethodHandle" ∧ (z_nm 203).cls ≠ "java/lang/invoke/VarHandle" ∧ z_ml 203 ≤ 21 ∧ z_OKY 203 := ⟨z_inT 1343 (by decide +kernel) rfl, z_inT 56 (by decide +kernel) rfl, by decide +kernel, by decide +kernel, by decide +kernel, by decide +kernel, by decide +kernel, by decide +kernel, fun h => absurd h (by decide +kernel)⟩
theorem z_y204 : Jvm.Cond.code (z_nm 204) (z_by 204) (z_ml 204) (z_rt 204) ∈ z_T ∧ Jvm.Cond.initialized (z_nm 204).cls ∈ z_T ∧ (z_nm 204).cls ≠ "java/lang/invoke/MethodHandle" ∧ (z_nm 204).cls ≠ "java/lang/invoke/VarHandle" ∧ z_ml 204 ≤ 21 ∧ z_OKY 204 := ⟨z_inT 1347 (by decide +kernel) rfl, z_inT 56 (by decide +kernel) rfl, by decide +kernel, by decide +kernel, by decide +kernel, by decide +kernel, by decide +kernel, by decide +kernel, fun h => absurd h (by decide +kernel)⟩
theorem z_y205 : Jvm.Cond.code (z_nm 205) (z_by 205) (z_ml 205) (z_rt 205) ∈ z_T ∧ Jvm.Cond.initialized (z_nm 205).cls ∈ z_T ∧ (z_nm 205).cls ≠ "java/lang/invoke/MethodHandle" ∧ (z_nm 205).cls ≠ "java/lang/invoke/VarHandle" ∧ z_ml 205 ≤ 21 ∧ z_OKY 205 := ⟨z_inT 1354 (by decide +kernel) rfl, z_inT 56 (by decide +kernel) rfl, by decide +kernel, by decide +kernel, by decide +kernel, by decide +kernel, by decide +kernel, by decide +kernel, fun h => absurd h (by decide +kernel)⟩
theorem z_y206 : Jvm.Cond.code (z_nm 206) (z_by 206) (z_ml 206) (z_rt 206) ∈ z_T ∧ Jvm.Cond.initialized (z_nm 206).cls ∈ z_T ∧ (z_nm 206).cls ≠ "java/lang/invoke/MethodHandle" ∧ (z_nm 206).cls ≠ "java/lang/invoke/VarHandle" ∧ z_ml 206 ≤ 21 ∧ z_OKY 206 := ⟨z_inT 1351 (by decide +kernel) rfl, z_inT 56 (by decide +kernel) rfl, by decide +kernel, by decide +kernel, by decide +kernel, by decide +kernel, by decide +kernel, by decide +kernel, fun h => absurd h (by decide +kernel)⟩
theorem z_y207 : Jvm.Cond.code (z_nm 207) (z_by 207) (z_ml 207) (z_rt 207) ∈ z_T ∧ Jvm.Cond.initialized (z_nm 207).cls ∈ z_T ∧ (z_nm 207).cls ≠ "java/lang/invoke/MethodHandle" ∧ (z_nm 207).cls ≠ "java/lang/invoke/VarHandle" ∧ z_ml 207 ≤ 21 ∧ z_OKY 207 := ⟨z_inT 1358 (by decide +kernel) rfl, z_inT 56 (by decide +kernel) rfl, by decide +kernel, by decide +kernel, by decide +kernel, by decide +kernel, by decide +kernel, by decide +kernel, fun h => absurd h (by decide +kernel)⟩
theorem z_y208 : Jvm.Cond.code (z_nm 208) (z_by 208) (z_ml 208) (z_rt 208) ∈ z_T ∧ Jvm.Cond.initialized (z_nm 208).cls ∈ z_T ∧ (z_nm 208).cls ≠ "java/lang/invoke/MethodHandle" ∧ (z_nm 208).cls ≠ "java/lang/invoke/VarHandle" ∧ z_ml 208 ≤ 21 ∧ z_OKY 208 := ⟨z_inT 616 (by decide +kernel) rfl, z_inT 57 (by decide +kernel) rfl, by decide +kernel, by decide +kernel, by decide +kernel, by decide +kernel, by decide +kernel, by decide +kernel, fun h => absurd h (by decide +kernel)⟩
def z_OKke (own : String) (j y na np ci : Nat) : Nat → Prop
  | 0 => na = np + 1 ∧ Jvm.Cond.methodLink own j (z_nm y) ∈ z_T ∧ Jvm.Cond.instanceMethod (z_nm y) ∈ z_T ∧ Jvm.Cond.selects (z_nm y).cls (z_nm y) (z_nm y) ∈ z_T ∧ ∃ (T : u_T) (N : Nat), z_cl[ci]? = some ((z_nm y).cls, T, N)
  | 1 => na = np ∧ Jvm.Cond.methodLink own j (z_nm y) ∈ z_T ∧ Jvm.Cond.static (z_nm y) ∈ z_T
  | 2 => na = np + 1 ∧ Jvm.Cond.methodLink own j (z_nm y) ∈ z_T ∧ Jvm.Cond.instanceMethod (z_nm y) ∈ z_T ∧ (z_nm y).name = "<init>" ∧ z_rt y = none
  | 3 => na = np + 1 ∧ (∃ host, Jvm.Cond.methodLinkNest own j (z_nm y) host ∈ z_N) ∧ Jvm.Cond.instanceMethod (z_nm y) ∈ z_T ∧ Jvm.Cond.selects (z_nm y).cls (z_nm y) (z_nm y) ∈ z_T ∧ ∃ (T : u_T) (N : Nat), z_cl[ci]? = some ((z_nm y).cls, T, N)
  | 4 => na = np ∧ (∃ host, Jvm.Cond.methodLinkNest own j (z_nm y) host ∈ z_N) ∧ Jvm.Cond.static (z_nm y) ∈ z_T
  | 5 => na = np + 1 ∧ (∃ host, Jvm.Cond.methodLinkNest own j (z_nm y) host ∈ z_N) ∧ Jvm.Cond.instanceMethod (z_nm y) ∈ z_T ∧ (z_nm y).name = "<init>" ∧ z_rt y = none
  | _ => False
theorem z_OKke_k {mid j y na np ci : Nat} : ∀ {kind : Nat}, z_OKke (z_nm mid).cls j y na np ci kind → z_OKk mid j y na np ci kind
  | 0, h => h
  | 1, h => h
  | 2, h => h
  | 3, h => h
  | 4, h => h
  | 5, h => h
  | _ + 6, h => h
def z_qM (own : String) (q : Nat × List Nat) : Prop :=
  (∀ t, q.2 = 6 :: t → Jvm.Cond.methodLink own q.1 Lib.objectInit ∈ z_T) ∧ (∀ t, q.2 = 7 :: t → Jvm.Cond.methodLink own q.1 Lib.Math.max.name ∈ z_T) ∧ (∀ t, q.2 = 8 :: t → Jvm.Cond.methodLink own q.1 Lib.Math.min.name ∈ z_T) ∧
  (∀ t, q.2 = 9 :: t → Jvm.Cond.methodLink own q.1 Lib.Math.abs.name ∈ z_T) ∧ (∀ t, q.2 = 10 :: t → Jvm.Cond.methodLink own q.1 arraycopyName ∈ z_T) ∧
  (∀ kind y na self lv ci t, q.2 = kind :: y :: na :: self :: lv :: ci :: t → (z_prm y = false → (Jvm.Cond.code (z_nm y) (z_by y) (z_ml y) (z_rt y) ∈ z_T ∧ Jvm.Cond.initialized (z_nm y).cls ∈ z_T ∧ (z_nm y).cls ≠ "java/lang/invoke/MethodHandle" ∧ (z_nm y).cls ≠ "java/lang/invoke/VarHandle" ∧ z_ml y ≤ 21 ∧ z_OKY y) ∧ ∃ np : Nat, (parseMethodDescriptor (z_nm y).desc).map (fun d => d.parameters.length) = some np ∧ z_OKke own q.1 y na np ci kind) ∧ (z_prm y = true → kind = 1))
theorem z_no {a b : Nat} {u t : List Nat} {P : Prop} (h : a ≠ b) (e : a :: u = b :: t) : P := absurd (List.cons.inj e).1 h
theorem z_eM {own : String} {j kind y na self lv ci : Nat} (hk : kind < 6) (h : (z_prm y = false → (Jvm.Cond.code (z_nm y) (z_by y) (z_ml y) (z_rt y) ∈ z_T ∧ Jvm.Cond.initialized (z_nm y).cls ∈ z_T ∧ (z_nm y).cls ≠ "java/lang/invoke/MethodHandle" ∧ (z_nm y).cls ≠ "java/lang/invoke/VarHandle" ∧ z_ml y ≤ 21 ∧ z_OKY y) ∧ ∃ np : Nat, (parseMethodDescriptor (z_nm y).desc).map (fun d => d.parameters.length) = some np ∧ z_OKke own j y na np ci kind) ∧ (z_prm y = true → kind = 1)) : z_qM own (j, [kind, y, na, self, lv, ci]) := by
  refine ⟨fun t e => z_no (by omega) e, fun t e => z_no (by omega) e, fun t e => z_no (by omega) e, fun t e => z_no (by omega) e, fun t e => z_no (by omega) e, ?_⟩
  intro kind' y' na' self' lv' ci' t e
  simp only [List.cons.injEq] at e
  obtain ⟨rfl, rfl, rfl, rfl, rfl, rfl, -⟩ := e
  exact h
theorem z_m_0_3 : z_qM "BellThatIsADoor$Row" (3, [6]) := ⟨fun t _ => z_inT 789 (by decide +kernel) rfl, fun t h => z_no (by decide) h, fun t h => z_no (by decide) h, fun t h => z_no (by decide) h, fun t h => z_no (by decide) h, fun _ _ _ _ _ _ _ h => absurd (List.cons.inj h).2 (by simp)⟩
theorem z_m_0_15 : z_qM "BellThatIsADoor$Row" (15, [7]) := ⟨fun t h => z_no (by decide) h, fun t _ => z_inT 790 (by decide +kernel) rfl, fun t h => z_no (by decide) h, fun t h => z_no (by decide) h, fun t h => z_no (by decide) h, fun _ _ _ _ _ _ _ h => absurd (List.cons.inj h).2 (by simp)⟩
theorem z_m_0_25 : z_qM "BellThatIsADoor$Row" (25, [0, 2, 2, 0, 0, 9]) := z_eM (by decide) ⟨fun _ => ⟨z_y2, 1, by decide +kernel, ⟨rfl, z_inT 385 (by decide +kernel) rfl, z_inT 386 (by decide +kernel) rfl, z_inT 387 (by decide +kernel) rfl, z_F9, 2, rfl⟩⟩, fun h => absurd h (by decide)⟩
theorem z_rowM_0 : ∀ row, z_mT[0]? = some row → ∀ q ∈ row, z_qM (z_own 0) q := by
  intro row h
  cases h
  exact List.forall_mem_cons.mpr ⟨z_m_0_3, List.forall_mem_cons.mpr ⟨z_m_0_15, List.forall_mem_cons.mpr ⟨z_m_0_25, fun _ h => absurd h List.not_mem_nil⟩⟩⟩
theorem z_m_1_3 : z_qM "BellThatIsADoor$Bell" (3, [6]) := ⟨fun t _ => z_inT 156 (by decide +kernel) rfl, fun t h => z_no (by decide) h, fun t h => z_no (by decide) h, fun t h => z_no (by decide) h, fun t h => z_no (by decide) h, fun _ _ _ _ _ _ _ h => absurd (List.cons.inj h).2 (by simp)⟩
theorem z_rowM_1 : ∀ row, z_mT[1]? = some row → ∀ q ∈ row, z_qM (z_own 1) q := by
  intro row h
  cases h
  exact List.forall_mem_cons.mpr ⟨z_m_1_3, fun _ h => absurd h List.not_mem_nil⟩
theorem z_m_2_3 : z_qM "BellThatIsADoor$Door" (3, [2, 7, 3, 0, 0, 0]) := z_eM (by decide) ⟨fun _ => ⟨z_y7, 2, by decide +kernel, ⟨rfl, z_inT 153 (by decide +kernel) rfl, z_inT 154 (by decide +kernel) rfl, by decide +kernel, by decide +kernel⟩⟩, fun h => absurd h (by decide)⟩
theorem z_rowM_2 : ∀ row, z_mT[2]? = some row → ∀ q ∈ row, z_qM (z_own 2) q := by
  intro row h
  cases h
  exact List.forall_mem_cons.mpr ⟨z_m_2_3, fun _ h => absurd h List.not_mem_nil⟩
theorem z_m_3_3 : z_qM "BellThatIsADoor$Hen" (3, [2, 7, 3, 0, 0, 0]) := z_eM (by decide) ⟨fun _ => ⟨z_y7, 2, by decide +kernel, ⟨rfl, z_inT 241 (by decide +kernel) rfl, z_inT 154 (by decide +kernel) rfl, by decide +kernel, by decide +kernel⟩⟩, fun h => absurd h (by decide)⟩
theorem z_rowM_3 : ∀ row, z_mT[3]? = some row → ∀ q ∈ row, z_qM (z_own 3) q := by
  intro row h
  cases h
  exact List.forall_mem_cons.mpr ⟨z_m_3_3, fun _ h => absurd h List.not_mem_nil⟩
theorem z_m_4_3 : z_qM "BellThatIsADoor$Cough" (3, [2, 8, 3, 0, 0, 3]) := z_eM (by decide) ⟨fun _ => ⟨z_y8, 2, by decide +kernel, ⟨rfl, z_inT 255 (by decide +kernel) rfl, z_inT 151 (by decide +kernel) rfl, by decide +kernel, by decide +kernel⟩⟩, fun h => absurd h (by decide)⟩
theorem z_rowM_4 : ∀ row, z_mT[4]? = some row → ∀ q ∈ row, z_qM (z_own 4) q := by
  intro row h
  cases h
  exact List.forall_mem_cons.mpr ⟨z_m_4_3, fun _ h => absurd h List.not_mem_nil⟩
theorem z_m_5_3 : z_qM "BellThatIsADoor$Maid" (3, [2, 8, 3, 0, 0, 3]) := z_eM (by decide) ⟨fun _ => ⟨z_y8, 2, by decide +kernel, ⟨rfl, z_inT 269 (by decide +kernel) rfl, z_inT 151 (by decide +kernel) rfl, by decide +kernel, by decide +kernel⟩⟩, fun h => absurd h (by decide)⟩
theorem z_rowM_5 : ∀ row, z_mT[5]? = some row → ∀ q ∈ row, z_qM (z_own 5) q := by
  intro row h
  cases h
  exact List.forall_mem_cons.mpr ⟨z_m_5_3, fun _ h => absurd h List.not_mem_nil⟩
theorem z_m_6_1 : z_qM "BellThatIsADoor$Suited" (1, [2, 11, 3, 0, 0, 4]) := z_eM (by decide) ⟨fun _ => ⟨z_y11, 2, by decide +kernel, ⟨rfl, z_inT 283 (by decide +kernel) rfl, z_inT 267 (by decide +kernel) rfl, by decide +kernel, by decide +kernel⟩⟩, fun h => absurd h (by decide)⟩
theorem z_rowM_6 : ∀ row, z_mT[6]? = some row → ∀ q ∈ row, z_qM (z_own 6) q := by
  intro row h
  cases h
  exact List.forall_mem_cons.mpr ⟨z_m_6_1, fun _ h => absurd h List.not_mem_nil⟩
theorem z_m_7_3 : z_qM "BellThatIsADoor$Echo" (3, [2, 7, 3, 0, 0, 0]) := z_eM (by decide) ⟨fun _ => ⟨z_y7, 2, by decide +kernel, ⟨rfl, z_inT 296 (by decide +kernel) rfl, z_inT 154 (by decide +kernel) rfl, by decide +kernel, by decide +kernel⟩⟩, fun h => absurd h (by decide)⟩
theorem z_m_7_15 : z_qM "BellThatIsADoor$Echo" (15, [7]) := ⟨fun t h => z_no (by decide) h, fun t _ => z_inT 297 (by decide +kernel) rfl, fun t h => z_no (by decide) h, fun t h => z_no (by decide) h, fun t h => z_no (by decide) h, fun _ _ _ _ _ _ _ h => absurd (List.cons.inj h).2 (by simp)⟩
theorem z_rowM_7 : ∀ row, z_mT[7]? = some row → ∀ q ∈ row, z_qM (z_own 7) q := by
  intro row h
  cases h
  exact List.forall_mem_cons.mpr ⟨z_m_7_3, List.forall_mem_cons.mpr ⟨z_m_7_15, fun _ h => absurd h List.not_mem_nil⟩⟩
theorem z_m_8_3 : z_qM "BellThatIsADoor$Marble" (3, [2, 10, 3, 0, 0, 6]) := z_eM (by decide) ⟨fun _ => ⟨z_y10, 2, by decide +kernel, ⟨rfl, z_inT 312 (by decide +kernel) rfl, z_inT 253 (by decide +kernel) rfl, by decide +kernel, by decide +kernel⟩⟩, fun h => absurd h (by decide)⟩
theorem z_rowM_8 : ∀ row, z_mT[8]? = some row → ∀ q ∈ row, z_qM (z_own 8) q := by
  intro row h
  cases h
  exact List.forall_mem_cons.mpr ⟨z_m_8_3, fun _ h => absurd h List.not_mem_nil⟩
theorem z_m_9_3 : z_qM "BellThatIsADoor$Marsh" (3, [6]) := ⟨fun t _ => z_inT 79 (by decide +kernel) rfl, fun t h => z_no (by decide) h, fun t h => z_no (by decide) h, fun t h => z_no (by decide) h, fun t h => z_no (by decide) h, fun _ _ _ _ _ _ _ h => absurd (List.cons.inj h).2 (by simp)⟩
theorem z_m_9_46 : z_qM "BellThatIsADoor$Marsh" (46, [0, 19, 3, 0, 0, 8]) := z_eM (by decide) ⟨fun _ => ⟨z_y19, 2, by decide +kernel, ⟨rfl, z_inT 653 (by decide +kernel) rfl, z_inT 425 (by decide +kernel) rfl, z_inT 426 (by decide +kernel) rfl, z_F8, 11, rfl⟩⟩, fun h => absurd h (by decide)⟩
theorem z_m_9_64 : z_qM "BellThatIsADoor$Marsh" (64, [0, 18, 2, 0, 0, 8]) := z_eM (by decide) ⟨fun _ => ⟨z_y18, 1, by decide +kernel, ⟨rfl, z_inT 432 (by decide +kernel) rfl, z_inT 433 (by decide +kernel) rfl, z_inT 434 (by decide +kernel) rfl, z_F8, 11, rfl⟩⟩, fun h => absurd h (by decide)⟩
theorem z_m_9_68 : z_qM "BellThatIsADoor$Marsh" (68, [0, 29, 3, 0, 0, 8]) := z_eM (by decide) ⟨fun _ => ⟨z_y29, 2, by decide +kernel, ⟨rfl, z_inT 440 (by decide +kernel) rfl, z_inT 441 (by decide +kernel) rfl, z_inT 442 (by decide +kernel) rfl, z_F8, 11, rfl⟩⟩, fun h => absurd h (by decide)⟩
theorem z_m_9_72 : z_qM "BellThatIsADoor$Marsh" (72, [0, 20, 3, 0, 0, 8]) := z_eM (by decide) ⟨fun _ => ⟨z_y20, 2, by decide +kernel, ⟨rfl, z_inT 539 (by decide +kernel) rfl, z_inT 462 (by decide +kernel) rfl, z_inT 463 (by decide +kernel) rfl, z_F8, 11, rfl⟩⟩, fun h => absurd h (by decide)⟩
theorem z_m_9_76 : z_qM "BellThatIsADoor$Marsh" (76, [0, 25, 2, 0, 0, 8]) := z_eM (by decide) ⟨fun _ => ⟨z_y25, 1, by decide +kernel, ⟨rfl, z_inT 535 (by decide +kernel) rfl, z_inT 536 (by decide +kernel) rfl, z_inT 537 (by decide +kernel) rfl, z_F8, 11, rfl⟩⟩, fun h => absurd h (by decide)⟩
theorem z_m_9_80 : z_qM "BellThatIsADoor$Marsh" (80, [0, 24, 2, 0, 0, 8]) := z_eM (by decide) ⟨fun _ => ⟨z_y24, 1, by decide +kernel, ⟨rfl, z_inT 540 (by decide +kernel) rfl, z_inT 541 (by decide +kernel) rfl, z_inT 542 (by decide +kernel) rfl, z_F8, 11, rfl⟩⟩, fun h => absurd h (by decide)⟩
theorem z_m_9_83 : z_qM "BellThatIsADoor$Marsh" (83, [0, 23, 2, 0, 0, 8]) := z_eM (by decide) ⟨fun _ => ⟨z_y23, 1, by decide +kernel, ⟨rfl, z_inT 576 (by decide +kernel) rfl, z_inT 577 (by decide +kernel) rfl, z_inT 578 (by decide +kernel) rfl, z_F8, 11, rfl⟩⟩, fun h => absurd h (by decide)⟩
theorem z_m_9_86 : z_qM "BellThatIsADoor$Marsh" (86, [9]) := ⟨fun t h => z_no (by decide) h, fun t h => z_no (by decide) h, fun t h => z_no (by decide) h, fun t _ => z_inT 580 (by decide +kernel) rfl, fun t h => z_no (by decide) h, fun _ _ _ _ _ _ _ h => absurd (List.cons.inj h).2 (by simp)⟩
theorem z_m_9_91 : z_qM "BellThatIsADoor$Marsh" (91, [4, 90, 1, 0, 0, 11]) := z_eM (by decide) ⟨fun _ => ⟨z_y90, 1, by decide +kernel, ⟨rfl, ⟨"BellThatIsADoor", z_inN 455 (by decide +kernel) rfl⟩, z_inT 422 (by decide +kernel) rfl⟩⟩, fun h => absurd h (by decide)⟩
theorem z_m_9_94 : z_qM "BellThatIsADoor$Marsh" (94, [0, 33, 4, 0, 0, 8]) := z_eM (by decide) ⟨fun _ => ⟨z_y33, 3, by decide +kernel, ⟨rfl, z_inT 436 (by decide +kernel) rfl, z_inT 438 (by decide +kernel) rfl, z_inT 5 (by decide +kernel) rfl, z_F8, 11, rfl⟩⟩, fun h => absurd h (by decide)⟩
theorem z_m_9_98 : z_qM "BellThatIsADoor$Marsh" (98, [8]) := ⟨fun t h => z_no (by decide) h, fun t h => z_no (by decide) h, fun t _ => z_inT 444 (by decide +kernel) rfl, fun t h => z_no (by decide) h, fun t h => z_no (by decide) h, fun _ _ _ _ _ _ _ h => absurd (List.cons.inj h).2 (by simp)⟩
theorem z_m_9_101 : z_qM "BellThatIsADoor$Marsh" (101, [0, 26, 2, 0, 0, 8]) := z_eM (by decide) ⟨fun _ => ⟨z_y26, 1, by decide +kernel, ⟨rfl, z_inT 531 (by decide +kernel) rfl, z_inT 532 (by decide +kernel) rfl, z_inT 533 (by decide +kernel) rfl, z_F8, 11, rfl⟩⟩, fun h => absurd h (by decide)⟩
theorem z_m_9_104 : z_qM "BellThatIsADoor$Marsh" (104, [0, 42, 2, 0, 0, 8]) := z_eM (by decide) ⟨fun _ => ⟨z_y42, 1, by decide +kernel, ⟨rfl, z_inT 727 (by decide +kernel) rfl, z_inT 729 (by decide +kernel) rfl, z_inT 19 (by decide +kernel) rfl, z_F8, 11, rfl⟩⟩, fun h => absurd h (by decide)⟩
theorem z_rowM_9 : ∀ row, z_mT[9]? = some row → ∀ q ∈ row, z_qM (z_own 9) q := by
  intro row h
  cases h
  exact List.forall_mem_cons.mpr ⟨z_m_9_3, List.forall_mem_cons.mpr ⟨z_m_9_46, List.forall_mem_cons.mpr ⟨z_m_9_64, List.forall_mem_cons.mpr ⟨z_m_9_68, List.forall_mem_cons.mpr ⟨z_m_9_72, List.forall_mem_cons.mpr ⟨z_m_9_76, List.forall_mem_cons.mpr ⟨z_m_9_80, List.forall_mem_cons.mpr ⟨z_m_9_83, List.forall_mem_cons.mpr ⟨z_m_9_86, List.forall_mem_cons.mpr ⟨z_m_9_91, List.forall_mem_cons.mpr ⟨z_m_9_94, List.forall_mem_cons.mpr ⟨z_m_9_98, List.forall_mem_cons.mpr ⟨z_m_9_101, List.forall_mem_cons.mpr ⟨z_m_9_104, fun _ h => absurd h List.not_mem_nil⟩⟩⟩⟩⟩⟩⟩⟩⟩⟩⟩⟩⟩⟩
theorem z_m_10_3 : z_qM "BellThatIsADoor$Errand" (3, [6]) := ⟨fun t _ => z_inT 128 (by decide +kernel) rfl, fun t h => z_no (by decide) h, fun t h => z_no (by decide) h, fun t h => z_no (by decide) h, fun t h => z_no (by decide) h, fun _ _ _ _ _ _ _ h => absurd (List.cons.inj h).2 (by simp)⟩
theorem z_m_10_28 : z_qM "BellThatIsADoor$Errand" (28, [1, 47, 6, 0, 6, 10]) := z_eM (by decide) ⟨fun _ => ⟨z_y47, 6, by decide +kernel, ⟨rfl, z_inT 565 (by decide +kernel) rfl, z_inT 566 (by decide +kernel) rfl⟩⟩, fun h => absurd h (by decide)⟩
theorem z_m_10_32 : z_qM "BellThatIsADoor$Errand" (32, [0, 48, 3, 0, 0, 10]) := z_eM (by decide) ⟨fun _ => ⟨z_y48, 2, by decide +kernel, ⟨rfl, z_inT 568 (by decide +kernel) rfl, z_inT 570 (by decide +kernel) rfl, z_inT 8 (by decide +kernel) rfl, z_F10, 5, rfl⟩⟩, fun h => absurd h (by decide)⟩
theorem z_m_10_36 : z_qM "BellThatIsADoor$Errand" (36, [0, 27, 3, 0, 0, 8]) := z_eM (by decide) ⟨fun _ => ⟨z_y27, 2, by decide +kernel, ⟨rfl, z_inT 572 (by decide +kernel) rfl, z_inT 573 (by decide +kernel) rfl, z_inT 574 (by decide +kernel) rfl, z_F8, 11, rfl⟩⟩, fun h => absurd h (by decide)⟩
theorem z_m_10_42 : z_qM "BellThatIsADoor$Errand" (42, [1, 49, 1, 0, 0, 10]) := z_eM (by decide) ⟨fun _ => ⟨z_y49, 1, by decide +kernel, ⟨rfl, z_inT 583 (by decide +kernel) rfl, z_inT 584 (by decide +kernel) rfl⟩⟩, fun h => absurd h (by decide)⟩
theorem z_m_10_49 : z_qM "BellThatIsADoor$Errand" (49, [0, 50, 4, 0, 0, 10]) := z_eM (by decide) ⟨fun _ => ⟨z_y50, 3, by decide +kernel, ⟨rfl, z_inT 586 (by decide +kernel) rfl, z_inT 588 (by decide +kernel) rfl, z_inT 9 (by decide +kernel) rfl, z_F10, 5, rfl⟩⟩, fun h => absurd h (by decide)⟩
theorem z_m_10_53 : z_qM "BellThatIsADoor$Errand" (53, [0, 23, 2, 0, 0, 8]) := z_eM (by decide) ⟨fun _ => ⟨z_y23, 1, by decide +kernel, ⟨rfl, z_inT 594 (by decide +kernel) rfl, z_inT 577 (by decide +kernel) rfl, z_inT 578 (by decide +kernel) rfl, z_F8, 11, rfl⟩⟩, fun h => absurd h (by decide)⟩
theorem z_m_10_56 : z_qM "BellThatIsADoor$Errand" (56, [0, 37, 3, 0, 0, 8]) := z_eM (by decide) ⟨fun _ => ⟨z_y37, 2, by decide +kernel, ⟨rfl, z_inT 590 (by decide +kernel) rfl, z_inT 591 (by decide +kernel) rfl, z_inT 592 (by decide +kernel) rfl, z_F8, 11, rfl⟩⟩, fun h => absurd h (by decide)⟩
theorem z_rowM_10 : ∀ row, z_mT[10]? = some row → ∀ q ∈ row, z_qM (z_own 10) q := by
  intro row h
  cases h
  exact List.forall_mem_cons.mpr ⟨z_m_10_3, List.forall_mem_cons.mpr ⟨z_m_10_28, List.forall_mem_cons.mpr ⟨z_m_10_32, List.forall_mem_cons.mpr ⟨z_m_10_36, List.forall_mem_cons.mpr ⟨z_m_10_42, List.forall_mem_cons.mpr ⟨z_m_10_49, List.forall_mem_cons.mpr ⟨z_m_10_53, List.forall_mem_cons.mpr ⟨z_m_10_56, fun _ h => absurd h List.not_mem_nil⟩⟩⟩⟩⟩⟩⟩⟩
theorem z_m_11_3 : z_qM "BellThatIsADoor" (3, [6]) := ⟨fun t _ => z_inT 71 (by decide +kernel) rfl, fun t h => z_no (by decide) h, fun t h => z_no (by decide) h, fun t h => z_no (by decide) h, fun t h => z_no (by decide) h, fun _ _ _ _ _ _ _ h => absurd (List.cons.inj h).2 (by simp)⟩
theorem z_m_11_11 : z_qM "BellThatIsADoor" (11, [5, 15, 1, 0, 0, 8]) := z_eM (by decide) ⟨fun _ => ⟨z_y15, 0, by decide +kernel, ⟨rfl, ⟨"BellThatIsADoor", z_inN 76 (by decide +kernel) rfl⟩, z_inT 77 (by decide +kernel) rfl, by decide +kernel, by decide +kernel⟩⟩, fun h => absurd h (by decide)⟩
theorem z_m_11_39 : z_qM "BellThatIsADoor" (39, [5, 43, 1, 0, 0, 10]) := z_eM (by decide) ⟨fun _ => ⟨z_y43, 0, by decide +kernel, ⟨rfl, ⟨"BellThatIsADoor", z_inN 125 (by decide +kernel) rfl⟩, z_inT 126 (by decide +kernel) rfl, by decide +kernel, by decide +kernel⟩⟩, fun h => absurd h (by decide)⟩
theorem z_m_11_55 : z_qM "BellThatIsADoor" (55, [1, 99, 2, 0, 0, 11]) := z_eM (by decide) ⟨fun _ => ⟨z_y99, 2, by decide +kernel, ⟨rfl, z_inT 145 (by decide +kernel) rfl, z_inT 146 (by decide +kernel) rfl⟩⟩, fun h => absurd h (by decide)⟩
theorem z_m_11_59 : z_qM "BellThatIsADoor" (59, [0, 95, 2, 0, 0, 11]) := z_eM (by decide) ⟨fun _ => ⟨z_y95, 1, by decide +kernel, ⟨rfl, z_inT 367 (by decide +kernel) rfl, z_inT 369 (by decide +kernel) rfl, z_inT 0 (by decide +kernel) rfl, z_F11, 11, rfl⟩⟩, fun h => absurd h (by decide)⟩
theorem z_m_11_63 : z_qM "BellThatIsADoor" (63, [0, 97, 2, 0, 0, 11]) := z_eM (by decide) ⟨fun _ => ⟨z_y97, 1, by decide +kernel, ⟨rfl, z_inT 374 (by decide +kernel) rfl, z_inT 376 (by decide +kernel) rfl, z_inT 1 (by decide +kernel) rfl, z_F11, 11, rfl⟩⟩, fun h => absurd h (by decide)⟩
theorem z_m_11_71 : z_qM "BellThatIsADoor" (71, [1, 103, 1, 0, 0, 11]) := z_eM (by decide) ⟨fun _ => ⟨z_y103, 1, by decide +kernel, ⟨rfl, z_inT 378 (by decide +kernel) rfl, z_inT 379 (by decide +kernel) rfl⟩⟩, fun h => absurd h (by decide)⟩
theorem z_m_11_75 : z_qM "BellThatIsADoor" (75, [0, 104, 2, 0, 0, 11]) := z_eM (by decide) ⟨fun _ => ⟨z_y104, 1, by decide +kernel, ⟨rfl, z_inT 399 (by decide +kernel) rfl, z_inT 401 (by decide +kernel) rfl, z_inT 2 (by decide +kernel) rfl, z_F11, 11, rfl⟩⟩, fun h => absurd h (by decide)⟩
theorem z_m_11_78 : z_qM "BellThatIsADoor" (78, [0, 20, 3, 0, 0, 8]) := z_eM (by decide) ⟨fun _ => ⟨z_y20, 2, by decide +kernel, ⟨rfl, z_inT 461 (by decide +kernel) rfl, z_inT 462 (by decide +kernel) rfl, z_inT 463 (by decide +kernel) rfl, z_F8, 11, rfl⟩⟩, fun h => absurd h (by decide)⟩
theorem z_m_11_82 : z_qM "BellThatIsADoor" (82, [1, 90, 1, 0, 0, 11]) := z_eM (by decide) ⟨fun _ => ⟨z_y90, 1, by decide +kernel, ⟨rfl, z_inT 421 (by decide +kernel) rfl, z_inT 422 (by decide +kernel) rfl⟩⟩, fun h => absurd h (by decide)⟩
theorem z_m_11_86 : z_qM "BellThatIsADoor" (86, [0, 96, 2, 0, 0, 11]) := z_eM (by decide) ⟨fun _ => ⟨z_y96, 1, by decide +kernel, ⟨rfl, z_inT 469 (by decide +kernel) rfl, z_inT 471 (by decide +kernel) rfl, z_inT 6 (by decide +kernel) rfl, z_F11, 11, rfl⟩⟩, fun h => absurd h (by decide)⟩
theorem z_m_11_90 : z_qM "BellThatIsADoor" (90, [0, 98, 2, 0, 0, 11]) := z_eM (by decide) ⟨fun _ => ⟨z_y98, 1, by decide +kernel, ⟨rfl, z_inT 473 (by decide +kernel) rfl, z_inT 475 (by decide +kernel) rfl, z_inT 7 (by decide +kernel) rfl, z_F11, 11, rfl⟩⟩, fun h => absurd h (by decide)⟩
theorem z_m_11_93 : z_qM "BellThatIsADoor" (93, [0, 19, 3, 0, 0, 8]) := z_eM (by decide) ⟨fun _ => ⟨z_y19, 2, by decide +kernel, ⟨rfl, z_inT 424 (by decide +kernel) rfl, z_inT 425 (by decide +kernel) rfl, z_inT 426 (by decide +kernel) rfl, z_F8, 11, rfl⟩⟩, fun h => absurd h (by decide)⟩
theorem z_m_11_97 : z_qM "BellThatIsADoor" (97, [0, 32, 2, 0, 0, 8]) := z_eM (by decide) ⟨fun _ => ⟨z_y32, 1, by decide +kernel, ⟨rfl, z_inT 428 (by decide +kernel) rfl, z_inT 429 (by decide +kernel) rfl, z_inT 430 (by decide +kernel) rfl, z_F8, 11, rfl⟩⟩, fun h => absurd h (by decide)⟩
theorem z_m_11_100 : z_qM "BellThatIsADoor" (100, [0, 35, 2, 0, 0, 8]) := z_eM (by decide) ⟨fun _ => ⟨z_y35, 1, by decide +kernel, ⟨rfl, z_inT 447 (by decide +kernel) rfl, z_inT 448 (by decide +kernel) rfl, z_inT 449 (by decide +kernel) rfl, z_F8, 11, rfl⟩⟩, fun h => absurd h (by decide)⟩
theorem z_m_11_106 : z_qM "BellThatIsADoor" (106, [0, 28, 3, 0, 0, 8]) := z_eM (by decide) ⟨fun _ => ⟨z_y28, 2, by decide +kernel, ⟨rfl, z_inT 451 (by decide +kernel) rfl, z_inT 452 (by decide +kernel) rfl, z_inT 453 (by decide +kernel) rfl, z_F8, 11, rfl⟩⟩, fun h => absurd h (by decide)⟩
theorem z_m_11_109 : z_qM "BellThatIsADoor" (109, [1, 91, 1, 0, 0, 11]) := z_eM (by decide) ⟨fun _ => ⟨z_y91, 1, by decide +kernel, ⟨rfl, z_inT 493 (by decide +kernel) rfl, z_inT 494 (by decide +kernel) rfl⟩⟩, fun h => absurd h (by decide)⟩
theorem z_m_11_112 : z_qM "BellThatIsADoor" (112, [0, 30, 2, 0, 0, 8]) := z_eM (by decide) ⟨fun _ => ⟨z_y30, 1, by decide +kernel, ⟨rfl, z_inT 496 (by decide +kernel) rfl, z_inT 497 (by decide +kernel) rfl, z_inT 498 (by decide +kernel) rfl, z_F8, 11, rfl⟩⟩, fun h => absurd h (by decide)⟩
theorem z_m_11_115 : z_qM "BellThatIsADoor" (115, [0, 31, 2, 0, 0, 8]) := z_eM (by decide) ⟨fun _ => ⟨z_y31, 1, by decide +kernel, ⟨rfl, z_inT 504 (by decide +kernel) rfl, z_inT 505 (by decide +kernel) rfl, z_inT 506 (by decide +kernel) rfl, z_F8, 11, rfl⟩⟩, fun h => absurd h (by decide)⟩
theorem z_m_11_118 : z_qM "BellThatIsADoor" (118, [0, 18, 2, 0, 0, 8]) := z_eM (by decide) ⟨fun _ => ⟨z_y18, 1, by decide +kernel, ⟨rfl, z_inT 512 (by decide +kernel) rfl, z_inT 433 (by decide +kernel) rfl, z_inT 434 (by decide +kernel) rfl, z_F8, 11, rfl⟩⟩, fun h => absurd h (by decide)⟩
theorem z_m_11_121 : z_qM "BellThatIsADoor" (121, [1, 92, 1, 0, 0, 11]) := z_eM (by decide) ⟨fun _ => ⟨z_y92, 1, by decide +kernel, ⟨rfl, z_inT 513 (by decide +kernel) rfl, z_inT 514 (by decide +kernel) rfl⟩⟩, fun h => absurd h (by decide)⟩
theorem z_m_11_124 : z_qM "BellThatIsADoor" (124, [0, 16, 2, 0, 0, 8]) := z_eM (by decide) ⟨fun _ => ⟨z_y16, 1, by decide +kernel, ⟨rfl, z_inT 403 (by decide +kernel) rfl, z_inT 404 (by decide +kernel) rfl, z_inT 405 (by decide +kernel) rfl, z_F8, 11, rfl⟩⟩, fun h => absurd h (by decide)⟩
theorem z_m_11_128 : z_qM "BellThatIsADoor" (128, [1, 108, 2, 0, 0, 11]) := z_eM (by decide) ⟨fun _ => ⟨z_y108, 2, by decide +kernel, ⟨rfl, z_inT 516 (by decide +kernel) rfl, z_inT 517 (by decide +kernel) rfl⟩⟩, fun h => absurd h (by decide)⟩
theorem z_m_11_131 : z_qM "BellThatIsADoor" (131, [0, 34, 1, 0, 0, 8]) := z_eM (by decide) ⟨fun _ => ⟨z_y34, 0, by decide +kernel, ⟨rfl, z_inT 519 (by decide +kernel) rfl, z_inT 520 (by decide +kernel) rfl, z_inT 521 (by decide +kernel) rfl, z_F8, 11, rfl⟩⟩, fun h => absurd h (by decide)⟩
theorem z_m_11_134 : z_qM "BellThatIsADoor" (134, [0, 36, 2, 0, 0, 8]) := z_eM (by decide) ⟨fun _ => ⟨z_y36, 1, by decide +kernel, ⟨rfl, z_inT 527 (by decide +kernel) rfl, z_inT 528 (by decide +kernel) rfl, z_inT 529 (by decide +kernel) rfl, z_F8, 11, rfl⟩⟩, fun h => absurd h (by decide)⟩
theorem z_m_11_137 : z_qM "BellThatIsADoor" (137, [0, 26, 2, 0, 0, 8]) := z_eM (by decide) ⟨fun _ => ⟨z_y26, 1, by decide +kernel, ⟨rfl, z_inT 548 (by decide +kernel) rfl, z_inT 532 (by decide +kernel) rfl, z_inT 533 (by decide +kernel) rfl, z_F8, 11, rfl⟩⟩, fun h => absurd h (by decide)⟩
theorem z_m_11_143 : z_qM "BellThatIsADoor" (143, [0, 44, 4, 0, 0, 10]) := z_eM (by decide) ⟨fun _ => ⟨z_y44, 3, by decide +kernel, ⟨rfl, z_inT 561 (by decide +kernel) rfl, z_inT 562 (by decide +kernel) rfl, z_inT 563 (by decide +kernel) rfl, z_F10, 5, rfl⟩⟩, fun h => absurd h (by decide)⟩
theorem z_m_11_147 : z_qM "BellThatIsADoor" (147, [0, 45, 1, 0, 0, 10]) := z_eM (by decide) ⟨fun _ => ⟨z_y45, 0, by decide +kernel, ⟨rfl, z_inT 595 (by decide +kernel) rfl, z_inT 596 (by decide +kernel) rfl, z_inT 597 (by decide +kernel) rfl, z_F10, 5, rfl⟩⟩, fun h => absurd h (by decide)⟩
theorem z_m_11_151 : z_qM "BellThatIsADoor" (151, [0, 46, 2, 0, 0, 10]) := z_eM (by decide) ⟨fun _ => ⟨z_y46, 1, by decide +kernel, ⟨rfl, z_inT 599 (by decide +kernel) rfl, z_inT 600 (by decide +kernel) rfl, z_inT 601 (by decide +kernel) rfl, z_F10, 5, rfl⟩⟩, fun h => absurd h (by decide)⟩
theorem z_m_11_154 : z_qM "BellThatIsADoor" (154, [1, 109, 4, 0, 3, 11]) := z_eM (by decide) ⟨fun _ => ⟨z_y109, 4, by decide +kernel, ⟨rfl, z_inT 607 (by decide +kernel) rfl, z_inT 608 (by decide +kernel) rfl⟩⟩, fun h => absurd h (by decide)⟩
theorem z_m_11_158 : z_qM "BellThatIsADoor" (158, [1, 208, 1, 0, 0, 99]) := z_eM (by decide) ⟨fun _ => ⟨z_y208, 1, by decide +kernel, ⟨rfl, z_inT 614 (by decide +kernel) rfl, z_inT 615 (by decide +kernel) rfl⟩⟩, fun h => absurd h (by decide)⟩
theorem z_m_11_163 : z_qM "BellThatIsADoor" (163, [0, 110, 4, 0, 0, 11]) := z_eM (by decide) ⟨fun _ => ⟨z_y110, 3, by decide +kernel, ⟨rfl, z_inT 628 (by decide +kernel) rfl, z_inT 630 (by decide +kernel) rfl, z_inT 10 (by decide +kernel) rfl, z_F11, 11, rfl⟩⟩, fun h => absurd h (by decide)⟩
theorem z_m_11_167 : z_qM "BellThatIsADoor" (167, [0, 111, 4, 0, 0, 11]) := z_eM (by decide) ⟨fun _ => ⟨z_y111, 3, by decide +kernel, ⟨rfl, z_inT 632 (by decide +kernel) rfl, z_inT 634 (by decide +kernel) rfl, z_inT 11 (by decide +kernel) rfl, z_F11, 11, rfl⟩⟩, fun h => absurd h (by decide)⟩
theorem z_m_11_171 : z_qM "BellThatIsADoor" (171, [0, 112, 3, 0, 0, 11]) := z_eM (by decide) ⟨fun _ => ⟨z_y112, 2, by decide +kernel, ⟨rfl, z_inT 636 (by decide +kernel) rfl, z_inT 638 (by decide +kernel) rfl, z_inT 12 (by decide +kernel) rfl, z_F11, 11, rfl⟩⟩, fun h => absurd h (by decide)⟩
theorem z_m_11_175 : z_qM "BellThatIsADoor" (175, [0, 113, 3, 0, 0, 11]) := z_eM (by decide) ⟨fun _ => ⟨z_y113, 2, by decide +kernel, ⟨rfl, z_inT 659 (by decide +kernel) rfl, z_inT 661 (by decide +kernel) rfl, z_inT 14 (by decide +kernel) rfl, z_F11, 11, rfl⟩⟩, fun h => absurd h (by decide)⟩
theorem z_m_11_178 : z_qM "BellThatIsADoor" (178, [0, 22, 2, 0, 0, 8]) := z_eM (by decide) ⟨fun _ => ⟨z_y22, 1, by decide +kernel, ⟨rfl, z_inT 640 (by decide +kernel) rfl, z_inT 641 (by decide +kernel) rfl, z_inT 642 (by decide +kernel) rfl, z_F8, 11, rfl⟩⟩, fun h => absurd h (by decide)⟩
theorem z_m_11_181 : z_qM "BellThatIsADoor" (181, [0, 115, 4, 0, 0, 11]) := z_eM (by decide) ⟨fun _ => ⟨z_y115, 3, by decide +kernel, ⟨rfl, z_inT 671 (by decide +kernel) rfl, z_inT 673 (by decide +kernel) rfl, z_inT 15 (by decide +kernel) rfl, z_F11, 11, rfl⟩⟩, fun h => absurd h (by decide)⟩
theorem z_m_11_184 : z_qM "BellThatIsADoor" (184, [0, 38, 3, 0, 0, 8]) := z_eM (by decide) ⟨fun _ => ⟨z_y38, 2, by decide +kernel, ⟨rfl, z_inT 683 (by decide +kernel) rfl, z_inT 684 (by decide +kernel) rfl, z_inT 685 (by decide +kernel) rfl, z_F8, 11, rfl⟩⟩, fun h => absurd h (by decide)⟩
theorem z_m_11_188 : z_qM "BellThatIsADoor" (188, [1, 93, 1, 0, 0, 11]) := z_eM (by decide) ⟨fun _ => ⟨z_y93, 1, by decide +kernel, ⟨rfl, z_inT 695 (by decide +kernel) rfl, z_inT 696 (by decide +kernel) rfl⟩⟩, fun h => absurd h (by decide)⟩
theorem z_m_11_192 : z_qM "BellThatIsADoor" (192, [0, 117, 4, 0, 0, 11]) := z_eM (by decide) ⟨fun _ => ⟨z_y117, 3, by decide +kernel, ⟨rfl, z_inT 699 (by decide +kernel) rfl, z_inT 701 (by decide +kernel) rfl, z_inT 17 (by decide +kernel) rfl, z_F11, 11, rfl⟩⟩, fun h => absurd h (by decide)⟩
theorem z_m_11_196 : z_qM "BellThatIsADoor" (196, [1, 119, 3, 0, 0, 11]) := z_eM (by decide) ⟨fun _ => ⟨z_y119, 3, by decide +kernel, ⟨rfl, z_inT 709 (by decide +kernel) rfl, z_inT 710 (by decide +kernel) rfl⟩⟩, fun h => absurd h (by decide)⟩
theorem z_m_11_200 : z_qM "BellThatIsADoor" (200, [0, 41, 1, 0, 0, 8]) := z_eM (by decide) ⟨fun _ => ⟨z_y41, 0, by decide +kernel, ⟨rfl, z_inT 723 (by decide +kernel) rfl, z_inT 724 (by decide +kernel) rfl, z_inT 725 (by decide +kernel) rfl, z_F8, 11, rfl⟩⟩, fun h => absurd h (by decide)⟩
theorem z_m_11_203 : z_qM "BellThatIsADoor" (203, [7]) := ⟨fun t h => z_no (by decide) h, fun t _ => z_inT 456 (by decide +kernel) rfl, fun t h => z_no (by decide) h, fun t h => z_no (by decide) h, fun t h => z_no (by decide) h, fun _ _ _ _ _ _ _ h => absurd (List.cons.inj h).2 (by simp)⟩
theorem z_m_11_208 : z_qM "BellThatIsADoor" (208, [0, 27, 3, 0, 0, 8]) := z_eM (by decide) ⟨fun _ => ⟨z_y27, 2, by decide +kernel, ⟨rfl, z_inT 735 (by decide +kernel) rfl, z_inT 573 (by decide +kernel) rfl, z_inT 574 (by decide +kernel) rfl, z_F8, 11, rfl⟩⟩, fun h => absurd h (by decide)⟩
theorem z_m_11_211 : z_qM "BellThatIsADoor" (211, [0, 1, 1, 0, 0, 9]) := z_eM (by decide) ⟨fun _ => ⟨z_y1, 0, by decide +kernel, ⟨rfl, z_inT 395 (by decide +kernel) rfl, z_inT 396 (by decide +kernel) rfl, z_inT 397 (by decide +kernel) rfl, z_F9, 2, rfl⟩⟩, fun h => absurd h (by decide)⟩
theorem z_m_11_214 : z_qM "BellThatIsADoor" (214, [0, 4, 2, 0, 0, 9]) := z_eM (by decide) ⟨fun _ => ⟨z_y4, 1, by decide +kernel, ⟨rfl, z_inT 381 (by decide +kernel) rfl, z_inT 382 (by decide +kernel) rfl, z_inT 383 (by decide +kernel) rfl, z_F9, 2, rfl⟩⟩, fun h => absurd h (by decide)⟩
theorem z_m_11_217 : z_qM "BellThatIsADoor" (217, [0, 6, 1, 0, 0, 9]) := z_eM (by decide) ⟨fun _ => ⟨z_y6, 0, by decide +kernel, ⟨rfl, z_inT 654 (by decide +kernel) rfl, z_inT 655 (by decide +kernel) rfl, z_inT 656 (by decide +kernel) rfl, z_F9, 2, rfl⟩⟩, fun h => absurd h (by decide)⟩
theorem z_m_11_220 : z_qM "BellThatIsADoor" (220, [1, 121, 1, 0, 0, 11]) := z_eM (by decide) ⟨fun _ => ⟨z_y121, 1, by decide +kernel, ⟨rfl, z_inT 748 (by decide +kernel) rfl, z_inT 749 (by decide +kernel) rfl⟩⟩, fun h => absurd h (by decide)⟩
theorem z_m_11_223 : z_qM "BellThatIsADoor" (223, [1, 122, 2, 0, 0, 11]) := z_eM (by decide) ⟨fun _ => ⟨z_y122, 2, by decide +kernel, ⟨rfl, z_inT 752 (by decide +kernel) rfl, z_inT 753 (by decide +kernel) rfl⟩⟩, fun h => absurd h (by decide)⟩
theorem z_m_11_233 : z_qM "BellThatIsADoor" (233, [0, 39, 1, 0, 0, 8]) := z_eM (by decide) ⟨fun _ => ⟨z_y39, 0, by decide +kernel, ⟨rfl, z_inT 769 (by decide +kernel) rfl, z_inT 770 (by decide +kernel) rfl, z_inT 771 (by decide +kernel) rfl, z_F8, 11, rfl⟩⟩, fun h => absurd h (by decide)⟩
theorem z_m_11_236 : z_qM "BellThatIsADoor" (236, [0, 40, 1, 0, 0, 8]) := z_eM (by decide) ⟨fun _ => ⟨z_y40, 0, by decide +kernel, ⟨rfl, z_inT 773 (by decide +kernel) rfl, z_inT 774 (by decide +kernel) rfl, z_inT 775 (by decide +kernel) rfl, z_F8, 11, rfl⟩⟩, fun h => absurd h (by decide)⟩
theorem z_m_11_239 : z_qM "BellThatIsADoor" (239, [1, 89, 1, 0, 0, 11]) := z_eM (by decide) ⟨fun _ => ⟨z_y89, 1, by decide +kernel, ⟨rfl, z_inT 371 (by decide +kernel) rfl, z_inT 372 (by decide +kernel) rfl⟩⟩, fun h => absurd h (by decide)⟩
theorem z_m_11_242 : z_qM "BellThatIsADoor" (242, [0, 100, 3, 0, 0, 11]) := z_eM (by decide) ⟨fun _ => ⟨z_y100, 2, by decide +kernel, ⟨rfl, z_inT 414 (by decide +kernel) rfl, z_inT 416 (by decide +kernel) rfl, z_inT 4 (by decide +kernel) rfl, z_F11, 11, rfl⟩⟩, fun h => absurd h (by decide)⟩
theorem z_m_11_245 : z_qM "BellThatIsADoor" (245, [2, 0, 3, 0, 0, 9]) := z_eM (by decide) ⟨fun _ => ⟨z_y0, 2, by decide +kernel, ⟨rfl, z_inT 786 (by decide +kernel) rfl, z_inT 787 (by decide +kernel) rfl, by decide +kernel, by decide +kernel⟩⟩, fun h => absurd h (by decide)⟩
theorem z_m_11_248 : z_qM "BellThatIsADoor" (248, [0, 2, 2, 0, 0, 9]) := z_eM (by decide) ⟨fun _ => ⟨z_y2, 1, by decide +kernel, ⟨rfl, z_inT 804 (by decide +kernel) rfl, z_inT 386 (by decide +kernel) rfl, z_inT 387 (by decide +kernel) rfl, z_F9, 2, rfl⟩⟩, fun h => absurd h (by decide)⟩
theorem z_m_11_249 : z_qM "BellThatIsADoor" (249, [0, 5, 3, 0, 0, 9]) := z_eM (by decide) ⟨fun _ => ⟨z_y5, 2, by decide +kernel, ⟨rfl, z_inT 805 (by decide +kernel) rfl, z_inT 806 (by decide +kernel) rfl, z_inT 807 (by decide +kernel) rfl, z_F9, 2, rfl⟩⟩, fun h => absurd h (by decide)⟩
theorem z_m_11_264 : z_qM "BellThatIsADoor" (264, [0, 94, 2, 0, 0, 11]) := z_eM (by decide) ⟨fun _ => ⟨z_y94, 1, by decide +kernel, ⟨rfl, z_inT 813 (by decide +kernel) rfl, z_inT 815 (by decide +kernel) rfl, z_inT 20 (by decide +kernel) rfl, z_F11, 11, rfl⟩⟩, fun h => absurd h (by decide)⟩
theorem z_m_11_267 : z_qM "BellThatIsADoor" (267, [0, 3, 3, 0, 0, 9]) := z_eM (by decide) ⟨fun _ => ⟨z_y3, 2, by decide +kernel, ⟨rfl, z_inT 817 (by decide +kernel) rfl, z_inT 818 (by decide +kernel) rfl, z_inT 819 (by decide +kernel) rfl, z_F9, 2, rfl⟩⟩, fun h => absurd h (by decide)⟩
theorem z_m_11_273 : z_qM "BellThatIsADoor" (273, [10]) := ⟨fun t h => z_no (by decide) h, fun t h => z_no (by decide) h, fun t h => z_no (by decide) h, fun t h => z_no (by decide) h, fun t _ => z_inT 821 (by decide +kernel) rfl, fun _ _ _ _ _ _ _ h => absurd (List.cons.inj h).2 (by simp)⟩
theorem z_m_11_282 : z_qM "BellThatIsADoor" (282, [1, 1000, 1, 0, 0, 0]) := z_eM (by decide) ⟨fun h => absurd h (by decide), fun _ => rfl⟩
theorem z_m_11_298 : z_qM "BellThatIsADoor" (298, [2, 8, 3, 0, 0, 3]) := z_eM (by decide) ⟨fun _ => ⟨z_y8, 2, by decide +kernel, ⟨rfl, z_inT 150 (by decide +kernel) rfl, z_inT 151 (by decide +kernel) rfl, by decide +kernel, by decide +kernel⟩⟩, fun h => absurd h (by decide)⟩
theorem z_m_11_301 : z_qM "BellThatIsADoor" (301, [2, 9, 3, 0, 0, 1]) := z_eM (by decide) ⟨fun _ => ⟨z_y9, 2, by decide +kernel, ⟨rfl, z_inT 238 (by decide +kernel) rfl, z_inT 239 (by decide +kernel) rfl, by decide +kernel, by decide +kernel⟩⟩, fun h => absurd h (by decide)⟩
theorem z_m_11_304 : z_qM "BellThatIsADoor" (304, [2, 10, 3, 0, 0, 6]) := z_eM (by decide) ⟨fun _ => ⟨z_y10, 2, by decide +kernel, ⟨rfl, z_inT 252 (by decide +kernel) rfl, z_inT 253 (by decide +kernel) rfl, by decide +kernel, by decide +kernel⟩⟩, fun h => absurd h (by decide)⟩
theorem z_m_11_307 : z_qM "BellThatIsADoor" (307, [2, 11, 3, 0, 0, 4]) := z_eM (by decide) ⟨fun _ => ⟨z_y11, 2, by decide +kernel, ⟨rfl, z_inT 266 (by decide +kernel) rfl, z_inT 267 (by decide +kernel) rfl, by decide +kernel, by decide +kernel⟩⟩, fun h => absurd h (by decide)⟩
theorem z_m_11_310 : z_qM "BellThatIsADoor" (310, [2, 12, 3, 0, 0, 5]) := z_eM (by decide) ⟨fun _ => ⟨z_y12, 2, by decide +kernel, ⟨rfl, z_inT 280 (by decide +kernel) rfl, z_inT 281 (by decide +kernel) rfl, by decide +kernel, by decide +kernel⟩⟩, fun h => absurd h (by decide)⟩
theorem z_m_11_313 : z_qM "BellThatIsADoor" (313, [2, 13, 3, 0, 0, 2]) := z_eM (by decide) ⟨fun _ => ⟨z_y13, 2, by decide +kernel, ⟨rfl, z_inT 293 (by decide +kernel) rfl, z_inT 294 (by decide +kernel) rfl, by decide +kernel, by decide +kernel⟩⟩, fun h => absurd h (by decide)⟩
theorem z_m_11_316 : z_qM "BellThatIsADoor" (316, [2, 14, 3, 0, 0, 7]) := z_eM (by decide) ⟨fun _ => ⟨z_y14, 2, by decide +kernel, ⟨rfl, z_inT 309 (by decide +kernel) rfl, z_inT 310 (by decide +kernel) rfl, by decide +kernel, by decide +kernel⟩⟩, fun h => absurd h (by decide)⟩
theorem z_m_11_317 : z_qM "BellThatIsADoor" (317, [2, 7, 3, 0, 0, 0]) := z_eM (by decide) ⟨fun _ => ⟨z_y7, 2, by decide +kernel, ⟨rfl, z_inT 321 (by decide +kernel) rfl, z_inT 154 (by decide +kernel) rfl, by decide +kernel, by decide +kernel⟩⟩, fun h => absurd h (by decide)⟩
theorem z_m_11_318 : z_qM "BellThatIsADoor" (318, [1, 101, 1, 0, 0, 11]) := z_eM (by decide) ⟨fun _ => ⟨z_y101, 1, by decide +kernel, ⟨rfl, z_inT 389 (by decide +kernel) rfl, z_inT 390 (by decide +kernel) rfl⟩⟩, fun h => absurd h (by decide)⟩
theorem z_m_11_321 : z_qM "BellThatIsADoor" (321, [1, 102, 1, 0, 0, 11]) := z_eM (by decide) ⟨fun _ => ⟨z_y102, 1, by decide +kernel, ⟨rfl, z_inT 392 (by decide +kernel) rfl, z_inT 393 (by decide +kernel) rfl⟩⟩, fun h => absurd h (by decide)⟩
theorem z_m_11_324 : z_qM "BellThatIsADoor" (324, [0, 105, 3, 0, 0, 11]) := z_eM (by decide) ⟨fun _ => ⟨z_y105, 2, by decide +kernel, ⟨rfl, z_inT 407 (by decide +kernel) rfl, z_inT 409 (by decide +kernel) rfl, z_inT 3 (by decide +kernel) rfl, z_F11, 11, rfl⟩⟩, fun h => absurd h (by decide)⟩
theorem z_m_11_328 : z_qM "BellThatIsADoor" (328, [1, 106, 2, 0, 0, 11]) := z_eM (by decide) ⟨fun _ => ⟨z_y106, 2, by decide +kernel, ⟨rfl, z_inT 411 (by decide +kernel) rfl, z_inT 412 (by decide +kernel) rfl⟩⟩, fun h => absurd h (by decide)⟩
theorem z_m_11_331 : z_qM "BellThatIsADoor" (331, [1, 107, 2, 0, 0, 11]) := z_eM (by decide) ⟨fun _ => ⟨z_y107, 2, by decide +kernel, ⟨rfl, z_inT 418 (by decide +kernel) rfl, z_inT 419 (by decide +kernel) rfl⟩⟩, fun h => absurd h (by decide)⟩
theorem z_m_11_334 : z_qM "BellThatIsADoor" (334, [0, 24, 2, 0, 0, 8]) := z_eM (by decide) ⟨fun _ => ⟨z_y24, 1, by decide +kernel, ⟨rfl, z_inT 644 (by decide +kernel) rfl, z_inT 541 (by decide +kernel) rfl, z_inT 542 (by decide +kernel) rfl, z_F8, 11, rfl⟩⟩, fun h => absurd h (by decide)⟩
theorem z_m_11_337 : z_qM "BellThatIsADoor" (337, [0, 114, 4, 0, 0, 11]) := z_eM (by decide) ⟨fun _ => ⟨z_y114, 3, by decide +kernel, ⟨rfl, z_inT 645 (by decide +kernel) rfl, z_inT 647 (by decide +kernel) rfl, z_inT 13 (by decide +kernel) rfl, z_F11, 11, rfl⟩⟩, fun h => absurd h (by decide)⟩
theorem z_m_11_341 : z_qM "BellThatIsADoor" (341, [0, 21, 2, 0, 0, 8]) := z_eM (by decide) ⟨fun _ => ⟨z_y21, 1, by decide +kernel, ⟨rfl, z_inT 663 (by decide +kernel) rfl, z_inT 664 (by decide +kernel) rfl, z_inT 665 (by decide +kernel) rfl, z_F8, 11, rfl⟩⟩, fun h => absurd h (by decide)⟩
theorem z_m_11_344 : z_qM "BellThatIsADoor" (344, [0, 17, 4, 0, 0, 8]) := z_eM (by decide) ⟨fun _ => ⟨z_y17, 3, by decide +kernel, ⟨rfl, z_inT 649 (by decide +kernel) rfl, z_inT 650 (by decide +kernel) rfl, z_inT 651 (by decide +kernel) rfl, z_F8, 11, rfl⟩⟩, fun h => absurd h (by decide)⟩
theorem z_m_11_348 : z_qM "BellThatIsADoor" (348, [0, 116, 3, 0, 0, 11]) := z_eM (by decide) ⟨fun _ => ⟨z_y116, 2, by decide +kernel, ⟨rfl, z_inT 675 (by decide +kernel) rfl, z_inT 677 (by decide +kernel) rfl, z_inT 16 (by decide +kernel) rfl, z_F11, 11, rfl⟩⟩, fun h => absurd h (by decide)⟩
theorem z_m_11_351 : z_qM "BellThatIsADoor" (351, [0, 25, 2, 0, 0, 8]) := z_eM (by decide) ⟨fun _ => ⟨z_y25, 1, by decide +kernel, ⟨rfl, z_inT 703 (by decide +kernel) rfl, z_inT 536 (by decide +kernel) rfl, z_inT 537 (by decide +kernel) rfl, z_F8, 11, rfl⟩⟩, fun h => absurd h (by decide)⟩
theorem z_m_11_354 : z_qM "BellThatIsADoor" (354, [8]) := ⟨fun t h => z_no (by decide) h, fun t h => z_no (by decide) h, fun t _ => z_inT 704 (by decide +kernel) rfl, fun t h => z_no (by decide) h, fun t h => z_no (by decide) h, fun _ _ _ _ _ _ _ h => absurd (List.cons.inj h).2 (by simp)⟩
theorem z_m_11_357 : z_qM "BellThatIsADoor" (357, [0, 118, 1, 0, 0, 11]) := z_eM (by decide) ⟨fun _ => ⟨z_y118, 0, by decide +kernel, ⟨rfl, z_inT 705 (by decide +kernel) rfl, z_inT 707 (by decide +kernel) rfl, z_inT 18 (by decide +kernel) rfl, z_F11, 11, rfl⟩⟩, fun h => absurd h (by decide)⟩
theorem z_m_11_361 : z_qM "BellThatIsADoor" (361, [1, 120, 2, 0, 0, 11]) := z_eM (by decide) ⟨fun _ => ⟨z_y120, 2, by decide +kernel, ⟨rfl, z_inT 712 (by decide +kernel) rfl, z_inT 713 (by decide +kernel) rfl⟩⟩, fun h => absurd h (by decide)⟩
theorem z_rowM_11 : ∀ row, z_mT[11]? = some row → ∀ q ∈ row, z_qM (z_own 11) q := by
  intro row h
  cases h
  exact List.forall_mem_cons.mpr ⟨z_m_11_3, List.forall_mem_cons.mpr ⟨z_m_11_11, List.forall_mem_cons.mpr ⟨z_m_11_39, List.forall_mem_cons.mpr ⟨z_m_11_55, List.forall_mem_cons.mpr ⟨z_m_11_59, List.forall_mem_cons.mpr ⟨z_m_11_63, List.forall_mem_cons.mpr ⟨z_m_11_71, List.forall_mem_cons.mpr ⟨z_m_11_75, List.forall_mem_cons.mpr ⟨z_m_11_78, List.forall_mem_cons.mpr ⟨z_m_11_82, List.forall_mem_cons.mpr ⟨z_m_11_86, List.forall_mem_cons.mpr ⟨z_m_11_90, List.forall_mem_cons.mpr ⟨z_m_11_93, List.forall_mem_cons.mpr ⟨z_m_11_97, List.forall_mem_cons.mpr ⟨z_m_11_100, List.forall_mem_cons.mpr ⟨z_m_11_106, List.forall_mem_cons.mpr ⟨z_m_11_109, List.forall_mem_cons.mpr ⟨z_m_11_112, List.forall_mem_cons.mpr ⟨z_m_11_115, List.forall_mem_cons.mpr ⟨z_m_11_118, List.forall_mem_cons.mpr ⟨z_m_11_121, List.forall_mem_cons.mpr ⟨z_m_11_124, List.forall_mem_cons.mpr ⟨z_m_11_128, List.forall_mem_cons.mpr ⟨z_m_11_131, List.forall_mem_cons.mpr ⟨z_m_11_134, List.forall_mem_cons.mpr ⟨z_m_11_137, List.forall_mem_cons.mpr ⟨z_m_11_143, List.forall_mem_cons.mpr ⟨z_m_11_147, List.forall_mem_cons.mpr ⟨z_m_11_151, List.forall_mem_cons.mpr ⟨z_m_11_154, List.forall_mem_cons.mpr ⟨z_m_11_158, List.forall_mem_cons.mpr ⟨z_m_11_163, List.forall_mem_cons.mpr ⟨z_m_11_167, List.forall_mem_cons.mpr ⟨z_m_11_171, List.forall_mem_cons.mpr ⟨z_m_11_175, List.forall_mem_cons.mpr ⟨z_m_11_178, List.forall_mem_cons.mpr ⟨z_m_11_181, List.forall_mem_cons.mpr ⟨z_m_11_184, List.forall_mem_cons.mpr ⟨z_m_11_188, List.forall_mem_cons.mpr ⟨z_m_11_192, List.forall_mem_cons.mpr ⟨z_m_11_196, List.forall_mem_cons.mpr ⟨z_m_11_200, List.forall_mem_cons.mpr ⟨z_m_11_203, List.forall_mem_cons.mpr ⟨z_m_11_208, List.forall_mem_cons.mpr ⟨z_m_11_211, List.forall_mem_cons.mpr ⟨z_m_11_214, List.forall_mem_cons.mpr ⟨z_m_11_217, List.forall_mem_cons.mpr ⟨z_m_11_220, List.forall_mem_cons.mpr ⟨z_m_11_223, List.forall_mem_cons.mpr ⟨z_m_11_233, List.forall_mem_cons.mpr ⟨z_m_11_236, List.forall_mem_cons.mpr ⟨z_m_11_239, List.forall_mem_cons.mpr ⟨z_m_11_242, List.forall_mem_cons.mpr ⟨z_m_11_245, List.forall_mem_cons.mpr ⟨z_m_11_248, List.forall_mem_cons.mpr ⟨z_m_11_249, List.forall_mem_cons.mpr ⟨z_m_11_264, List.forall_mem_cons.mpr ⟨z_m_11_267, List.forall_mem_cons.mpr ⟨z_m_11_273, List.forall_mem_cons.mpr ⟨z_m_11_282, List.forall_mem_cons.mpr ⟨z_m_11_298, List.forall_mem_cons.mpr ⟨z_m_11_301, List.forall_mem_cons.mpr ⟨z_m_11_304, List.forall_mem_cons.mpr ⟨z_m_11_307, List.forall_mem_cons.mpr ⟨z_m_11_310, List.forall_mem_cons.mpr ⟨z_m_11_313, List.forall_mem_cons.mpr ⟨z_m_11_316, List.forall_mem_cons.mpr ⟨z_m_11_317, List.forall_mem_cons.mpr ⟨z_m_11_318, List.forall_mem_cons.mpr ⟨z_m_11_321, List.forall_mem_cons.mpr ⟨z_m_11_324, List.forall_mem_cons.mpr ⟨z_m_11_328, List.forall_mem_cons.mpr ⟨z_m_11_331, List.forall_mem_cons.mpr ⟨z_m_11_334, List.forall_mem_cons.mpr ⟨z_m_11_337, List.forall_mem_cons.mpr ⟨z_m_11_341, List.forall_mem_cons.mpr ⟨z_m_11_344, List.forall_mem_cons.mpr ⟨z_m_11_348, List.forall_mem_cons.mpr ⟨z_m_11_351, List.forall_mem_cons.mpr ⟨z_m_11_354, List.forall_mem_cons.mpr ⟨z_m_11_357, List.forall_mem_cons.mpr ⟨z_m_11_361, fun _ h => absurd h List.not_mem_nil⟩⟩⟩⟩⟩⟩⟩⟩⟩⟩⟩⟩⟩⟩⟩⟩⟩⟩⟩⟩⟩⟩⟩⟩⟩⟩⟩⟩⟩⟩⟩⟩⟩⟩⟩⟩⟩⟩⟩⟩⟩⟩⟩⟩⟩⟩⟩⟩⟩⟩⟩⟩⟩⟩⟩⟩⟩⟩⟩⟩⟩⟩⟩⟩⟩⟩⟩⟩⟩⟩⟩⟩⟩⟩⟩⟩⟩⟩⟩⟩⟩⟩
theorem z_m_12_1 : z_qM "BellThatIsADoorModel" (1, [6]) := ⟨fun t _ => z_inT 976 (by decide +kernel) rfl, fun t h => z_no (by decide) h, fun t h => z_no (by decide) h, fun t h => z_no (by decide) h, fun t h => z_no (by decide) h, fun _ _ _ _ _ _ _ h => absurd (List.cons.inj h).2 (by simp)⟩
theorem z_m_12_52 : z_qM "BellThatIsADoorModel" (52, [1, 124, 3, 0, 0, 12]) := z_eM (by decide) ⟨fun _ => ⟨z_y124, 3, by decide +kernel, ⟨rfl, z_inT 1052 (by decide +kernel) rfl, z_inT 1053 (by decide +kernel) rfl⟩⟩, fun h => absurd h (by decide)⟩
theorem z_m_12_56 : z_qM "BellThatIsADoorModel" (56, [1, 127, 2, 0, 0, 12]) := z_eM (by decide) ⟨fun _ => ⟨z_y127, 2, by decide +kernel, ⟨rfl, z_inT 1081 (by decide +kernel) rfl, z_inT 1082 (by decide +kernel) rfl⟩⟩, fun h => absurd h (by decide)⟩
theorem z_m_12_60 : z_qM "BellThatIsADoorModel" (60, [1, 132, 3, 0, 0, 12]) := z_eM (by decide) ⟨fun _ => ⟨z_y132, 3, by decide +kernel, ⟨rfl, z_inT 1094 (by decide +kernel) rfl, z_inT 1095 (by decide +kernel) rfl⟩⟩, fun h => absurd h (by decide)⟩
theorem z_m_12_63 : z_qM "BellThatIsADoorModel" (63, [1, 133, 2, 0, 0, 12]) := z_eM (by decide) ⟨fun _ => ⟨z_y133, 2, by decide +kernel, ⟨rfl, z_inT 1103 (by decide +kernel) rfl, z_inT 1104 (by decide +kernel) rfl⟩⟩, fun h => absurd h (by decide)⟩
theorem z_m_12_66 : z_qM "BellThatIsADoorModel" (66, [1, 134, 2, 0, 0, 12]) := z_eM (by decide) ⟨fun _ => ⟨z_y134, 2, by decide +kernel, ⟨rfl, z_inT 1109 (by decide +kernel) rfl, z_inT 1110 (by decide +kernel) rfl⟩⟩, fun h => absurd h (by decide)⟩
theorem z_m_12_69 : z_qM "BellThatIsADoorModel" (69, [1, 136, 2, 0, 0, 12]) := z_eM (by decide) ⟨fun _ => ⟨z_y136, 2, by decide +kernel, ⟨rfl, z_inT 1100 (by decide +kernel) rfl, z_inT 1101 (by decide +kernel) rfl⟩⟩, fun h => absurd h (by decide)⟩
theorem z_m_12_73 : z_qM "BellThatIsADoorModel" (73, [1, 137, 2, 0, 0, 12]) := z_eM (by decide) ⟨fun _ => ⟨z_y137, 2, by decide +kernel, ⟨rfl, z_inT 1106 (by decide +kernel) rfl, z_inT 1107 (by decide +kernel) rfl⟩⟩, fun h => absurd h (by decide)⟩
theorem z_m_12_76 : z_qM "BellThatIsADoorModel" (76, [1, 125, 2, 0, 0, 12]) := z_eM (by decide) ⟨fun _ => ⟨z_y125, 2, by decide +kernel, ⟨rfl, z_inT 1112 (by decide +kernel) rfl, z_inT 1113 (by decide +kernel) rfl⟩⟩, fun h => absurd h (by decide)⟩
theorem z_m_12_79 : z_qM "BellThatIsADoorModel" (79, [1, 135, 3, 0, 0, 12]) := z_eM (by decide) ⟨fun _ => ⟨z_y135, 3, by decide +kernel, ⟨rfl, z_inT 1091 (by decide +kernel) rfl, z_inT 1092 (by decide +kernel) rfl⟩⟩, fun h => absurd h (by decide)⟩
theorem z_m_12_83 : z_qM "BellThatIsADoorModel" (83, [1, 138, 3, 0, 0, 12]) := z_eM (by decide) ⟨fun _ => ⟨z_y138, 3, by decide +kernel, ⟨rfl, z_inT 1097 (by decide +kernel) rfl, z_inT 1098 (by decide +kernel) rfl⟩⟩, fun h => absurd h (by decide)⟩
theorem z_m_12_97 : z_qM "BellThatIsADoorModel" (97, [0, 141, 1, 0, 0, 12]) := z_eM (by decide) ⟨fun _ => ⟨z_y141, 0, by decide +kernel, ⟨rfl, z_inT 1059 (by decide +kernel) rfl, z_inT 1061 (by decide +kernel) rfl, z_inT 24 (by decide +kernel) rfl, z_F12, 21, rfl⟩⟩, fun h => absurd h (by decide)⟩
theorem z_m_12_101 : z_qM "BellThatIsADoorModel" (101, [0, 142, 3, 0, 0, 12]) := z_eM (by decide) ⟨fun _ => ⟨z_y142, 2, by decide +kernel, ⟨rfl, z_inT 1063 (by decide +kernel) rfl, z_inT 1065 (by decide +kernel) rfl, z_inT 25 (by decide +kernel) rfl, z_F12, 21, rfl⟩⟩, fun h => absurd h (by decide)⟩
theorem z_m_12_105 : z_qM "BellThatIsADoorModel" (105, [1, 140, 1, 0, 0, 12]) := z_eM (by decide) ⟨fun _ => ⟨z_y140, 1, by decide +kernel, ⟨rfl, z_inT 1123 (by decide +kernel) rfl, z_inT 1124 (by decide +kernel) rfl⟩⟩, fun h => absurd h (by decide)⟩
theorem z_m_12_109 : z_qM "BellThatIsADoorModel" (109, [1, 129, 1, 0, 0, 12]) := z_eM (by decide) ⟨fun _ => ⟨z_y129, 1, by decide +kernel, ⟨rfl, z_inT 1074 (by decide +kernel) rfl, z_inT 1075 (by decide +kernel) rfl⟩⟩, fun h => absurd h (by decide)⟩
theorem z_m_12_113 : z_qM "BellThatIsADoorModel" (113, [0, 144, 4, 0, 0, 12]) := z_eM (by decide) ⟨fun _ => ⟨z_y144, 3, by decide +kernel, ⟨rfl, z_inT 1077 (by decide +kernel) rfl, z_inT 1079 (by decide +kernel) rfl, z_inT 27 (by decide +kernel) rfl, z_F12, 21, rfl⟩⟩, fun h => absurd h (by decide)⟩
theorem z_m_12_117 : z_qM "BellThatIsADoorModel" (117, [0, 128, 2, 0, 0, 12]) := z_eM (by decide) ⟨fun _ => ⟨z_y128, 1, by decide +kernel, ⟨rfl, z_inT 1084 (by decide +kernel) rfl, z_inT 1086 (by decide +kernel) rfl, z_inT 28 (by decide +kernel) rfl, z_F12, 21, rfl⟩⟩, fun h => absurd h (by decide)⟩
theorem z_m_12_120 : z_qM "BellThatIsADoorModel" (120, [1, 139, 2, 0, 0, 12]) := z_eM (by decide) ⟨fun _ => ⟨z_y139, 2, by decide +kernel, ⟨rfl, z_inT 1088 (by decide +kernel) rfl, z_inT 1089 (by decide +kernel) rfl⟩⟩, fun h => absurd h (by decide)⟩
theorem z_m_12_123 : z_qM "BellThatIsADoorModel" (123, [0, 145, 2, 0, 0, 12]) := z_eM (by decide) ⟨fun _ => ⟨z_y145, 1, by decide +kernel, ⟨rfl, z_inT 1115 (by decide +kernel) rfl, z_inT 1117 (by decide +kernel) rfl, z_inT 29 (by decide +kernel) rfl, z_F12, 21, rfl⟩⟩, fun h => absurd h (by decide)⟩
theorem z_m_12_126 : z_qM "BellThatIsADoorModel" (126, [0, 146, 2, 0, 0, 12]) := z_eM (by decide) ⟨fun _ => ⟨z_y146, 1, by decide +kernel, ⟨rfl, z_inT 1119 (by decide +kernel) rfl, z_inT 1121 (by decide +kernel) rfl, z_inT 30 (by decide +kernel) rfl, z_F12, 21, rfl⟩⟩, fun h => absurd h (by decide)⟩
theorem z_m_12_130 : z_qM "BellThatIsADoorModel" (130, [0, 198, 3, 0, 0, 12]) := z_eM (by decide) ⟨fun _ => ⟨z_y198, 2, by decide +kernel, ⟨rfl, z_inT 1045 (by decide +kernel) rfl, z_inT 1047 (by decide +kernel) rfl, z_inT 22 (by decide +kernel) rfl, z_F12, 21, rfl⟩⟩, fun h => absurd h (by decide)⟩
theorem z_m_12_133 : z_qM "BellThatIsADoorModel" (133, [0, 143, 1, 0, 0, 12]) := z_eM (by decide) ⟨fun _ => ⟨z_y143, 0, by decide +kernel, ⟨rfl, z_inT 1055 (by decide +kernel) rfl, z_inT 1057 (by decide +kernel) rfl, z_inT 23 (by decide +kernel) rfl, z_F12, 21, rfl⟩⟩, fun h => absurd h (by decide)⟩
theorem z_m_12_137 : z_qM "BellThatIsADoorModel" (137, [1, 126, 2, 0, 0, 12]) := z_eM (by decide) ⟨fun _ => ⟨z_y126, 2, by decide +kernel, ⟨rfl, z_inT 1067 (by decide +kernel) rfl, z_inT 1068 (by decide +kernel) rfl⟩⟩, fun h => absurd h (by decide)⟩
theorem z_m_12_141 : z_qM "BellThatIsADoorModel" (141, [0, 147, 2, 0, 0, 12]) := z_eM (by decide) ⟨fun _ => ⟨z_y147, 1, by decide +kernel, ⟨rfl, z_inT 1070 (by decide +kernel) rfl, z_inT 1072 (by decide +kernel) rfl, z_inT 26 (by decide +kernel) rfl, z_F12, 21, rfl⟩⟩, fun h => absurd h (by decide)⟩
theorem z_m_12_144 : z_qM "BellThatIsADoorModel" (144, [0, 199, 2, 0, 0, 12]) := z_eM (by decide) ⟨fun _ => ⟨z_y199, 1, by decide +kernel, ⟨rfl, z_inT 1134 (by decide +kernel) rfl, z_inT 1136 (by decide +kernel) rfl, z_inT 31 (by decide +kernel) rfl, z_F12, 21, rfl⟩⟩, fun h => absurd h (by decide)⟩
theorem z_m_12_148 : z_qM "BellThatIsADoorModel" (148, [0, 154, 2, 0, 0, 12]) := z_eM (by decide) ⟨fun _ => ⟨z_y154, 1, by decide +kernel, ⟨rfl, z_inT 1154 (by decide +kernel) rfl, z_inT 1156 (by decide +kernel) rfl, z_inT 32 (by decide +kernel) rfl, z_F12, 21, rfl⟩⟩, fun h => absurd h (by decide)⟩
theorem z_m_12_151 : z_qM "BellThatIsADoorModel" (151, [0, 156, 2, 0, 0, 12]) := z_eM (by decide) ⟨fun _ => ⟨z_y156, 1, by decide +kernel, ⟨rfl, z_inT 1162 (by decide +kernel) rfl, z_inT 1164 (by decide +kernel) rfl, z_inT 33 (by decide +kernel) rfl, z_F12, 21, rfl⟩⟩, fun h => absurd h (by decide)⟩
theorem z_m_12_154 : z_qM "BellThatIsADoorModel" (154, [0, 159, 3, 0, 0, 12]) := z_eM (by decide) ⟨fun _ => ⟨z_y159, 2, by decide +kernel, ⟨rfl, z_inT 1174 (by decide +kernel) rfl, z_inT 1176 (by decide +kernel) rfl, z_inT 34 (by decide +kernel) rfl, z_F12, 21, rfl⟩⟩, fun h => absurd h (by decide)⟩
theorem z_m_12_161 : z_qM "BellThatIsADoorModel" (161, [1, 130, 2, 0, 0, 12]) := z_eM (by decide) ⟨fun _ => ⟨z_y130, 2, by decide +kernel, ⟨rfl, z_inT 1199 (by decide +kernel) rfl, z_inT 1200 (by decide +kernel) rfl⟩⟩, fun h => absurd h (by decide)⟩
theorem z_m_12_164 : z_qM "BellThatIsADoorModel" (164, [1, 165, 2, 0, 0, 12]) := z_eM (by decide) ⟨fun _ => ⟨z_y165, 2, by decide +kernel, ⟨rfl, z_inT 1202 (by decide +kernel) rfl, z_inT 1203 (by decide +kernel) rfl⟩⟩, fun h => absurd h (by decide)⟩
theorem z_m_12_167 : z_qM "BellThatIsADoorModel" (167, [0, 164, 3, 0, 0, 12]) := z_eM (by decide) ⟨fun _ => ⟨z_y164, 2, by decide +kernel, ⟨rfl, z_inT 1205 (by decide +kernel) rfl, z_inT 1207 (by decide +kernel) rfl, z_inT 36 (by decide +kernel) rfl, z_F12, 21, rfl⟩⟩, fun h => absurd h (by decide)⟩
theorem z_m_12_170 : z_qM "BellThatIsADoorModel" (170, [0, 166, 5, 0, 6, 12]) := z_eM (by decide) ⟨fun _ => ⟨z_y166, 4, by decide +kernel, ⟨rfl, z_inT 1195 (by decide +kernel) rfl, z_inT 1197 (by decide +kernel) rfl, z_inT 35 (by decide +kernel) rfl, z_F12, 21, rfl⟩⟩, fun h => absurd h (by decide)⟩
theorem z_m_12_174 : z_qM "BellThatIsADoorModel" (174, [1, 131, 1, 0, 0, 12]) := z_eM (by decide) ⟨fun _ => ⟨z_y131, 1, by decide +kernel, ⟨rfl, z_inT 1209 (by decide +kernel) rfl, z_inT 1210 (by decide +kernel) rfl⟩⟩, fun h => absurd h (by decide)⟩
theorem z_m_12_177 : z_qM "BellThatIsADoorModel" (177, [0, 168, 2, 0, 0, 12]) := z_eM (by decide) ⟨fun _ => ⟨z_y168, 1, by decide +kernel, ⟨rfl, z_inT 1216 (by decide +kernel) rfl, z_inT 1218 (by decide +kernel) rfl, z_inT 37 (by decide +kernel) rfl, z_F12, 21, rfl⟩⟩, fun h => absurd h (by decide)⟩
theorem z_m_12_181 : z_qM "BellThatIsADoorModel" (181, [1, 172, 1, 0, 0, 12]) := z_eM (by decide) ⟨fun _ => ⟨z_y172, 1, by decide +kernel, ⟨rfl, z_inT 1244 (by decide +kernel) rfl, z_inT 1245 (by decide +kernel) rfl⟩⟩, fun h => absurd h (by decide)⟩
theorem z_m_12_184 : z_qM "BellThatIsADoorModel" (184, [0, 174, 3, 0, 0, 12]) := z_eM (by decide) ⟨fun _ => ⟨z_y174, 2, by decide +kernel, ⟨rfl, z_inT 1240 (by decide +kernel) rfl, z_inT 1242 (by decide +kernel) rfl, z_inT 40 (by decide +kernel) rfl, z_F12, 21, rfl⟩⟩, fun h => absurd h (by decide)⟩
theorem z_m_12_187 : z_qM "BellThatIsADoorModel" (187, [0, 173, 2, 0, 0, 12]) := z_eM (by decide) ⟨fun _ => ⟨z_y173, 1, by decide +kernel, ⟨rfl, z_inT 1232 (by decide +kernel) rfl, z_inT 1234 (by decide +kernel) rfl, z_inT 38 (by decide +kernel) rfl, z_F12, 21, rfl⟩⟩, fun h => absurd h (by decide)⟩
theorem z_m_12_190 : z_qM "BellThatIsADoorModel" (190, [0, 175, 4, 0, 0, 12]) := z_eM (by decide) ⟨fun _ => ⟨z_y175, 3, by decide +kernel, ⟨rfl, z_inT 1236 (by decide +kernel) rfl, z_inT 1238 (by decide +kernel) rfl, z_inT 39 (by decide +kernel) rfl, z_F12, 21, rfl⟩⟩, fun h => absurd h (by decide)⟩
theorem z_m_12_194 : z_qM "BellThatIsADoorModel" (194, [1, 177, 3, 0, 0, 12]) := z_eM (by decide) ⟨fun _ => ⟨z_y177, 3, by decide +kernel, ⟨rfl, z_inT 1255 (by decide +kernel) rfl, z_inT 1256 (by decide +kernel) rfl⟩⟩, fun h => absurd h (by decide)⟩
theorem z_m_12_197 : z_qM "BellThatIsADoorModel" (197, [1, 178, 3, 0, 0, 12]) := z_eM (by decide) ⟨fun _ => ⟨z_y178, 3, by decide +kernel, ⟨rfl, z_inT 1252 (by decide +kernel) rfl, z_inT 1253 (by decide +kernel) rfl⟩⟩, fun h => absurd h (by decide)⟩
theorem z_m_12_200 : z_qM "BellThatIsADoorModel" (200, [1, 182, 2, 0, 0, 12]) := z_eM (by decide) ⟨fun _ => ⟨z_y182, 2, by decide +kernel, ⟨rfl, z_inT 1274 (by decide +kernel) rfl, z_inT 1275 (by decide +kernel) rfl⟩⟩, fun h => absurd h (by decide)⟩
theorem z_m_12_206 : z_qM "BellThatIsADoorModel" (206, [1, 183, 3, 0, 0, 12]) := z_eM (by decide) ⟨fun _ => ⟨z_y183, 3, by decide +kernel, ⟨rfl, z_inT 1271 (by decide +kernel) rfl, z_inT 1272 (by decide +kernel) rfl⟩⟩, fun h => absurd h (by decide)⟩
theorem z_m_12_210 : z_qM "BellThatIsADoorModel" (210, [0, 186, 1, 0, 0, 12]) := z_eM (by decide) ⟨fun _ => ⟨z_y186, 0, by decide +kernel, ⟨rfl, z_inT 1285 (by decide +kernel) rfl, z_inT 1287 (by decide +kernel) rfl, z_inT 41 (by decide +kernel) rfl, z_F12, 21, rfl⟩⟩, fun h => absurd h (by decide)⟩
theorem z_m_12_219 : z_qM "BellThatIsADoorModel" (219, [0, 191, 2, 0, 0, 12]) := z_eM (by decide) ⟨fun _ => ⟨z_y191, 1, by decide +kernel, ⟨rfl, z_inT 1305 (by decide +kernel) rfl, z_inT 1307 (by decide +kernel) rfl, z_inT 42 (by decide +kernel) rfl, z_F12, 21, rfl⟩⟩, fun h => absurd h (by decide)⟩
theorem z_m_12_229 : z_qM "BellThatIsADoorModel" (229, [1, 197, 1, 0, 0, 12]) := z_eM (by decide) ⟨fun _ => ⟨z_y197, 1, by decide +kernel, ⟨rfl, z_inT 1049 (by decide +kernel) rfl, z_inT 1050 (by decide +kernel) rfl⟩⟩, fun h => absurd h (by decide)⟩
theorem z_m_12_232 : z_qM "BellThatIsADoorModel" (232, [1, 205, 2, 0, 0, 12]) := z_eM (by decide) ⟨fun _ => ⟨z_y205, 2, by decide +kernel, ⟨rfl, z_inT 1352 (by decide +kernel) rfl, z_inT 1353 (by decide +kernel) rfl⟩⟩, fun h => absurd h (by decide)⟩
theorem z_rowM_12 : ∀ row, z_mT[12]? = some row → ∀ q ∈ row, z_qM (z_own 12) q := by
  intro row h
  cases h
  exact List.forall_mem_cons.mpr ⟨z_m_12_1, List.forall_mem_cons.mpr ⟨z_m_12_52, List.forall_mem_cons.mpr ⟨z_m_12_56, List.forall_mem_cons.mpr ⟨z_m_12_60, List.forall_mem_cons.mpr ⟨z_m_12_63, List.forall_mem_cons.mpr ⟨z_m_12_66, List.forall_mem_cons.mpr ⟨z_m_12_69, List.forall_mem_cons.mpr ⟨z_m_12_73, List.forall_mem_cons.mpr ⟨z_m_12_76, List.forall_mem_cons.mpr ⟨z_m_12_79, List.forall_mem_cons.mpr ⟨z_m_12_83, List.forall_mem_cons.mpr ⟨z_m_12_97, List.forall_mem_cons.mpr ⟨z_m_12_101, List.forall_mem_cons.mpr ⟨z_m_12_105, List.forall_mem_cons.mpr ⟨z_m_12_109, List.forall_mem_cons.mpr ⟨z_m_12_113, List.forall_mem_cons.mpr ⟨z_m_12_117, List.forall_mem_cons.mpr ⟨z_m_12_120, List.forall_mem_cons.mpr ⟨z_m_12_123, List.forall_mem_cons.mpr ⟨z_m_12_126, List.forall_mem_cons.mpr ⟨z_m_12_130, List.forall_mem_cons.mpr ⟨z_m_12_133, List.forall_mem_cons.mpr ⟨z_m_12_137, List.forall_mem_cons.mpr ⟨z_m_12_141, List.forall_mem_cons.mpr ⟨z_m_12_144, List.forall_mem_cons.mpr ⟨z_m_12_148, List.forall_mem_cons.mpr ⟨z_m_12_151, List.forall_mem_cons.mpr ⟨z_m_12_154, List.forall_mem_cons.mpr ⟨z_m_12_161, List.forall_mem_cons.mpr ⟨z_m_12_164, List.forall_mem_cons.mpr ⟨z_m_12_167, List.forall_mem_cons.mpr ⟨z_m_12_170, List.forall_mem_cons.mpr ⟨z_m_12_174, List.forall_mem_cons.mpr ⟨z_m_12_177, List.forall_mem_cons.mpr ⟨z_m_12_181, List.forall_mem_cons.mpr ⟨z_m_12_184, List.forall_mem_cons.mpr ⟨z_m_12_187, List.forall_mem_cons.mpr ⟨z_m_12_190, List.forall_mem_cons.mpr ⟨z_m_12_194, List.forall_mem_cons.mpr ⟨z_m_12_197, List.forall_mem_cons.mpr ⟨z_m_12_200, List.forall_mem_cons.mpr ⟨z_m_12_206, List.forall_mem_cons.mpr ⟨z_m_12_210, List.forall_mem_cons.mpr ⟨z_m_12_219, List.forall_mem_cons.mpr ⟨z_m_12_229, List.forall_mem_cons.mpr ⟨z_m_12_232, fun _ h => absurd h List.not_mem_nil⟩⟩⟩⟩⟩⟩⟩⟩⟩⟩⟩⟩⟩⟩⟩⟩⟩⟩⟩⟩⟩⟩⟩⟩⟩⟩⟩⟩⟩⟩⟩⟩⟩⟩⟩⟩⟩⟩⟩⟩⟩⟩⟩⟩⟩⟩
theorem z_rowM_13 : ∀ row, z_mT[13]? = some row → ∀ q ∈ row, z_qM (z_own 13) q := by
  intro row h
  cases h
  exact fun _ h => absurd h List.not_mem_nil
theorem z_m_14_17 : z_qM "BellThatIsADoorLaw" (17, [2, 51, 1, 0, 0, 11]) := z_eM (by decide) ⟨fun _ => ⟨z_y51, 0, by decide +kernel, ⟨rfl, z_inT 68 (by decide +kernel) rfl, z_inT 69 (by decide +kernel) rfl, by decide +kernel, by decide +kernel⟩⟩, fun h => absurd h (by decide)⟩
theorem z_m_14_20 : z_qM "BellThatIsADoorLaw" (20, [2, 123, 1, 0, 0, 12]) := z_eM (by decide) ⟨fun _ => ⟨z_y123, 0, by decide +kernel, ⟨rfl, z_inT 973 (by decide +kernel) rfl, z_inT 974 (by decide +kernel) rfl, by decide +kernel, by decide +kernel⟩⟩, fun h => absurd h (by decide)⟩
theorem z_m_14_21 : z_qM "BellThatIsADoorLaw" (21, [0, 52, 2, 0, 0, 11]) := z_eM (by decide) ⟨fun _ => ⟨z_y52, 1, by decide +kernel, ⟨rfl, z_inT 363 (by decide +kernel) rfl, z_inT 364 (by decide +kernel) rfl, z_inT 365 (by decide +kernel) rfl, z_F11, 11, rfl⟩⟩, fun h => absurd h (by decide)⟩
theorem z_m_14_25 : z_qM "BellThatIsADoorLaw" (25, [0, 148, 2, 0, 0, 12]) := z_eM (by decide) ⟨fun _ => ⟨z_y148, 1, by decide +kernel, ⟨rfl, z_inT 1041 (by decide +kernel) rfl, z_inT 1042 (by decide +kernel) rfl, z_inT 1043 (by decide +kernel) rfl, z_F12, 21, rfl⟩⟩, fun h => absurd h (by decide)⟩
theorem z_m_14_26 : z_qM "BellThatIsADoorLaw" (26, [0, 53, 3, 0, 0, 11]) := z_eM (by decide) ⟨fun _ => ⟨z_y53, 2, by decide +kernel, ⟨rfl, z_inT 457 (by decide +kernel) rfl, z_inT 458 (by decide +kernel) rfl, z_inT 459 (by decide +kernel) rfl, z_F11, 11, rfl⟩⟩, fun h => absurd h (by decide)⟩
theorem z_m_14_30 : z_qM "BellThatIsADoorLaw" (30, [0, 149, 3, 0, 0, 12]) := z_eM (by decide) ⟨fun _ => ⟨z_y149, 2, by decide +kernel, ⟨rfl, z_inT 1126 (by decide +kernel) rfl, z_inT 1127 (by decide +kernel) rfl, z_inT 1128 (by decide +kernel) rfl, z_F12, 21, rfl⟩⟩, fun h => absurd h (by decide)⟩
theorem z_m_14_31 : z_qM "BellThatIsADoorLaw" (31, [0, 54, 3, 0, 0, 11]) := z_eM (by decide) ⟨fun _ => ⟨z_y54, 2, by decide +kernel, ⟨rfl, z_inT 465 (by decide +kernel) rfl, z_inT 466 (by decide +kernel) rfl, z_inT 467 (by decide +kernel) rfl, z_F11, 11, rfl⟩⟩, fun h => absurd h (by decide)⟩
theorem z_m_14_34 : z_qM "BellThatIsADoorLaw" (34, [0, 150, 3, 0, 0, 12]) := z_eM (by decide) ⟨fun _ => ⟨z_y150, 2, by decide +kernel, ⟨rfl, z_inT 1130 (by decide +kernel) rfl, z_inT 1131 (by decide +kernel) rfl, z_inT 1132 (by decide +kernel) rfl, z_F12, 21, rfl⟩⟩, fun h => absurd h (by decide)⟩
theorem z_m_14_35 : z_qM "BellThatIsADoorLaw" (35, [0, 55, 2, 0, 0, 11]) := z_eM (by decide) ⟨fun _ => ⟨z_y55, 1, by decide +kernel, ⟨rfl, z_inT 477 (by decide +kernel) rfl, z_inT 478 (by decide +kernel) rfl, z_inT 479 (by decide +kernel) rfl, z_F11, 11, rfl⟩⟩, fun h => absurd h (by decide)⟩
theorem z_m_14_38 : z_qM "BellThatIsADoorLaw" (38, [0, 151, 2, 0, 0, 12]) := z_eM (by decide) ⟨fun _ => ⟨z_y151, 1, by decide +kernel, ⟨rfl, z_inT 1138 (by decide +kernel) rfl, z_inT 1139 (by decide +kernel) rfl, z_inT 1140 (by decide +kernel) rfl, z_F12, 21, rfl⟩⟩, fun h => absurd h (by decide)⟩
theorem z_m_14_39 : z_qM "BellThatIsADoorLaw" (39, [0, 56, 2, 0, 0, 11]) := z_eM (by decide) ⟨fun _ => ⟨z_y56, 1, by decide +kernel, ⟨rfl, z_inT 481 (by decide +kernel) rfl, z_inT 482 (by decide +kernel) rfl, z_inT 483 (by decide +kernel) rfl, z_F11, 11, rfl⟩⟩, fun h => absurd h (by decide)⟩
theorem z_m_14_42 : z_qM "BellThatIsADoorLaw" (42, [0, 152, 2, 0, 0, 12]) := z_eM (by decide) ⟨fun _ => ⟨z_y152, 1, by decide +kernel, ⟨rfl, z_inT 1142 (by decide +kernel) rfl, z_inT 1143 (by decide +kernel) rfl, z_inT 1144 (by decide +kernel) rfl, z_F12, 21, rfl⟩⟩, fun h => absurd h (by decide)⟩
theorem z_m_14_43 : z_qM "BellThatIsADoorLaw" (43, [0, 57, 3, 0, 0, 11]) := z_eM (by decide) ⟨fun _ => ⟨z_y57, 2, by decide +kernel, ⟨rfl, z_inT 485 (by decide +kernel) rfl, z_inT 486 (by decide +kernel) rfl, z_inT 487 (by decide +kernel) rfl, z_F11, 11, rfl⟩⟩, fun h => absurd h (by decide)⟩
theorem z_m_14_46 : z_qM "BellThatIsADoorLaw" (46, [0, 153, 3, 0, 0, 12]) := z_eM (by decide) ⟨fun _ => ⟨z_y153, 2, by decide +kernel, ⟨rfl, z_inT 1146 (by decide +kernel) rfl, z_inT 1147 (by decide +kernel) rfl, z_inT 1148 (by decide +kernel) rfl, z_F12, 21, rfl⟩⟩, fun h => absurd h (by decide)⟩
theorem z_m_14_47 : z_qM "BellThatIsADoorLaw" (47, [0, 58, 2, 0, 0, 11]) := z_eM (by decide) ⟨fun _ => ⟨z_y58, 1, by decide +kernel, ⟨rfl, z_inT 489 (by decide +kernel) rfl, z_inT 490 (by decide +kernel) rfl, z_inT 491 (by decide +kernel) rfl, z_F11, 11, rfl⟩⟩, fun h => absurd h (by decide)⟩
theorem z_m_14_50 : z_qM "BellThatIsADoorLaw" (50, [0, 155, 2, 0, 0, 12]) := z_eM (by decide) ⟨fun _ => ⟨z_y155, 1, by decide +kernel, ⟨rfl, z_inT 1150 (by decide +kernel) rfl, z_inT 1151 (by decide +kernel) rfl, z_inT 1152 (by decide +kernel) rfl, z_F12, 21, rfl⟩⟩, fun h => absurd h (by decide)⟩
theorem z_m_14_51 : z_qM "BellThatIsADoorLaw" (51, [0, 59, 2, 0, 0, 11]) := z_eM (by decide) ⟨fun _ => ⟨z_y59, 1, by decide +kernel, ⟨rfl, z_inT 500 (by decide +kernel) rfl, z_inT 501 (by decide +kernel) rfl, z_inT 502 (by decide +kernel) rfl, z_F11, 11, rfl⟩⟩, fun h => absurd h (by decide)⟩
theorem z_m_14_54 : z_qM "BellThatIsADoorLaw" (54, [0, 157, 2, 0, 0, 12]) := z_eM (by decide) ⟨fun _ => ⟨z_y157, 1, by decide +kernel, ⟨rfl, z_inT 1158 (by decide +kernel) rfl, z_inT 1159 (by decide +kernel) rfl, z_inT 1160 (by decide +kernel) rfl, z_F12, 21, rfl⟩⟩, fun h => absurd h (by decide)⟩
theorem z_m_14_55 : z_qM "BellThatIsADoorLaw" (55, [0, 60, 4, 0, 0, 11]) := z_eM (by decide) ⟨fun _ => ⟨z_y60, 3, by decide +kernel, ⟨rfl, z_inT 508 (by decide +kernel) rfl, z_inT 509 (by decide +kernel) rfl, z_inT 510 (by decide +kernel) rfl, z_F11, 11, rfl⟩⟩, fun h => absurd h (by decide)⟩
theorem z_m_14_59 : z_qM "BellThatIsADoorLaw" (59, [0, 158, 4, 0, 0, 12]) := z_eM (by decide) ⟨fun _ => ⟨z_y158, 3, by decide +kernel, ⟨rfl, z_inT 1166 (by decide +kernel) rfl, z_inT 1167 (by decide +kernel) rfl, z_inT 1168 (by decide +kernel) rfl, z_F12, 21, rfl⟩⟩, fun h => absurd h (by decide)⟩
theorem z_m_14_60 : z_qM "BellThatIsADoorLaw" (60, [0, 61, 2, 0, 0, 11]) := z_eM (by decide) ⟨fun _ => ⟨z_y61, 1, by decide +kernel, ⟨rfl, z_inT 523 (by decide +kernel) rfl, z_inT 524 (by decide +kernel) rfl, z_inT 525 (by decide +kernel) rfl, z_F11, 11, rfl⟩⟩, fun h => absurd h (by decide)⟩
theorem z_m_14_63 : z_qM "BellThatIsADoorLaw" (63, [0, 160, 2, 0, 0, 12]) := z_eM (by decide) ⟨fun _ => ⟨z_y160, 1, by decide +kernel, ⟨rfl, z_inT 1170 (by decide +kernel) rfl, z_inT 1171 (by decide +kernel) rfl, z_inT 1172 (by decide +kernel) rfl, z_F12, 21, rfl⟩⟩, fun h => absurd h (by decide)⟩
theorem z_m_14_64 : z_qM "BellThatIsADoorLaw" (64, [0, 62, 3, 0, 0, 11]) := z_eM (by decide) ⟨fun _ => ⟨z_y62, 2, by decide +kernel, ⟨rfl, z_inT 544 (by decide +kernel) rfl, z_inT 545 (by decide +kernel) rfl, z_inT 546 (by decide +kernel) rfl, z_F11, 11, rfl⟩⟩, fun h => absurd h (by decide)⟩
theorem z_m_14_67 : z_qM "BellThatIsADoorLaw" (67, [0, 161, 3, 0, 0, 12]) := z_eM (by decide) ⟨fun _ => ⟨z_y161, 2, by decide +kernel, ⟨rfl, z_inT 1178 (by decide +kernel) rfl, z_inT 1179 (by decide +kernel) rfl, z_inT 1180 (by decide +kernel) rfl, z_F12, 21, rfl⟩⟩, fun h => absurd h (by decide)⟩
theorem z_m_14_68 : z_qM "BellThatIsADoorLaw" (68, [0, 63, 1, 0, 0, 11]) := z_eM (by decide) ⟨fun _ => ⟨z_y63, 0, by decide +kernel, ⟨rfl, z_inT 549 (by decide +kernel) rfl, z_inT 550 (by decide +kernel) rfl, z_inT 551 (by decide +kernel) rfl, z_F11, 11, rfl⟩⟩, fun h => absurd h (by decide)⟩
theorem z_m_14_72 : z_qM "BellThatIsADoorLaw" (72, [0, 162, 1, 0, 0, 12]) := z_eM (by decide) ⟨fun _ => ⟨z_y162, 0, by decide +kernel, ⟨rfl, z_inT 1182 (by decide +kernel) rfl, z_inT 1183 (by decide +kernel) rfl, z_inT 1184 (by decide +kernel) rfl, z_F12, 21, rfl⟩⟩, fun h => absurd h (by decide)⟩
theorem z_m_14_73 : z_qM "BellThatIsADoorLaw" (73, [0, 64, 1, 0, 0, 11]) := z_eM (by decide) ⟨fun _ => ⟨z_y64, 0, by decide +kernel, ⟨rfl, z_inT 553 (by decide +kernel) rfl, z_inT 554 (by decide +kernel) rfl, z_inT 555 (by decide +kernel) rfl, z_F11, 11, rfl⟩⟩, fun h => absurd h (by decide)⟩
theorem z_m_14_76 : z_qM "BellThatIsADoorLaw" (76, [0, 163, 1, 0, 0, 12]) := z_eM (by decide) ⟨fun _ => ⟨z_y163, 0, by decide +kernel, ⟨rfl, z_inT 1186 (by decide +kernel) rfl, z_inT 1187 (by decide +kernel) rfl, z_inT 1188 (by decide +kernel) rfl, z_F12, 21, rfl⟩⟩, fun h => absurd h (by decide)⟩
theorem z_m_14_77 : z_qM "BellThatIsADoorLaw" (77, [0, 65, 4, 0, 0, 11]) := z_eM (by decide) ⟨fun _ => ⟨z_y65, 3, by decide +kernel, ⟨rfl, z_inT 557 (by decide +kernel) rfl, z_inT 558 (by decide +kernel) rfl, z_inT 559 (by decide +kernel) rfl, z_F11, 11, rfl⟩⟩, fun h => absurd h (by decide)⟩
theorem z_m_14_80 : z_qM "BellThatIsADoorLaw" (80, [0, 167, 4, 0, 0, 12]) := z_eM (by decide) ⟨fun _ => ⟨z_y167, 3, by decide +kernel, ⟨rfl, z_inT 1191 (by decide +kernel) rfl, z_inT 1192 (by decide +kernel) rfl, z_inT 1193 (by decide +kernel) rfl, z_F12, 21, rfl⟩⟩, fun h => absurd h (by decide)⟩
theorem z_m_14_81 : z_qM "BellThatIsADoorLaw" (81, [0, 66, 1, 0, 0, 11]) := z_eM (by decide) ⟨fun _ => ⟨z_y66, 0, by decide +kernel, ⟨rfl, z_inT 603 (by decide +kernel) rfl, z_inT 604 (by decide +kernel) rfl, z_inT 605 (by decide +kernel) rfl, z_F11, 11, rfl⟩⟩, fun h => absurd h (by decide)⟩
theorem z_m_14_84 : z_qM "BellThatIsADoorLaw" (84, [0, 169, 1, 0, 0, 12]) := z_eM (by decide) ⟨fun _ => ⟨z_y169, 0, by decide +kernel, ⟨rfl, z_inT 1212 (by decide +kernel) rfl, z_inT 1213 (by decide +kernel) rfl, z_inT 1214 (by decide +kernel) rfl, z_F12, 21, rfl⟩⟩, fun h => absurd h (by decide)⟩
theorem z_m_14_85 : z_qM "BellThatIsADoorLaw" (85, [0, 67, 2, 0, 0, 11]) := z_eM (by decide) ⟨fun _ => ⟨z_y67, 1, by decide +kernel, ⟨rfl, z_inT 610 (by decide +kernel) rfl, z_inT 611 (by decide +kernel) rfl, z_inT 612 (by decide +kernel) rfl, z_F11, 11, rfl⟩⟩, fun h => absurd h (by decide)⟩
theorem z_m_14_88 : z_qM "BellThatIsADoorLaw" (88, [0, 170, 2, 0, 0, 12]) := z_eM (by decide) ⟨fun _ => ⟨z_y170, 1, by decide +kernel, ⟨rfl, z_inT 1220 (by decide +kernel) rfl, z_inT 1221 (by decide +kernel) rfl, z_inT 1222 (by decide +kernel) rfl, z_F12, 21, rfl⟩⟩, fun h => absurd h (by decide)⟩
theorem z_m_14_89 : z_qM "BellThatIsADoorLaw" (89, [0, 68, 1, 0, 0, 11]) := z_eM (by decide) ⟨fun _ => ⟨z_y68, 0, by decide +kernel, ⟨rfl, z_inT 620 (by decide +kernel) rfl, z_inT 621 (by decide +kernel) rfl, z_inT 622 (by decide +kernel) rfl, z_F11, 11, rfl⟩⟩, fun h => absurd h (by decide)⟩
theorem z_m_14_92 : z_qM "BellThatIsADoorLaw" (92, [0, 171, 1, 0, 0, 12]) := z_eM (by decide) ⟨fun _ => ⟨z_y171, 0, by decide +kernel, ⟨rfl, z_inT 1224 (by decide +kernel) rfl, z_inT 1225 (by decide +kernel) rfl, z_inT 1226 (by decide +kernel) rfl, z_F12, 21, rfl⟩⟩, fun h => absurd h (by decide)⟩
theorem z_m_14_93 : z_qM "BellThatIsADoorLaw" (93, [0, 69, 4, 0, 0, 11]) := z_eM (by decide) ⟨fun _ => ⟨z_y69, 3, by decide +kernel, ⟨rfl, z_inT 624 (by decide +kernel) rfl, z_inT 625 (by decide +kernel) rfl, z_inT 626 (by decide +kernel) rfl, z_F11, 11, rfl⟩⟩, fun h => absurd h (by decide)⟩
theorem z_m_14_96 : z_qM "BellThatIsADoorLaw" (96, [0, 176, 4, 0, 0, 12]) := z_eM (by decide) ⟨fun _ => ⟨z_y176, 3, by decide +kernel, ⟨rfl, z_inT 1228 (by decide +kernel) rfl, z_inT 1229 (by decide +kernel) rfl, z_inT 1230 (by decide +kernel) rfl, z_F12, 21, rfl⟩⟩, fun h => absurd h (by decide)⟩
theorem z_m_14_97 : z_qM "BellThatIsADoorLaw" (97, [0, 70, 4, 0, 0, 11]) := z_eM (by decide) ⟨fun _ => ⟨z_y70, 3, by decide +kernel, ⟨rfl, z_inT 667 (by decide +kernel) rfl, z_inT 668 (by decide +kernel) rfl, z_inT 669 (by decide +kernel) rfl, z_F11, 11, rfl⟩⟩, fun h => absurd h (by decide)⟩
theorem z_m_14_100 : z_qM "BellThatIsADoorLaw" (100, [0, 179, 4, 0, 0, 12]) := z_eM (by decide) ⟨fun _ => ⟨z_y179, 3, by decide +kernel, ⟨rfl, z_inT 1248 (by decide +kernel) rfl, z_inT 1249 (by decide +kernel) rfl, z_inT 1250 (by decide +kernel) rfl, z_F12, 21, rfl⟩⟩, fun h => absurd h (by decide)⟩
theorem z_m_14_101 : z_qM "BellThatIsADoorLaw" (101, [0, 71, 2, 0, 0, 11]) := z_eM (by decide) ⟨fun _ => ⟨z_y71, 1, by decide +kernel, ⟨rfl, z_inT 679 (by decide +kernel) rfl, z_inT 680 (by decide +kernel) rfl, z_inT 681 (by decide +kernel) rfl, z_F11, 11, rfl⟩⟩, fun h => absurd h (by decide)⟩
theorem z_m_14_104 : z_qM "BellThatIsADoorLaw" (104, [0, 180, 2, 0, 0, 12]) := z_eM (by decide) ⟨fun _ => ⟨z_y180, 1, by decide +kernel, ⟨rfl, z_inT 1258 (by decide +kernel) rfl, z_inT 1259 (by decide +kernel) rfl, z_inT 1260 (by decide +kernel) rfl, z_F12, 21, rfl⟩⟩, fun h => absurd h (by decide)⟩
theorem z_m_14_105 : z_qM "BellThatIsADoorLaw" (105, [0, 72, 4, 0, 0, 11]) := z_eM (by decide) ⟨fun _ => ⟨z_y72, 3, by decide +kernel, ⟨rfl, z_inT 687 (by decide +kernel) rfl, z_inT 688 (by decide +kernel) rfl, z_inT 689 (by decide +kernel) rfl, z_F11, 11, rfl⟩⟩, fun h => absurd h (by decide)⟩
theorem z_m_14_108 : z_qM "BellThatIsADoorLaw" (108, [0, 181, 4, 0, 0, 12]) := z_eM (by decide) ⟨fun _ => ⟨z_y181, 3, by decide +kernel, ⟨rfl, z_inT 1262 (by decide +kernel) rfl, z_inT 1263 (by decide +kernel) rfl, z_inT 1264 (by decide +kernel) rfl, z_F12, 21, rfl⟩⟩, fun h => absurd h (by decide)⟩
theorem z_m_14_109 : z_qM "BellThatIsADoorLaw" (109, [0, 73, 5, 0, 0, 11]) := z_eM (by decide) ⟨fun _ => ⟨z_y73, 4, by decide +kernel, ⟨rfl, z_inT 691 (by decide +kernel) rfl, z_inT 692 (by decide +kernel) rfl, z_inT 693 (by decide +kernel) rfl, z_F11, 11, rfl⟩⟩, fun h => absurd h (by decide)⟩
theorem z_m_14_113 : z_qM "BellThatIsADoorLaw" (113, [0, 184, 5, 0, 0, 12]) := z_eM (by decide) ⟨fun _ => ⟨z_y184, 4, by decide +kernel, ⟨rfl, z_inT 1266 (by decide +kernel) rfl, z_inT 1267 (by decide +kernel) rfl, z_inT 1268 (by decide +kernel) rfl, z_F12, 21, rfl⟩⟩, fun h => absurd h (by decide)⟩
theorem z_m_14_114 : z_qM "BellThatIsADoorLaw" (114, [0, 74, 2, 0, 0, 11]) := z_eM (by decide) ⟨fun _ => ⟨z_y74, 1, by decide +kernel, ⟨rfl, z_inT 715 (by decide +kernel) rfl, z_inT 716 (by decide +kernel) rfl, z_inT 717 (by decide +kernel) rfl, z_F11, 11, rfl⟩⟩, fun h => absurd h (by decide)⟩
theorem z_m_14_117 : z_qM "BellThatIsADoorLaw" (117, [0, 185, 2, 0, 0, 12]) := z_eM (by decide) ⟨fun _ => ⟨z_y185, 1, by decide +kernel, ⟨rfl, z_inT 1277 (by decide +kernel) rfl, z_inT 1278 (by decide +kernel) rfl, z_inT 1279 (by decide +kernel) rfl, z_F12, 21, rfl⟩⟩, fun h => absurd h (by decide)⟩
theorem z_m_14_118 : z_qM "BellThatIsADoorLaw" (118, [0, 75, 2, 0, 0, 11]) := z_eM (by decide) ⟨fun _ => ⟨z_y75, 1, by decide +kernel, ⟨rfl, z_inT 719 (by decide +kernel) rfl, z_inT 720 (by decide +kernel) rfl, z_inT 721 (by decide +kernel) rfl, z_F11, 11, rfl⟩⟩, fun h => absurd h (by decide)⟩
theorem z_m_14_122 : z_qM "BellThatIsADoorLaw" (122, [0, 187, 2, 0, 0, 12]) := z_eM (by decide) ⟨fun _ => ⟨z_y187, 1, by decide +kernel, ⟨rfl, z_inT 1281 (by decide +kernel) rfl, z_inT 1282 (by decide +kernel) rfl, z_inT 1283 (by decide +kernel) rfl, z_F12, 21, rfl⟩⟩, fun h => absurd h (by decide)⟩
theorem z_m_14_123 : z_qM "BellThatIsADoorLaw" (123, [0, 76, 3, 0, 0, 11]) := z_eM (by decide) ⟨fun _ => ⟨z_y76, 2, by decide +kernel, ⟨rfl, z_inT 731 (by decide +kernel) rfl, z_inT 732 (by decide +kernel) rfl, z_inT 733 (by decide +kernel) rfl, z_F11, 11, rfl⟩⟩, fun h => absurd h (by decide)⟩
theorem z_m_14_126 : z_qM "BellThatIsADoorLaw" (126, [0, 188, 3, 0, 0, 12]) := z_eM (by decide) ⟨fun _ => ⟨z_y188, 2, by decide +kernel, ⟨rfl, z_inT 1289 (by decide +kernel) rfl, z_inT 1290 (by decide +kernel) rfl, z_inT 1291 (by decide +kernel) rfl, z_F12, 21, rfl⟩⟩, fun h => absurd h (by decide)⟩
theorem z_m_14_127 : z_qM "BellThatIsADoorLaw" (127, [0, 77, 2, 0, 0, 11]) := z_eM (by decide) ⟨fun _ => ⟨z_y77, 1, by decide +kernel, ⟨rfl, z_inT 736 (by decide +kernel) rfl, z_inT 737 (by decide +kernel) rfl, z_inT 738 (by decide +kernel) rfl, z_F11, 11, rfl⟩⟩, fun h => absurd h (by decide)⟩
theorem z_m_14_130 : z_qM "BellThatIsADoorLaw" (130, [0, 189, 2, 0, 0, 12]) := z_eM (by decide) ⟨fun _ => ⟨z_y189, 1, by decide +kernel, ⟨rfl, z_inT 1293 (by decide +kernel) rfl, z_inT 1294 (by decide +kernel) rfl, z_inT 1295 (by decide +kernel) rfl, z_F12, 21, rfl⟩⟩, fun h => absurd h (by decide)⟩
theorem z_m_14_131 : z_qM "BellThatIsADoorLaw" (131, [0, 78, 2, 0, 0, 11]) := z_eM (by decide) ⟨fun _ => ⟨z_y78, 1, by decide +kernel, ⟨rfl, z_inT 740 (by decide +kernel) rfl, z_inT 741 (by decide +kernel) rfl, z_inT 742 (by decide +kernel) rfl, z_F11, 11, rfl⟩⟩, fun h => absurd h (by decide)⟩
theorem z_m_14_134 : z_qM "BellThatIsADoorLaw" (134, [0, 190, 2, 0, 0, 12]) := z_eM (by decide) ⟨fun _ => ⟨z_y190, 1, by decide +kernel, ⟨rfl, z_inT 1297 (by decide +kernel) rfl, z_inT 1298 (by decide +kernel) rfl, z_inT 1299 (by decide +kernel) rfl, z_F12, 21, rfl⟩⟩, fun h => absurd h (by decide)⟩
theorem z_m_14_135 : z_qM "BellThatIsADoorLaw" (135, [0, 79, 4, 0, 0, 11]) := z_eM (by decide) ⟨fun _ => ⟨z_y79, 3, by decide +kernel, ⟨rfl, z_inT 744 (by decide +kernel) rfl, z_inT 745 (by decide +kernel) rfl, z_inT 746 (by decide +kernel) rfl, z_F11, 11, rfl⟩⟩, fun h => absurd h (by decide)⟩
theorem z_m_14_138 : z_qM "BellThatIsADoorLaw" (138, [0, 192, 4, 0, 0, 12]) := z_eM (by decide) ⟨fun _ => ⟨z_y192, 3, by decide +kernel, ⟨rfl, z_inT 1301 (by decide +kernel) rfl, z_inT 1302 (by decide +kernel) rfl, z_inT 1303 (by decide +kernel) rfl, z_F12, 21, rfl⟩⟩, fun h => absurd h (by decide)⟩
theorem z_m_14_139 : z_qM "BellThatIsADoorLaw" (139, [0, 80, 1, 0, 0, 11]) := z_eM (by decide) ⟨fun _ => ⟨z_y80, 0, by decide +kernel, ⟨rfl, z_inT 757 (by decide +kernel) rfl, z_inT 758 (by decide +kernel) rfl, z_inT 759 (by decide +kernel) rfl, z_F11, 11, rfl⟩⟩, fun h => absurd h (by decide)⟩
theorem z_m_14_142 : z_qM "BellThatIsADoorLaw" (142, [0, 193, 1, 0, 0, 12]) := z_eM (by decide) ⟨fun _ => ⟨z_y193, 0, by decide +kernel, ⟨rfl, z_inT 1312 (by decide +kernel) rfl, z_inT 1313 (by decide +kernel) rfl, z_inT 1314 (by decide +kernel) rfl, z_F12, 21, rfl⟩⟩, fun h => absurd h (by decide)⟩
theorem z_m_14_143 : z_qM "BellThatIsADoorLaw" (143, [0, 81, 1, 0, 0, 11]) := z_eM (by decide) ⟨fun _ => ⟨z_y81, 0, by decide +kernel, ⟨rfl, z_inT 761 (by decide +kernel) rfl, z_inT 762 (by decide +kernel) rfl, z_inT 763 (by decide +kernel) rfl, z_F11, 11, rfl⟩⟩, fun h => absurd h (by decide)⟩
theorem z_m_14_146 : z_qM "BellThatIsADoorLaw" (146, [0, 194, 1, 0, 0, 12]) := z_eM (by decide) ⟨fun _ => ⟨z_y194, 0, by decide +kernel, ⟨rfl, z_inT 1316 (by decide +kernel) rfl, z_inT 1317 (by decide +kernel) rfl, z_inT 1318 (by decide +kernel) rfl, z_F12, 21, rfl⟩⟩, fun h => absurd h (by decide)⟩
theorem z_m_14_147 : z_qM "BellThatIsADoorLaw" (147, [0, 82, 2, 0, 0, 11]) := z_eM (by decide) ⟨fun _ => ⟨z_y82, 1, by decide +kernel, ⟨rfl, z_inT 765 (by decide +kernel) rfl, z_inT 766 (by decide +kernel) rfl, z_inT 767 (by decide +kernel) rfl, z_F11, 11, rfl⟩⟩, fun h => absurd h (by decide)⟩
theorem z_m_14_150 : z_qM "BellThatIsADoorLaw" (150, [0, 195, 2, 0, 0, 12]) := z_eM (by decide) ⟨fun _ => ⟨z_y195, 1, by decide +kernel, ⟨rfl, z_inT 1320 (by decide +kernel) rfl, z_inT 1321 (by decide +kernel) rfl, z_inT 1322 (by decide +kernel) rfl, z_F12, 21, rfl⟩⟩, fun h => absurd h (by decide)⟩
theorem z_m_14_151 : z_qM "BellThatIsADoorLaw" (151, [0, 83, 5, 0, 0, 11]) := z_eM (by decide) ⟨fun _ => ⟨z_y83, 4, by decide +kernel, ⟨rfl, z_inT 777 (by decide +kernel) rfl, z_inT 778 (by decide +kernel) rfl, z_inT 779 (by decide +kernel) rfl, z_F11, 11, rfl⟩⟩, fun h => absurd h (by decide)⟩
theorem z_m_14_155 : z_qM "BellThatIsADoorLaw" (155, [0, 200, 5, 0, 0, 12]) := z_eM (by decide) ⟨fun _ => ⟨z_y200, 4, by decide +kernel, ⟨rfl, z_inT 1328 (by decide +kernel) rfl, z_inT 1329 (by decide +kernel) rfl, z_inT 1330 (by decide +kernel) rfl, z_F12, 21, rfl⟩⟩, fun h => absurd h (by decide)⟩
theorem z_m_14_156 : z_qM "BellThatIsADoorLaw" (156, [0, 84, 4, 0, 0, 11]) := z_eM (by decide) ⟨fun _ => ⟨z_y84, 3, by decide +kernel, ⟨rfl, z_inT 781 (by decide +kernel) rfl, z_inT 782 (by decide +kernel) rfl, z_inT 783 (by decide +kernel) rfl, z_F11, 11, rfl⟩⟩, fun h => absurd h (by decide)⟩
theorem z_m_14_159 : z_qM "BellThatIsADoorLaw" (159, [0, 201, 4, 0, 0, 12]) := z_eM (by decide) ⟨fun _ => ⟨z_y201, 3, by decide +kernel, ⟨rfl, z_inT 1332 (by decide +kernel) rfl, z_inT 1333 (by decide +kernel) rfl, z_inT 1334 (by decide +kernel) rfl, z_F12, 21, rfl⟩⟩, fun h => absurd h (by decide)⟩
theorem z_m_14_160 : z_qM "BellThatIsADoorLaw" (160, [0, 85, 4, 0, 0, 11]) := z_eM (by decide) ⟨fun _ => ⟨z_y85, 3, by decide +kernel, ⟨rfl, z_inT 800 (by decide +kernel) rfl, z_inT 801 (by decide +kernel) rfl, z_inT 802 (by decide +kernel) rfl, z_F11, 11, rfl⟩⟩, fun h => absurd h (by decide)⟩
theorem z_m_14_163 : z_qM "BellThatIsADoorLaw" (163, [0, 202, 4, 0, 0, 12]) := z_eM (by decide) ⟨fun _ => ⟨z_y202, 3, by decide +kernel, ⟨rfl, z_inT 1336 (by decide +kernel) rfl, z_inT 1337 (by decide +kernel) rfl, z_inT 1338 (by decide +kernel) rfl, z_F12, 21, rfl⟩⟩, fun h => absurd h (by decide)⟩
theorem z_m_14_164 : z_qM "BellThatIsADoorLaw" (164, [1, 1001, 4, 0, 0, 0]) := z_eM (by decide) ⟨fun h => absurd h (by decide), fun _ => rfl⟩
theorem z_m_14_169 : z_qM "BellThatIsADoorLaw" (169, [0, 203, 3, 0, 0, 12]) := z_eM (by decide) ⟨fun _ => ⟨z_y203, 2, by decide +kernel, ⟨rfl, z_inT 1340 (by decide +kernel) rfl, z_inT 1341 (by decide +kernel) rfl, z_inT 1342 (by decide +kernel) rfl, z_F12, 21, rfl⟩⟩, fun h => absurd h (by decide)⟩
theorem z_m_14_170 : z_qM "BellThatIsADoorLaw" (170, [0, 196, 1, 0, 0, 12]) := z_eM (by decide) ⟨fun _ => ⟨z_y196, 0, by decide +kernel, ⟨rfl, z_inT 1324 (by decide +kernel) rfl, z_inT 1325 (by decide +kernel) rfl, z_inT 1326 (by decide +kernel) rfl, z_F12, 21, rfl⟩⟩, fun h => absurd h (by decide)⟩
theorem z_m_14_173 : z_qM "BellThatIsADoorLaw" (173, [0, 86, 6, 0, 0, 11]) := z_eM (by decide) ⟨fun _ => ⟨z_y86, 5, by decide +kernel, ⟨rfl, z_inT 809 (by decide +kernel) rfl, z_inT 810 (by decide +kernel) rfl, z_inT 811 (by decide +kernel) rfl, z_F11, 11, rfl⟩⟩, fun h => absurd h (by decide)⟩
theorem z_m_14_177 : z_qM "BellThatIsADoorLaw" (177, [0, 204, 6, 0, 0, 12]) := z_eM (by decide) ⟨fun _ => ⟨z_y204, 5, by decide +kernel, ⟨rfl, z_inT 1344 (by decide +kernel) rfl, z_inT 1345 (by decide +kernel) rfl, z_inT 1346 (by decide +kernel) rfl, z_F12, 21, rfl⟩⟩, fun h => absurd h (by decide)⟩
theorem z_m_14_178 : z_qM "BellThatIsADoorLaw" (178, [0, 87, 2, 0, 0, 11]) := z_eM (by decide) ⟨fun _ => ⟨z_y87, 1, by decide +kernel, ⟨rfl, z_inT 824 (by decide +kernel) rfl, z_inT 825 (by decide +kernel) rfl, z_inT 826 (by decide +kernel) rfl, z_F11, 11, rfl⟩⟩, fun h => absurd h (by decide)⟩
theorem z_m_14_181 : z_qM "BellThatIsADoorLaw" (181, [0, 206, 2, 0, 0, 12]) := z_eM (by decide) ⟨fun _ => ⟨z_y206, 1, by decide +kernel, ⟨rfl, z_inT 1348 (by decide +kernel) rfl, z_inT 1349 (by decide +kernel) rfl, z_inT 1350 (by decide +kernel) rfl, z_F12, 21, rfl⟩⟩, fun h => absurd h (by decide)⟩
theorem z_m_14_182 : z_qM "BellThatIsADoorLaw" (182, [0, 88, 2, 0, 0, 11]) := z_eM (by decide) ⟨fun _ => ⟨z_y88, 1, by decide +kernel, ⟨rfl, z_inT 828 (by decide +kernel) rfl, z_inT 829 (by decide +kernel) rfl, z_inT 830 (by decide +kernel) rfl, z_F11, 11, rfl⟩⟩, fun h => absurd h (by decide)⟩
theorem z_m_14_185 : z_qM "BellThatIsADoorLaw" (185, [0, 207, 2, 0, 0, 12]) := z_eM (by decide) ⟨fun _ => ⟨z_y207, 1, by decide +kernel, ⟨rfl, z_inT 1355 (by decide +kernel) rfl, z_inT 1356 (by decide +kernel) rfl, z_inT 1357 (by decide +kernel) rfl, z_F12, 21, rfl⟩⟩, fun h => absurd h (by decide)⟩
theorem z_rowM_14 : ∀ row, z_mT[14]? = some row → ∀ q ∈ row, z_qM (z_own 14) q := by
  intro row h
  cases h
  exact List.forall_mem_cons.mpr ⟨z_m_14_17, List.forall_mem_cons.mpr ⟨z_m_14_20, List.forall_mem_cons.mpr ⟨z_m_14_21, List.forall_mem_cons.mpr ⟨z_m_14_25, List.forall_mem_cons.mpr ⟨z_m_14_26, List.forall_mem_cons.mpr ⟨z_m_14_30, List.forall_mem_cons.mpr ⟨z_m_14_31, List.forall_mem_cons.mpr ⟨z_m_14_34, List.forall_mem_cons.mpr ⟨z_m_14_35, List.forall_mem_cons.mpr ⟨z_m_14_38, List.forall_mem_cons.mpr ⟨z_m_14_39, List.forall_mem_cons.mpr ⟨z_m_14_42, List.forall_mem_cons.mpr ⟨z_m_14_43, List.forall_mem_cons.mpr ⟨z_m_14_46, List.forall_mem_cons.mpr ⟨z_m_14_47, List.forall_mem_cons.mpr ⟨z_m_14_50, List.forall_mem_cons.mpr ⟨z_m_14_51, List.forall_mem_cons.mpr ⟨z_m_14_54, List.forall_mem_cons.mpr ⟨z_m_14_55, List.forall_mem_cons.mpr ⟨z_m_14_59, List.forall_mem_cons.mpr ⟨z_m_14_60, List.forall_mem_cons.mpr ⟨z_m_14_63, List.forall_mem_cons.mpr ⟨z_m_14_64, List.forall_mem_cons.mpr ⟨z_m_14_67, List.forall_mem_cons.mpr ⟨z_m_14_68, List.forall_mem_cons.mpr ⟨z_m_14_72, List.forall_mem_cons.mpr ⟨z_m_14_73, List.forall_mem_cons.mpr ⟨z_m_14_76, List.forall_mem_cons.mpr ⟨z_m_14_77, List.forall_mem_cons.mpr ⟨z_m_14_80, List.forall_mem_cons.mpr ⟨z_m_14_81, List.forall_mem_cons.mpr ⟨z_m_14_84, List.forall_mem_cons.mpr ⟨z_m_14_85, List.forall_mem_cons.mpr ⟨z_m_14_88, List.forall_mem_cons.mpr ⟨z_m_14_89, List.forall_mem_cons.mpr ⟨z_m_14_92, List.forall_mem_cons.mpr ⟨z_m_14_93, List.forall_mem_cons.mpr ⟨z_m_14_96, List.forall_mem_cons.mpr ⟨z_m_14_97, List.forall_mem_cons.mpr ⟨z_m_14_100, List.forall_mem_cons.mpr ⟨z_m_14_101, List.forall_mem_cons.mpr ⟨z_m_14_104, List.forall_mem_cons.mpr ⟨z_m_14_105, List.forall_mem_cons.mpr ⟨z_m_14_108, List.forall_mem_cons.mpr ⟨z_m_14_109, List.forall_mem_cons.mpr ⟨z_m_14_113, List.forall_mem_cons.mpr ⟨z_m_14_114, List.forall_mem_cons.mpr ⟨z_m_14_117, List.forall_mem_cons.mpr ⟨z_m_14_118, List.forall_mem_cons.mpr ⟨z_m_14_122, List.forall_mem_cons.mpr ⟨z_m_14_123, List.forall_mem_cons.mpr ⟨z_m_14_126, List.forall_mem_cons.mpr ⟨z_m_14_127, List.forall_mem_cons.mpr ⟨z_m_14_130, List.forall_mem_cons.mpr ⟨z_m_14_131, List.forall_mem_cons.mpr ⟨z_m_14_134, List.forall_mem_cons.mpr ⟨z_m_14_135, List.forall_mem_cons.mpr ⟨z_m_14_138, List.forall_mem_cons.mpr ⟨z_m_14_139, List.forall_mem_cons.mpr ⟨z_m_14_142, List.forall_mem_cons.mpr ⟨z_m_14_143, List.forall_mem_cons.mpr ⟨z_m_14_146, List.forall_mem_cons.mpr ⟨z_m_14_147, List.forall_mem_cons.mpr ⟨z_m_14_150, List.forall_mem_cons.mpr ⟨z_m_14_151, List.forall_mem_cons.mpr ⟨z_m_14_155, List.forall_mem_cons.mpr ⟨z_m_14_156, List.forall_mem_cons.mpr ⟨z_m_14_159, List.forall_mem_cons.mpr ⟨z_m_14_160, List.forall_mem_cons.mpr ⟨z_m_14_163, List.forall_mem_cons.mpr ⟨z_m_14_164, List.forall_mem_cons.mpr ⟨z_m_14_169, List.forall_mem_cons.mpr ⟨z_m_14_170, List.forall_mem_cons.mpr ⟨z_m_14_173, List.forall_mem_cons.mpr ⟨z_m_14_177, List.forall_mem_cons.mpr ⟨z_m_14_178, List.forall_mem_cons.mpr ⟨z_m_14_181, List.forall_mem_cons.mpr ⟨z_m_14_182, List.forall_mem_cons.mpr ⟨z_m_14_185, fun _ h => absurd h List.not_mem_nil⟩⟩⟩⟩⟩⟩⟩⟩⟩⟩⟩⟩⟩⟩⟩⟩⟩⟩⟩⟩⟩⟩⟩⟩⟩⟩⟩⟩⟩⟩⟩⟩⟩⟩⟩⟩⟩⟩⟩⟩⟩⟩⟩⟩⟩⟩⟩⟩⟩⟩⟩⟩⟩⟩⟩⟩⟩⟩⟩⟩⟩⟩⟩⟩⟩⟩⟩⟩⟩⟩⟩⟩⟩⟩⟩⟩⟩⟩⟩
theorem z_rowM : ∀ oc row, z_mT[oc]? = some row → ∀ q ∈ row, z_qM (z_own oc) q
  | 0 => z_rowM_0
  | 1 => z_rowM_1
  | 2 => z_rowM_2
  | 3 => z_rowM_3
  | 4 => z_rowM_4
  | 5 => z_rowM_5
  | 6 => z_rowM_6
  | 7 => z_rowM_7
  | 8 => z_rowM_8
  | 9 => z_rowM_9
  | 10 => z_rowM_10
  | 11 => z_rowM_11
  | 12 => z_rowM_12
  | 13 => z_rowM_13
  | 14 => z_rowM_14
  | _ + 15 => fun row h => by rw [List.getElem?_eq_none (by simp [z_mT])] at h; cases h
theorem z_okV (mid j : Nat) : z_OKV mid j := by
  refine ⟨?_, ?_, ?_, ?_, ?_⟩
  · intro t h
    obtain ⟨row, h1, h2, h3⟩ := z_lk_in (T := z_mT) (by decide) h
    have h4 := (z_rowM _ row h1 _ h2).1 _ rfl
    rw [← h3] at h4; exact h4
  · intro t h
    obtain ⟨row, h1, h2, h3⟩ := z_lk_in (T := z_mT) (by decide) h
    have h4 := (z_rowM _ row h1 _ h2).2.1 _ rfl
    rw [← h3] at h4; exact h4
  · intro t h
    obtain ⟨row, h1, h2, h3⟩ := z_lk_in (T := z_mT) (by decide) h
    have h4 := (z_rowM _ row h1 _ h2).2.2.1 _ rfl
    rw [← h3] at h4; exact h4
  · intro t h
    obtain ⟨row, h1, h2, h3⟩ := z_lk_in (T := z_mT) (by decide) h
    have h4 := (z_rowM _ row h1 _ h2).2.2.2.1 _ rfl
    rw [← h3] at h4; exact h4
  · intro t h
    obtain ⟨row, h1, h2, h3⟩ := z_lk_in (T := z_mT) (by decide) h
    have h4 := (z_rowM _ row h1 _ h2).2.2.2.2.1 _ rfl
    rw [← h3] at h4; exact h4
theorem z_okM (mid j : Nat) : z_OKM mid j := by
  intro kind y na self lv ci t h hp
  obtain ⟨row, h1, h2, h3⟩ := z_lk_in (T := z_mT) (by decide) h
  obtain ⟨⟨a1, a2, a3, a4, a5, a6⟩, np, b1, b2⟩ := ((z_rowM _ row h1 _ h2).2.2.2.2.2 _ _ _ _ _ _ _ rfl).1 hp
  rw [← h3] at b2
  exact ⟨a1, a2, a3, a4, a5, a6, np, b1, z_OKke_k b2⟩
theorem z_okP (mid j : Nat) : z_OKP mid j := by
  intro kind y na self lv ci t h hp
  obtain ⟨row, h1, h2, h3⟩ := z_lk_in (T := z_mT) (by decide) h
  exact ((z_rowM _ row h1 _ h2).2.2.2.2.2 _ _ _ _ _ _ _ rfl).2 hp
theorem z_okAll : z_OKall := ⟨z_okF, z_okC, z_okN, z_okI, z_okT, z_okJ, z_okV, z_okM, z_okP⟩
