theorem ws_nw {s : State} {a : Array Value} (hts : ∀ w ∈ lw_tbl, w.before a s = true) : z_Nw s := by
  intro w hw
  have h := hts w (List.mem_filter.mp hw).1
  have hk := (List.mem_filter.mp hw).2
  unfold z_nw at hk
  split at hk
  · exact va_tabs rfl rfl h
  · exact va_tabs rfl rfl h
  · exact va_tabs rfl rfl h
  · exact h
  · exact h
  · exact va_tabs rfl rfl h
  · cases hk
theorem ws_amb {s : State} {a : Array Value} (hts : ∀ w ∈ lw_tbl, w.before a s = true) (hgv : (Jvm.Cond.and given_1 narrow_1).before a s = true) : z_Amb s.heap.size s s.heap := by
  have hf := flat_of_before _ hgv
  have hA : ∀ q : Nat, q < s.heap.size → ¬ s.heap.size ≤ q := fun q hq => Nat.not_le.mpr hq
  exact ⟨vx_Zqof (hts _ (by decide +kernel)) (hts _ (by decide +kernel)) (hf _ (by decide +kernel)) hA, vx_Zqof (hts _ (by decide +kernel)) (hts _ (by decide +kernel)) (hf _ (by decide +kernel)) hA, va_Nc.of (hf _ (by decide +kernel)), va_Nc.of (hf _ (by decide +kernel)), va_Nc.of (hf _ (by decide +kernel)), va_Nc.of (hf _ (by decide +kernel))⟩
theorem ws_fl {l : Launch} (h : l.flags = flags0) : l.stackTraces = false := by
  unfold Launch.stackTraces
  rw [h]
  decide +kernel
theorem ws_K {s : State} {a : Array Value} (hts : ∀ w ∈ lw_tbl, w.before a s = true) : ∃ D : va_G, va_K D z_cl [] s := by
  have hk : ∀ c : Nat, ∃ p : ClassId × (Nat → Nat), ∀ q, z_cl[c]? = some q → u_Kn s q.1 q.2.1 q.2.2 p.1 p.2 := by
    intro c
    rcases Nat.lt_or_ge c 13 with hc | hc
    · have hc' : c = 0 ∨ c = 1 ∨ c = 2 ∨ c = 3 ∨ c = 4 ∨ c = 5 ∨ c = 6 ∨ c = 7 ∨ c = 8 ∨ c = 9 ∨ c = 10 ∨ c = 11 ∨ c = 12 := by omega
      rcases hc' with rfl | rfl | rfl | rfl | rfl | rfl | rfl | rfl | rfl | rfl | rfl | rfl | rfl
      · obtain ⟨cC, iS, h⟩ := u_known (C := "BellThatIsADoor$Bell") (T := z_F0) (N := 6) (n := 6) hts (show ∀ w ∈ (List.range 6).map (u_lay "BellThatIsADoor$Bell" z_F0), w ∈ lw_tbl by decide +kernel) (hts _ (by decide +kernel))
        exact ⟨(cC, iS), fun q hq => by cases hq; exact h⟩
      · obtain ⟨cC, iS, h⟩ := u_known (C := "BellThatIsADoor$Hen") (T := z_F1) (N := 6) (n := 6) hts (show ∀ w ∈ (List.range 6).map (u_lay "BellThatIsADoor$Hen" z_F1), w ∈ lw_tbl by decide +kernel) (hts _ (by decide +kernel))
        exact ⟨(cC, iS), fun q hq => by cases hq; exact h⟩
      · obtain ⟨cC, iS, h⟩ := u_known (C := "BellThatIsADoor$Echo") (T := z_F2) (N := 6) (n := 6) hts (show ∀ w ∈ (List.range 6).map (u_lay "BellThatIsADoor$Echo" z_F2), w ∈ lw_tbl by decide +kernel) (hts _ (by decide +kernel))
        exact ⟨(cC, iS), fun q hq => by cases hq; exact h⟩
      · obtain ⟨cC, iS, h⟩ := u_known (C := "BellThatIsADoor$Door") (T := z_F3) (N := 6) (n := 6) hts (show ∀ w ∈ (List.range 6).map (u_lay "BellThatIsADoor$Door" z_F3), w ∈ lw_tbl by decide +kernel) (hts _ (by decide +kernel))
        exact ⟨(cC, iS), fun q hq => by cases hq; exact h⟩
      · obtain ⟨cC, iS, h⟩ := u_known (C := "BellThatIsADoor$Maid") (T := z_F4) (N := 6) (n := 6) hts (show ∀ w ∈ (List.range 6).map (u_lay "BellThatIsADoor$Maid" z_F4), w ∈ lw_tbl by decide +kernel) (hts _ (by decide +kernel))
        exact ⟨(cC, iS), fun q hq => by cases hq; exact h⟩
      · obtain ⟨cC, iS, h⟩ := u_known (C := "BellThatIsADoor$Suited") (T := z_F5) (N := 6) (n := 6) hts (show ∀ w ∈ (List.range 6).map (u_lay "BellThatIsADoor$Suited" z_F5), w ∈ lw_tbl by decide +kernel) (hts _ (by decide +kernel))
        exact ⟨(cC, iS), fun q hq => by cases hq; exact h⟩
      · obtain ⟨cC, iS, h⟩ := u_known (C := "BellThatIsADoor$Cough") (T := z_F6) (N := 6) (n := 6) hts (show ∀ w ∈ (List.range 6).map (u_lay "BellThatIsADoor$Cough" z_F6), w ∈ lw_tbl by decide +kernel) (hts _ (by decide +kernel))
        exact ⟨(cC, iS), fun q hq => by cases hq; exact h⟩
      · obtain ⟨cC, iS, h⟩ := u_known (C := "BellThatIsADoor$Marble") (T := z_F7) (N := 6) (n := 6) hts (show ∀ w ∈ (List.range 6).map (u_lay "BellThatIsADoor$Marble" z_F7), w ∈ lw_tbl by decide +kernel) (hts _ (by decide +kernel))
        exact ⟨(cC, iS), fun q hq => by cases hq; exact h⟩
      · obtain ⟨cC, iS, h⟩ := u_known (C := "BellThatIsADoor$Marsh") (T := z_F8) (N := 11) (n := 11) hts (show ∀ w ∈ (List.range 11).map (u_lay "BellThatIsADoor$Marsh" z_F8), w ∈ lw_tbl by decide +kernel) (hts _ (by decide +kernel))
        exact ⟨(cC, iS), fun q hq => by cases hq; exact h⟩
      · obtain ⟨cC, iS, h⟩ := u_known (C := "BellThatIsADoor$Row") (T := z_F9) (N := 2) (n := 2) hts (show ∀ w ∈ (List.range 2).map (u_lay "BellThatIsADoor$Row" z_F9), w ∈ lw_tbl by decide +kernel) (hts _ (by decide +kernel))
        exact ⟨(cC, iS), fun q hq => by cases hq; exact h⟩
      · obtain ⟨cC, iS, h⟩ := u_known (C := "BellThatIsADoor$Errand") (T := z_F10) (N := 5) (n := 5) hts (show ∀ w ∈ (List.range 5).map (u_lay "BellThatIsADoor$Errand" z_F10), w ∈ lw_tbl by decide +kernel) (hts _ (by decide +kernel))
        exact ⟨(cC, iS), fun q hq => by cases hq; exact h⟩
      · obtain ⟨cC, iS, h⟩ := u_known (C := "BellThatIsADoor") (T := z_F11) (N := 11) (n := 11) hts (show ∀ w ∈ (List.range 11).map (u_lay "BellThatIsADoor" z_F11), w ∈ lw_tbl by decide +kernel) (hts _ (by decide +kernel))
        exact ⟨(cC, iS), fun q hq => by cases hq; exact h⟩
      · obtain ⟨cC, iS, h⟩ := u_known (C := "BellThatIsADoorModel") (T := z_F12) (N := 21) (n := 21) hts (show ∀ w ∈ (List.range 21).map (u_lay "BellThatIsADoorModel" z_F12), w ∈ lw_tbl by decide +kernel) (hts _ (by decide +kernel))
        exact ⟨(cC, iS), fun q hq => by cases hq; exact h⟩
    · refine ⟨(0, fun _ => 0), fun q hq => ?_⟩
      rw [List.getElem?_eq_none (Nat.le_trans (by decide +kernel : z_cl.length ≤ 13) hc)] at hq
      cases hq
  obtain ⟨f, hf⟩ := Classical.axiomOfChoice hk
  exact ⟨(fun c => (f c).1, fun c => (f c).2), fun c q hq => hf c q hq, fun k q hq => by cases hq⟩
