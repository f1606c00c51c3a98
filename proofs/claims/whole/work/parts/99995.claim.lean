/-! THE CLAIM -/
set_option maxRecDepth 1000000 in
theorem am_F0_L : am_F0.2.1 = [some (.ref 1000000), some (.ref 0), some (.ref 408), some (.ref 440), some (.int (nI 0)), none, none, none] ∧ am_F0.2.2.1 = [] := by decide +kernel
theorem am_F0_w : am_walk (am_exec 3000 8) 176 13 (0, am_entry 8 [.ref 1000000], [], am_S0) = some am_F0 := by
  obtain ⟨f, hf⟩ := Option.isSome_iff_exists.mp am_F0_pc
  unfold am_F0
  rw [hf]
  rfl
theorem am_law_all (L : Nat) (xs : Nat → Int32) (hL : L ≤ 2048) : am_law L xs := by
  obtain ⟨r, hgo, h1, h2, h3⟩ := lw_loop (d := 0) (xs := xs) hL L 0 am_F0.2.2.2 none none none (by omega) (by decide) st_lw
  obtain ⟨o, T⟩ := r
  dsimp only at h1 h2 h3
  subst h1
  refine ⟨30, T, by decide, ?_, h2, h3⟩
  have hg : go (L, xs) 30 176 am_F0.1 am_F0.2.1 am_F0.2.2.1 am_F0.2.2.2 (.inl (some (.int 1)), T) := by
    rw [am_F0_1, am_F0_L.1, am_F0_L.2]
    exact hgo
  exact ev_of (Nat.le_of_ble_eq_true rfl) (go_walk (fun k as S r h => ev_mono (by decide) (am_exec_ok 8 k as S r h)) 13 am_F0_w hg)
theorem i_vc : Claimed_1_1 ∧ Claimed_1_2 := am_claim am_law_all
