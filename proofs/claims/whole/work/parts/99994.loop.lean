/-! THE LAW: its loop -/
theorem and15 (x : Int32) : x &&& (Int8.ofInt 15).toInt32 = nI (x.toBitVec.toNat % 16) := by
  apply Int32.toBitVec_inj.mp
  apply BitVec.eq_of_toNat_eq
  rw [Int32.toBitVec_and, BitVec.toNat_and]
  show x.toBitVec.toNat &&& 15 = (BitVec.ofNat 32 (x.toBitVec.toNat % 16)).toNat
  rw [show (15 : Nat) = 2 ^ 4 - 1 from rfl, Nat.and_two_pow_sub_one_eq_mod, BitVec.toNat_ofNat]
  omega
theorem lt_m4 {i L : Nat} (hi : i ≤ 2048) (hL : L ≤ 2048) : (nI L - Int32.ofInt 4 < nI i) ↔ ¬ i + 4 ≤ L := by
  rw [Int32.lt_iff_toInt_lt, Int32.toInt_sub, nI_toInt (by omega), nI_toInt (by omega), show (Int32.ofInt 4).toInt = 4 from by decide]
  rw [Int.bmod_eq_of_le (by omega) (by omega)]
  omega
def lwQ (r : am_R) : Prop := r.1 = .inl (some (.int 1)) ∧ r.2.2.2.1 ≤ 601024 ∧ r.2.2.2.2 ≤ 7293034
section LAWLOOP
variable {L d i : Nat} {xs : Nat → Int32} {S : am_S} {x5 x6 x7 : Option Value}
set_option maxRecDepth 8192 in
theorem lw_exit (hL : L ≤ 2048) (hi2 : i ≤ 2048) (hno : ¬ i + 4 ≤ L) (hr : roI S i) : wp (L, xs) (d + 30) 176 23 [some (.ref 1000000), some (.ref 0), some (.ref 408), some (.ref 440), some (.int (nI i)), x5, x6, x7] [] S lwQ := by
  iterate 2 refine wp_step rfl rfl ?_
  refine wp_step (pc' := 27) (L' := [some (.ref 1000000), some (.ref 0), some (.ref 408), some (.ref 440), some (.int (nI i)), x5, x6, x7]) (st' := [.int (nI L), .int (nI i)]) (S' := S) rfl rfl ?_
  iterate 2 refine wp_step rfl rfl ?_
  refine wp_icmp rfl (fun c0 => ?_) (fun c0 => ?_)
  · replace c0 := i_gt_t c0
    refine wp_step rfl rfl ?_
    refine wp_iret rfl rfl rfl ⟨rfl, by have := hr.1; show S.2.2.1 ≤ 601024; omega, by have := hr.2; show S.2.2.2 ≤ 7293034; omega⟩
  · replace c0 := i_gt_f c0
    exact absurd ((lt_m4 hi2 hL).mpr hno) c0
theorem lwI_up {j : Nat} (h : lwI S i) (hij : i ≤ j) : lwI S j := by
  obtain ⟨rec, sp, v, mp, fk, fp, fs, ys, cs, b, tot, re, gs, B, h1, h2, h3, h4, h5⟩ := h
  exact ⟨rec, sp, v, mp, fk, fp, fs, ys, cs, b, tot, re, gs, B, h1, h2, h3, h4, roI_up h5 hij⟩
set_option maxRecDepth 8192 in
theorem lw_step (hL : L ≤ 2048) (hi : i + 4 ≤ L) (h : lwI S i) (hn : ∀ T y5 y6 y7, lwI T (i + 4) → wp (L, xs) (d + 30) 176 852 [some (.ref 1000000), some (.ref 0), some (.ref 408), some (.ref 440), some (.int (nI i)), y5, y6, y7] [] T lwQ) : wp (L, xs) (d + 30) 176 23 [some (.ref 1000000), some (.ref 0), some (.ref 408), some (.ref 440), some (.int (nI i)), x5, x6, x7] [] S lwQ := by
  iterate 2 refine wp_step rfl rfl ?_
  refine wp_step (pc' := 27) (L' := [some (.ref 1000000), some (.ref 0), some (.ref 408), some (.ref 440), some (.int (nI i)), x5, x6, x7]) (st' := [.int (nI L), .int (nI i)]) (S' := S) rfl rfl ?_
  iterate 2 refine wp_step rfl rfl ?_
  refine wp_icmp rfl (fun c0 => ?_) (fun c0 => ?_)
  · replace c0 := i_gt_t c0
    exact absurd hi ((lt_m4 (by omega) hL).mp c0)
  · replace c0 := i_gt_f c0
    iterate 2 refine wp_step rfl rfl ?_
    refine wp_sld rfl (am_in_nI (by show i < L; omega) (by omega)) ?_
    rw [nI_clamp (by omega)]
    iterate 2 refine wp_step rfl rfl ?_
    rw [and15]
    have hk16 : (xs i).toBitVec.toNat % 16 < 16 := Nat.mod_lt _ (by decide)
    show wp (L, xs) (d + 30) 176 39 [some (.ref 1000000), some (.ref 0), some (.ref 408), some (.ref 440), some (.int (nI i)), x5, x6, x7] [.int (nI ((xs i).toBitVec.toNat % 16))] S lwQ
    generalize (xs i).toBitVec.toNat % 16 = k at hk16 ⊢
    have hk : k = 0 ∨ k = 1 ∨ k = 2 ∨ k = 3 ∨ k = 4 ∨ k = 5 ∨ k = 6 ∨ k = 7 ∨ k = 8 ∨ k = 9 ∨ k = 10 ∨ k = 11 ∨ k = 12 ∨ k = 13 ∨ k = 14 ∨ k = 15 := by omega
    rcases hk with rfl | rfl | rfl | rfl | rfl | rfl | rfl | rfl | rfl | rfl | rfl | rfl | rfl | rfl | rfl | rfl
    · refine wp_tsw (q := 112) rfl rfl ?_
      exact lc_feed (X := (L, xs)) hi hL h hn
    · refine wp_tsw (q := 149) rfl rfl ?_
      exact lc_open (X := (L, xs)) hi hL h hn
    · refine wp_tsw (q := 193) rfl rfl ?_
      exact lc_fault (X := (L, xs)) hi hL h hn
    · refine wp_tsw (q := 218) rfl rfl ?_
      exact lc_chunks (X := (L, xs)) hi hL h hn
    · refine wp_tsw (q := 231) rfl rfl ?_
      exact lc_event (X := (L, xs)) hi hL h hn
    · refine wp_tsw (q := 298) rfl rfl ?_
      exact lc_kind (X := (L, xs)) hi hL h hn
    · refine wp_tsw (q := 366) rfl rfl ?_
      exact lc_value (X := (L, xs)) hi hL h hn
    · refine wp_tsw (q := 433) rfl rfl ?_
      exact lc_letter (X := (L, xs)) hi hL h hn
    · refine wp_tsw (q := 513) rfl rfl ?_
      exact lc_type (X := (L, xs)) hi hL h hn
    · refine wp_tsw (q := 540) rfl rfl ?_
      exact lc_select (X := (L, xs)) hi hL h hn
    · refine wp_tsw (q := 612) rfl rfl ?_
      exact lc_misfit (X := (L, xs)) hi hL h hn
    · refine wp_tsw (q := 625) rfl rfl ?_
      exact lc_selected (X := (L, xs)) hi hL h hn
    · refine wp_tsw (q := 681) rfl rfl ?_
      exact lc_fold (X := (L, xs)) hi hL h hn
    · refine wp_tsw (q := 748) rfl rfl ?_
      exact lc_group (X := (L, xs)) hi hL h hn
    · refine wp_tsw (q := 785) rfl rfl ?_
      exact lc_grouped (X := (L, xs)) hi hL h hn
    · refine wp_tsw (q := 852) rfl rfl ?_
      exact hn S x5 x6 x7 (lwI_up h (by omega))
set_option maxRecDepth 8192 in
theorem lw_loop (hL : L ≤ 2048) : ∀ (n i : Nat) (S : am_S) (x5 x6 x7 : Option Value), L ≤ i + 4 * n → i ≤ 2048 → lwI S i → wp (L, xs) (d + 30) 176 23 [some (.ref 1000000), some (.ref 0), some (.ref 408), some (.ref 440), some (.int (nI i)), x5, x6, x7] [] S lwQ := by
  intro n
  induction n with
  | zero =>
    intro i S x5 x6 x7 hn hi h
    obtain ⟨rec, sp, v, mp, fk, fp, fs, ys, cs, b, tot, re, gs, B, h1, h2, h3, h4, h5⟩ := h
    exact lw_exit hL hi (by omega) h5
  | succ n ih =>
    intro i S x5 x6 x7 hn hi h
    by_cases c : i + 4 ≤ L
    · refine lw_step hL c h (fun T y5 y6 y7 hT => ?_)
      iterate 2 refine wp_step rfl rfl ?_
      rw [show nI i + Int32.ofInt 4 = nI (i + 4) from nI_add i 4]
      exact ih (i + 4) T y5 y6 y7 (by omega) (by omega) hT
    · obtain ⟨rec, sp, v, mp, fk, fp, fs, ys, cs, b, tot, re, gs, B, h1, h2, h3, h4, h5⟩ := h
      exact lw_exit hL hi c h5
end LAWLOOP
