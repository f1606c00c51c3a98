/-! THE MODEL: feed, thrown, fault, chunks -/
theorem sar_st (x : Int32) {k : Nat} (hk : k < 4) : (x >>> (((Int8.ofInt 8).toInt32 * nI k) &&& 31)) &&& (Int16.ofInt 255).toInt32 = nI (stepAt x k) := by
  have e : ∀ j : Fin 4, ((Int8.ofInt 8).toInt32 * nI j.val) &&& 31 = Int32.ofNat (8 * j.val) := by decide
  rw [e ⟨k, hk⟩]
  exact sar_c x (8 * k) (by omega)
def mFD (F : Nat → Int32) (fs : List Nat) : Prop := ∀ (i x : Nat), fs[i]? = some x → F i = nI x
section MFEED
variable {X : Nat × (Nat → Int32)} {d : Nat} {Q : am_R → Prop} {st li : Int64} {w n : Int32}
set_option maxHeartbeats 1000000 in
theorem mf_loop : ∀ (k : Nat) (fs : List Nat) (F : Nat → Int32) (S : am_S) (I : Nat → Int32), fs.length + k ≤ 960 → k ≤ 4 → am_get S 408 = some (moC I st li) → I 2 = nI fs.length → am_get S 409 = some (iA 960 F) → mFD F fs →
    (∀ F' T J, fr [408, 409] S T → gf [2] I J → am_get T 408 = some (moC J st li) → J 2 = nI (fs ++ wb w k).length → am_get T 409 = some (iA 960 F') → mFD F' (fs ++ wb w k) → Q (.inl (some (.int 1)), T)) → wp X d 94 33 [some (.ref 408), some (.int w), some (.int n), some (.int (fdI k))] [] S Q := by
  intro k
  induction k with
  | zero =>
    intro fs F S I hl h4 h h2 h9 hD hq
    unfold fdI
    refine wp_step rfl rfl ?_
    refine wp_if_t rfl rfl ?_
    refine wp_step rfl rfl ?_
    refine wp_iret rfl rfl rfl (hq F S I (fr_refl _ _) (gf_refl _ _) h (by simpa [wb] using h2) h9 (by simpa [wb] using hD))
  | succ k ih =>
    intro fs F S I hl h4 h h2 h9 hD hq
    unfold fdI at ih ⊢
    refine wp_step rfl rfl ?_
    refine wp_if_f rfl (by show am_c1 .lt (nI k) = false; exact decide_eq_false (fun h9 => by have h8 : nI k < nI 0 := h9; rw [nI_ltI (by omega) (by decide)] at h8; omega)) ?_
    refine wp_step rfl rfl ?_
    refine wp_getg rfl h (by decide) rfl ?_
    refine wp_step rfl rfl ?_
    refine wp_getg (v := (.int (nI fs.length))) rfl h (by decide) (congrArg Value.int h2) ?_
    iterate 7 refine wp_step rfl rfl ?_
    rw [sar_st w (show k < 4 by omega)]
    refine wp_ast rfl (Or.inl ⟨rfl, rfl⟩) h9 (am_in_nI (by omega) (by decide)) ?_
    rw [nI_clamp (by omega)]
    rw [show vp_nar (am_ty 0) (nI (stepAt w k)) = nI (stepAt w k) from rfl]
    have h1 : am_get (am_upd S 409 (iA 960 (upd F fs.length (nI (stepAt w k))))) 408 = some (moC I st li) := (am_get_ne (by decide)).trans h
    have h91 : am_get (am_upd S 409 (iA 960 (upd F fs.length (nI (stepAt w k))))) 409 = some (iA 960 (upd F fs.length (nI (stepAt w k)))) := am_get_self h9
    have hf1 : fr [408, 409] S (am_upd S 409 (iA 960 (upd F fs.length (nI (stepAt w k))))) := fr_up (by simp)
    generalize am_upd S 409 (iA 960 (upd F fs.length (nI (stepAt w k)))) = S1 at h1 h91 hf1 ⊢
    have hlen : (fs ++ [stepAt w k]).length = fs.length + 1 := by simp
    have hD1 : mFD (upd F fs.length (nI (stepAt w k))) (fs ++ [stepAt w k]) := by
      intro i x hx
      rcases at_app hx with ⟨g1, g2⟩ | ⟨g1, g2⟩
      · rw [pk_un (by omega)]; exact hD i x g2
      · subst g1; subst g2; exact pk_us
    iterate 2 refine wp_step rfl rfl ?_
    refine wp_getg (v := (.int (nI fs.length))) rfl h1 (by decide) (congrArg Value.int h2) ?_
    iterate 2 refine wp_step rfl rfl ?_
    rw [show nI fs.length + Int32.ofInt 1 = nI (fs.length + 1) from nI_add fs.length 1]
    refine wp_putg rfl h1 (by decide) rfl rfl ?_
    rw [mkG_i rfl]
    have h3 : am_get (am_upd S1 408 (moC (upd I 2 (nI (fs.length + 1))) st li)) 408 = some (moC (upd I 2 (nI (fs.length + 1))) st li) := am_get_self h1
    have h93 : am_get (am_upd S1 408 (moC (upd I 2 (nI (fs.length + 1))) st li)) 409 = some (iA 960 (upd F fs.length (nI (stepAt w k)))) := (am_get_ne (by decide)).trans h91
    have hf3 : fr [408, 409] S (am_upd S1 408 (moC (upd I 2 (nI (fs.length + 1))) st li)) := fr_trans hf1 (fr_up (by simp))
    generalize am_upd S1 408 (moC (upd I 2 (nI (fs.length + 1))) st li) = S3 at h3 h93 hf3 ⊢
    have hq' : ∀ F' T J, fr [408, 409] S3 T → gf [2] (upd I 2 (nI (fs.length + 1))) J → am_get T 408 = some (moC J st li) → J 2 = nI ((fs ++ [stepAt w k]) ++ wb w k).length → am_get T 409 = some (iA 960 F') → mFD F' ((fs ++ [stepAt w k]) ++ wb w k) → Q (.inl (some (.int 1)), T) := by
      intro F' T J g1 g2 g3 g4 g5 g6
      have ew : fs ++ wb w (k + 1) = (fs ++ [stepAt w k]) ++ wb w k := by rw [List.append_assoc]; rfl
      exact hq F' T J (fr_trans hf3 g1) (gf_trans (gf_up (gf_refl _ _) (by simp)) g2) g3 (by rw [ew]; exact g4) g5 (by rw [ew]; exact g6)
    iterate 2 refine wp_step rfl rfl ?_
    cases k with
    | zero => exact ih (fs ++ [stepAt w 0]) _ S3 _ (by rw [hlen]; omega) (by omega) h3 (by rw [hlen]; exact pk_us) h93 hD1 hq'
    | succ k =>
      rw [nI_m1 k]
      exact ih (fs ++ [stepAt w (k + 1)]) _ S3 _ (by rw [hlen]; omega) (by omega) h3 (by rw [hlen]; exact pk_us) h93 hD1 hq'
theorem q_mfeed {S : am_S} {I : Nat → Int32} {fs : List Nat} {F : Nat → Int32} (hl : fs.length ≤ 960) (h : am_get S 408 = some (moC I st li)) (h2 : I 2 = nI fs.length) (h9 : am_get S 409 = some (iA 960 F)) (hD : mFD F fs)
    (hno : fdN n fs.length = none → ∀ T J, fr [408] S T → gf [0] I J → am_get T 408 = some (moC J st li) → J 0 = 0 → Q (.inl (some (.int 0)), T))
    (hyes : ∀ m F' T J, fdN n fs.length = some m → fr [408, 409] S T → gf [0, 2] I J → am_get T 408 = some (moC J st li) → J 0 = 0 → J 2 = nI (fs ++ wb w m).length → am_get T 409 = some (iA 960 F') → mFD F' (fs ++ wb w m) → Q (.inl (some (.int 1)), T)) : ev X (d + 1) 94 [.ref 408, .int w, .int n] S Q := by
  refine ev_wp (L0 := [some (.ref 408), some (.int w), some (.int n), none]) (Nat.le_of_ble_eq_true rfl) rfl ?_
  iterate 2 refine wp_step rfl rfl ?_
  refine wp_putg rfl h (by decide) rfl rfl ?_
  rw [mkG_i rfl]
  have h1 : am_get (am_upd S 408 (moC (upd I 0 (Int32.ofInt 0)) st li)) 408 = some (moC (upd I 0 (Int32.ofInt 0)) st li) := am_get_self h
  have hf1 : fr [408] S (am_upd S 408 (moC (upd I 0 (Int32.ofInt 0)) st li)) := fr_up (by simp)
  generalize am_upd S 408 (moC (upd I 0 (Int32.ofInt 0)) st li) = S1 at h1 hf1 ⊢
  have hg1 : gf [0] I (upd I 0 (Int32.ofInt 0)) := gf_up (gf_refl _ _) (by simp)
  have k0 : (upd I 0 (Int32.ofInt 0)) 0 = 0 := pk_us
  generalize upd I 0 (Int32.ofInt 0) = I1 at h1 hg1 k0
  have h21 : I1 2 = nI fs.length := (hg1 2 (by decide)).trans h2
  have bad : fdN n fs.length = none → wp X d 94 27 [some (.ref 408), some (.int w), some (.int n), none] [] S1 Q := by
    intro hb
    refine wp_step rfl rfl ?_
    refine wp_iret rfl rfl rfl (hno hb S1 I1 hf1 hg1 h1 k0)
  iterate 2 refine wp_step rfl rfl ?_
  refine wp_icmp rfl (fun c0 => ?_) (fun c0 => ?_)
  · replace c0 := i_lt_t c0
    exact bad (by unfold fdN; rw [Int32.lt_iff_toInt_lt] at c0; have : n.toInt < 1 := c0; rw [if_neg (by omega)])
  · replace c0 := i_lt_f c0
    iterate 2 refine wp_step rfl rfl ?_
    refine wp_icmp rfl (fun c1 => ?_) (fun c1 => ?_)
    · replace c1 := i_gt_t c1
      exact bad (by unfold fdN; rw [Int32.lt_iff_toInt_lt] at c1; have : (4 : Int) < n.toInt := c1; rw [if_neg (by omega)])
    · replace c1 := i_gt_f c1
      have g0 : ¬ n.toInt < 1 := fun h9 => c0 (by rw [Int32.lt_iff_toInt_lt]; exact h9)
      have g1 : ¬ (4 : Int) < n.toInt := fun h9 => c1 (by rw [Int32.lt_iff_toInt_lt]; exact h9)
      obtain ⟨m, hm⟩ : ∃ m, m = n.toInt.toNat := ⟨_, rfl⟩
      have hnm : n = nI m := Int32.toInt_inj.mp (by rw [nI_toInt (by omega)]; omega)
      refine wp_step rfl rfl ?_
      refine wp_getg (v := (.int (nI fs.length))) rfl h1 (by decide) (congrArg Value.int h21) ?_
      iterate 2 refine wp_step rfl rfl ?_
      rw [show nI fs.length + n = nI (fs.length + m) by rw [hnm, nI_add]]
      refine wp_step rfl rfl ?_
      refine wp_icmp rfl (fun c2 => ?_) (fun c2 => ?_)
      · replace c2 := n_le_t (a := fs.length + m) (b := 960) (by omega) (by omega) c2
        have hs : fdN n fs.length = some m := by unfold fdN; rw [if_pos (by omega), hm]
        obtain ⟨k, rfl⟩ : ∃ k, m = k + 1 := ⟨m - 1, by omega⟩
        iterate 3 refine wp_step rfl rfl ?_
        rw [show n - Int32.ofInt 1 = nI k from by rw [hnm]; exact nI_pred k]
        refine wp_step rfl rfl ?_
        exact mf_loop (k + 1) fs F S1 I1 (by omega) (by omega) h1 h21 (by rw [fr_get hf1 (by decide)]; exact h9) hD (fun F' T J q1 q2 q3 q4 q5 q6 => hyes (k + 1) F' T J hs (fr_trans (fr_mono hf1 (fun j hj => by simp only [List.mem_cons, List.not_mem_nil, or_false] at hj ⊢; omega)) q1) (gf_trans (gf_mono hg1 (fun j hj => by simp only [List.mem_cons, List.not_mem_nil, or_false] at hj ⊢; omega)) (gf_mono q2 (fun j hj => by simp only [List.mem_cons, List.not_mem_nil, or_false] at hj ⊢; omega))) q3 ((q2 0 (by decide)).trans k0) q4 q5 q6)
      · replace c2 := n_le_f (a := fs.length + m) (b := 960) (by omega) (by omega) c2
        exact bad (by unfold fdN; rw [if_neg (by omega)])
theorem q_mthrown {S : am_S} {I : Nat → Int32} {k : Int32} (h : am_get S 408 = some (moC I st li)) (h0 : I 0 = k) (hq : Q (.inl (some (.int k)), S)) : ev X (d + 1) 92 [.ref 408] S Q := by
  refine ev_wp (L0 := [some (.ref 408)]) (Nat.le_of_ble_eq_true rfl) rfl ?_
  refine wp_step rfl rfl ?_
  refine wp_getg (v := (.int k)) rfl h (by decide) (congrArg Value.int h0) ?_
  refine wp_iret rfl rfl rfl hq
theorem q_mchunks {S : am_S} {I : Nat → Int32} {C : jMC} {v : Nat} {cks : List jCk} (h : am_get S 408 = some (moC I st li)) (h3 : I 3 = nI v) (hv : v ≤ 1) (hC : mCA S C) (hCs : mCs C v cks) (hq : ∀ T J, fr [408] S T → gf [0] I J → am_get T 408 = some (moC J st li) → J 0 = 0 → Q (.inl (some (.int (nI cks.length))), T)) : ev X (d + 1) 126 [.ref 408] S Q := by
  refine ev_wp (L0 := [some (.ref 408)]) (Nat.le_of_ble_eq_true rfl) rfl ?_
  iterate 2 refine wp_step rfl rfl ?_
  refine wp_putg rfl h (by decide) rfl rfl ?_
  rw [mkG_i rfl]
  have h1 : am_get (am_upd S 408 (moC (upd I 0 (Int32.ofInt 0)) st li)) 408 = some (moC (upd I 0 (Int32.ofInt 0)) st li) := am_get_self h
  have hf1 : fr [408] S (am_upd S 408 (moC (upd I 0 (Int32.ofInt 0)) st li)) := fr_up (by simp)
  generalize am_upd S 408 (moC (upd I 0 (Int32.ofInt 0)) st li) = S1 at h1 hf1 ⊢
  have hg1 : gf [0] I (upd I 0 (Int32.ofInt 0)) := gf_up (gf_refl _ _) (by simp)
  have k0 : (upd I 0 (Int32.ofInt 0)) 0 = 0 := pk_us
  generalize upd I 0 (Int32.ofInt 0) = I1 at h1 hg1 k0
  refine wp_step rfl rfl ?_
  refine wp_getg rfl h1 (by decide) rfl ?_
  refine wp_step rfl rfl ?_
  refine wp_getg (v := (.int (nI v))) rfl h1 (by decide) (congrArg Value.int ((hg1 3 (by decide)).trans h3)) ?_
  refine wp_ald rfl (Or.inl ⟨rfl, rfl⟩) (by decide) (by rw [fr_get hf1 (by decide)]; exact hC.1) (am_in_nI (by omega) (by decide)) ?_
  rw [nI_clamp (by omega)]
  rw [hCs.1]
  refine wp_iret rfl rfl rfl (hq S1 I1 hf1 hg1 h1 k0)
theorem q_mfault {S : am_S} {I : Nat → Int32} {k pl : Int32} (h : am_get S 408 = some (moC I st li)) (h27 : I 27 = k) (h28 : I 28 = pl) (hq : ∀ T J, fr [408] S T → gf [0] I J → am_get T 408 = some (moC J st li) → J 0 = 0 → Q (.inl (some (.int (if n = 0 then k else if n = 1 then pl else -1))), T)) : ev X (d + 1) 125 [.ref 408, .int n] S Q := by
  refine ev_wp (L0 := [some (.ref 408), some (.int n)]) (Nat.le_of_ble_eq_true rfl) rfl ?_
  iterate 2 refine wp_step rfl rfl ?_
  refine wp_putg rfl h (by decide) rfl rfl ?_
  rw [mkG_i rfl]
  have h1 : am_get (am_upd S 408 (moC (upd I 0 (Int32.ofInt 0)) st li)) 408 = some (moC (upd I 0 (Int32.ofInt 0)) st li) := am_get_self h
  have hf1 : fr [408] S (am_upd S 408 (moC (upd I 0 (Int32.ofInt 0)) st li)) := fr_up (by simp)
  generalize am_upd S 408 (moC (upd I 0 (Int32.ofInt 0)) st li) = S1 at h1 hf1 ⊢
  have hg1 : gf [0] I (upd I 0 (Int32.ofInt 0)) := gf_up (gf_refl _ _) (by simp)
  have k0 : (upd I 0 (Int32.ofInt 0)) 0 = 0 := pk_us
  generalize upd I 0 (Int32.ofInt 0) = I1 at h1 hg1 k0
  refine wp_step rfl rfl ?_
  refine wp_if rfl (fun c0 => ?_) (fun c0 => ?_)
  · replace c0 := q_ne_t c0
    iterate 2 refine wp_step rfl rfl ?_
    refine wp_icmp rfl (fun c1 => ?_) (fun c1 => ?_)
    · replace c1 := i_ne_t c1
      refine wp_step rfl rfl ?_
      refine wp_iret rfl rfl rfl ?_
      have e9 := hq S1 I1 hf1 hg1 h1 k0
      rw [if_neg c0, if_neg (show ¬ n = 1 from c1)] at e9
      exact e9
    · replace c1 := i_ne_f c1
      refine wp_step rfl rfl ?_
      refine wp_getg (v := (.int pl)) rfl h1 (by decide) (congrArg Value.int ((hg1 28 (by decide)).trans h28)) ?_
      refine wp_step rfl rfl ?_
      refine wp_iret rfl rfl rfl ?_
      have e9 := hq S1 I1 hf1 hg1 h1 k0
      rw [if_neg c0, if_pos (show n = 1 from c1)] at e9
      exact e9
  · replace c0 := q_ne_f c0
    refine wp_step rfl rfl ?_
    refine wp_getg (v := (.int k)) rfl h1 (by decide) (congrArg Value.int ((hg1 27 (by decide)).trans h27)) ?_
    refine wp_step rfl rfl ?_
    refine wp_iret rfl rfl rfl ?_
    have e9 := hq S1 I1 hf1 hg1 h1 k0
    rw [if_pos c0] at e9
    exact e9
end MFEED
