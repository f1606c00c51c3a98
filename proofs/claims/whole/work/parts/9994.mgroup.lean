/-! THE MODEL: groups -/
def mGr (S : am_S) (P : jGA) : Prop := am_get S 434 = some (lA 60 P.1) ∧ am_get S 435 = some (iA 60 P.2.1) ∧ am_get S 436 = some (iA 60 P.2.2.1) ∧ am_get S 437 = some (lA 60 P.2.2.2.1) ∧ am_get S 438 = some (lA 60 P.2.2.2.2.1) ∧ am_get S 439 = some (lA 60 P.2.2.2.2.2)
theorem mGr_fr {js : List Nat} {S T : am_S} {P : jGA} (h : mGr S P) (hf : fr js S T) (hj : ∀ j, j ∈ js → j < 434 ∨ 440 ≤ j) : mGr T P := by
  obtain ⟨h1, h2, h3, h4, h5, h6⟩ := h
  exact ⟨by rw [fr_get hf (fun g => by have := hj _ g; omega)]; exact h1, by rw [fr_get hf (fun g => by have := hj _ g; omega)]; exact h2, by rw [fr_get hf (fun g => by have := hj _ g; omega)]; exact h3, by rw [fr_get hf (fun g => by have := hj _ g; omega)]; exact h4, by rw [fr_get hf (fun g => by have := hj _ g; omega)]; exact h5, by rw [fr_get hf (fun g => by have := hj _ g; omega)]; exact h6⟩
theorem mGr_434 {S : am_S} {P : jGA} (h : mGr S P) (f : Nat → Int64) : mGr (am_upd S 434 (lA 60 f)) (f, P.2.1, P.2.2.1, P.2.2.2.1, P.2.2.2.2.1, P.2.2.2.2.2) := by
  obtain ⟨h1, h2, h3, h4, h5, h6⟩ := h
  exact ⟨am_get_self h1, (am_get_ne (by decide)).trans h2, (am_get_ne (by decide)).trans h3, (am_get_ne (by decide)).trans h4, (am_get_ne (by decide)).trans h5, (am_get_ne (by decide)).trans h6⟩
theorem mGr_435 {S : am_S} {P : jGA} (h : mGr S P) (f : Nat → Int32) : mGr (am_upd S 435 (iA 60 f)) (P.1, f, P.2.2.1, P.2.2.2.1, P.2.2.2.2.1, P.2.2.2.2.2) := by
  obtain ⟨h1, h2, h3, h4, h5, h6⟩ := h
  exact ⟨(am_get_ne (by decide)).trans h1, am_get_self h2, (am_get_ne (by decide)).trans h3, (am_get_ne (by decide)).trans h4, (am_get_ne (by decide)).trans h5, (am_get_ne (by decide)).trans h6⟩
theorem mGr_436 {S : am_S} {P : jGA} (h : mGr S P) (f : Nat → Int32) : mGr (am_upd S 436 (iA 60 f)) (P.1, P.2.1, f, P.2.2.2.1, P.2.2.2.2.1, P.2.2.2.2.2) := by
  obtain ⟨h1, h2, h3, h4, h5, h6⟩ := h
  exact ⟨(am_get_ne (by decide)).trans h1, (am_get_ne (by decide)).trans h2, am_get_self h3, (am_get_ne (by decide)).trans h4, (am_get_ne (by decide)).trans h5, (am_get_ne (by decide)).trans h6⟩
theorem mGr_437 {S : am_S} {P : jGA} (h : mGr S P) (f : Nat → Int64) : mGr (am_upd S 437 (lA 60 f)) (P.1, P.2.1, P.2.2.1, f, P.2.2.2.2.1, P.2.2.2.2.2) := by
  obtain ⟨h1, h2, h3, h4, h5, h6⟩ := h
  exact ⟨(am_get_ne (by decide)).trans h1, (am_get_ne (by decide)).trans h2, (am_get_ne (by decide)).trans h3, am_get_self h4, (am_get_ne (by decide)).trans h5, (am_get_ne (by decide)).trans h6⟩
theorem mGr_438 {S : am_S} {P : jGA} (h : mGr S P) (f : Nat → Int64) : mGr (am_upd S 438 (lA 60 f)) (P.1, P.2.1, P.2.2.1, P.2.2.2.1, f, P.2.2.2.2.2) := by
  obtain ⟨h1, h2, h3, h4, h5, h6⟩ := h
  exact ⟨(am_get_ne (by decide)).trans h1, (am_get_ne (by decide)).trans h2, (am_get_ne (by decide)).trans h3, (am_get_ne (by decide)).trans h4, am_get_self h5, (am_get_ne (by decide)).trans h6⟩
theorem mGr_439 {S : am_S} {P : jGA} (h : mGr S P) (f : Nat → Int64) : mGr (am_upd S 439 (lA 60 f)) (P.1, P.2.1, P.2.2.1, P.2.2.2.1, P.2.2.2.2.1, f) := by
  obtain ⟨h1, h2, h3, h4, h5, h6⟩ := h
  exact ⟨(am_get_ne (by decide)).trans h1, (am_get_ne (by decide)).trans h2, (am_get_ne (by decide)).trans h3, (am_get_ne (by decide)).trans h4, (am_get_ne (by decide)).trans h5, am_get_self h6⟩
def gOf (key : Int64) (gs : List jG) : List jG × Nat := match gix gs key with
  | none => (gs ++ [(key, 0, 0, 0, 0, 0)], gs.length)
  | some g => (gs, g)
theorem gOf_ent (key : Int64) (gs : List jG) : ∃ x, (gOf key gs).1[(gOf key gs).2]? = some x ∧ gEnt key gs = ((gOf key gs).1.set (gOf key gs).2 (x.1, x.2.1 + 1, x.2.2), (gOf key gs).2) ∧ ((gOf key gs).1 = gs ∨ (gOf key gs).1 = gs ++ [(key, 0, 0, 0, 0, 0)]) := by
  unfold gOf gEnt
  cases e : gix gs key with
  | none =>
    dsimp only
    refine ⟨(key, 0, 0, 0, 0, 0), ?_, ?_, Or.inr rfl⟩
    · rw [List.getElem?_append_right (Nat.le_refl _), Nat.sub_self]; rfl
    · rw [List.set_append_right _ _ (Nat.le_refl _), Nat.sub_self]; rfl
  | some g =>
    dsimp only
    obtain ⟨h1, h2, h3, h4⟩ := fsti_some e
    have hg : g < gs.length := by omega
    refine ⟨gs[g], List.getElem?_eq_getElem hg, ?_, Or.inl rfl⟩
    rw [List.getElem?_eq_getElem hg]
section MGROUP
variable {X : Nat × (Nat → Int32)} {d : Nat} {Q : am_R → Prop} {b : Nat → Nat} {v tot : Nat} {re : jRe} {M : jMT} {E : jME} {C : jMC}
theorem go_loop {S : am_S} {I : Nat → Int32} {st li key : Int64} {P : jGA} {gs : List jG} (h : am_get S 408 = some (moC I st li)) (h49 : I 49 = nI gs.length) (hG : mGr S P) (hD : gD P gs) (hl : gs.length ≤ 60) : ∀ (m i : Nat), i + m = gs.length → (∀ g, fsti (fun i => decide (gs[i]?.map (fun x => x.1) = some key)) m i = some g → Q (.inl (some (.int (nI g))), S)) → (fsti (fun i => decide (gs[i]?.map (fun x => x.1) = some key)) m i = none → wp X d 158 29 [some (.ref 408), some (.long key), none, some (.int (nI gs.length))] [] S Q) → wp X d 158 2 [some (.ref 408), some (.long key), none, some (.int (nI i))] [] S Q := by
  intro m
  induction m with
  | zero =>
    intro i him hyes hno
    obtain rfl : i = gs.length := by omega
    iterate 2 refine wp_step rfl rfl ?_
    refine wp_getg (v := (.int (nI gs.length))) rfl h (by decide) (congrArg Value.int h49) ?_
    refine wp_icmp rfl (fun c0 => ?_) (fun c0 => ?_)
    · replace c0 := n_ge_t (a := gs.length) (b := gs.length) (by omega) (by omega) c0
      exact hno rfl
    · replace c0 := n_ge_f (a := gs.length) (b := gs.length) (by omega) (by omega) c0
      omega
  | succ m ih =>
    intro i him hyes hno
    iterate 2 refine wp_step rfl rfl ?_
    refine wp_getg (v := (.int (nI gs.length))) rfl h (by decide) (congrArg Value.int h49) ?_
    refine wp_icmp rfl (fun c0 => ?_) (fun c0 => ?_)
    · replace c0 := n_ge_t (a := i) (b := gs.length) (by omega) (by omega) c0
      omega
    · replace c0 := n_ge_f (a := i) (b := gs.length) (by omega) (by omega) c0
      have hil : i < gs.length := by omega
      have hxi : gs[i]? = some gs[i] := List.getElem?_eq_getElem hil
      generalize gs[i] = x at hxi
      have hk := (hD i x hxi).1
      refine wp_step rfl rfl ?_
      refine wp_getg rfl h (by decide) rfl ?_
      refine wp_step rfl rfl ?_
      refine wp_lald rfl (by decide) hG.1 (am_in_nI (by omega) (by decide)) ?_
      rw [nI_clamp (by omega)]
      rw [hk]
      iterate 2 refine wp_step rfl rfl ?_
      refine wp_if rfl (fun c1 => ?_) (fun c1 => ?_)
      · replace c1 := l_ne_t c1
        iterate 2 refine wp_step rfl rfl ?_
        rw [show nI i + Int32.ofInt 1 = nI (i + 1) from nI_add i 1]
        have e9 : fsti (fun i => decide (gs[i]?.map (fun x => x.1) = some key)) (m + 1) i = fsti (fun i => decide (gs[i]?.map (fun x => x.1) = some key)) m (i + 1) := by
          conv => lhs; unfold fsti
          rw [if_neg (by rw [hxi]; intro h9; exact c1 (Option.some.inj (of_decide_eq_true h9)))]
        exact ih (i + 1) (by omega) (fun g hg => hyes g (e9.trans hg)) (fun hg => hno (e9.trans hg))
      · replace c1 := l_ne_f c1
        refine wp_step rfl rfl ?_
        refine wp_iret rfl rfl rfl (hyes i (by unfold fsti; rw [if_pos (by rw [hxi]; exact decide_eq_true (by rw [← c1]; rfl))]))
set_option maxHeartbeats 1000000 in
theorem go_29 {S : am_S} {I : Nat → Int32} {st li key : Int64} {P : jGA} {gs : List jG} (h : am_get S 408 = some (moC I st li)) (h49 : I 49 = nI gs.length) (hG : mGr S P) (hD : gD P gs) (hl : gs.length < 60) (hq : ∀ T J P', fr [408, 434, 435, 436, 437, 438, 439] S T → gf [49] I J → am_get T 408 = some (moC J st li) → J 49 = nI (gs.length + 1) → mGr T P' → gD P' (gs ++ [(key, 0, 0, 0, 0, 0)]) → Q (.inl (some (.int (nI gs.length))), T)) : wp X d 158 29 [some (.ref 408), some (.long key), none, some (.int (nI gs.length))] [] S Q := by
  refine wp_step rfl rfl ?_
  refine wp_getg (v := (.int (nI gs.length))) rfl h (by decide) (congrArg Value.int h49) ?_
  iterate 3 refine wp_step rfl rfl ?_
  refine wp_getg (v := (.int (nI gs.length))) rfl h (by decide) (congrArg Value.int h49) ?_
  iterate 2 refine wp_step rfl rfl ?_
  rw [show nI gs.length + Int32.ofInt 1 = nI (gs.length + 1) from nI_add gs.length 1]
  refine wp_putg rfl h (by decide) rfl rfl ?_
  rw [mkG_i rfl]
  have h_Sx1 : am_get (am_upd S 408 (moC (upd I 49 (nI (gs.length + 1))) st li)) 408 = some (moC (upd I 49 (nI (gs.length + 1))) st li) := am_get_self h
  have hf_Sx1 : fr [408] S (am_upd S 408 (moC (upd I 49 (nI (gs.length + 1))) st li)) := fr_up (by simp)
  generalize am_upd S 408 (moC (upd I 49 (nI (gs.length + 1))) st li) = Sx1 at h_Sx1 hf_Sx1 ⊢
  have hg_J : gf [49] I (upd I 49 (nI (gs.length + 1))) := gf_up (gf_refl _ _) (by simp)
  have J_49 : (upd I 49 (nI (gs.length + 1))) 49 = nI (gs.length + 1) := pk_us
  have a_J := h_Sx1
  have hf_J := hf_Sx1
  clear h_Sx1 hf_Sx1
  generalize upd I 49 (nI (gs.length + 1)) = J at a_J hg_J J_49
  show wp X d 158 44 [some (.ref 408), some (.long key), none, some (.int (nI gs.length))] [] Sx1 Q
  have hG0 := mGr_fr hG hf_J (fun j hj => by simp only [List.mem_cons, List.not_mem_nil, or_false] at hj; omega)
  have hf0 : fr [408, 434, 435, 436, 437, 438, 439] S Sx1 := fr_mono hf_J (fun j hj => by simp only [List.mem_cons, List.not_mem_nil, or_false] at hj ⊢; omega)
  refine wp_step rfl rfl ?_
  refine wp_getg rfl a_J (by decide) rfl ?_
  iterate 2 refine wp_step rfl rfl ?_
  refine wp_last rfl hG0.1 (am_in_nI (by omega) (by decide)) ?_
  rw [nI_clamp (by omega)]
  show wp X d 158 51 [some (.ref 408), some (.long key), none, some (.int (nI gs.length))] [] (am_upd Sx1 434 (lA 60 (vp_updL P.1 gs.length key))) Q
  have hG1 := mGr_434 hG0 (vp_updL P.1 gs.length key)
  have a_1 : am_get (am_upd Sx1 434 (lA 60 (vp_updL P.1 gs.length key))) 408 = some (moC J st li) := (am_get_ne (by decide)).trans a_J
  have hf1 : fr [408, 434, 435, 436, 437, 438, 439] S (am_upd Sx1 434 (lA 60 (vp_updL P.1 gs.length key))) := fr_trans hf0 (fr_up (by simp))
  generalize am_upd Sx1 434 (lA 60 (vp_updL P.1 gs.length key)) = Sg0 at hG1 a_1 hf1 ⊢
  refine wp_step rfl rfl ?_
  refine wp_getg rfl a_1 (by decide) rfl ?_
  iterate 2 refine wp_step rfl rfl ?_
  refine wp_ast rfl (Or.inl ⟨rfl, rfl⟩) hG1.2.1 (am_in_nI (by omega) (by decide)) ?_
  rw [nI_clamp (by omega)]
  rw [show vp_nar (am_ty 0) (Int32.ofInt 0) = Int32.ofInt 0 from rfl]
  show wp X d 158 58 [some (.ref 408), some (.long key), none, some (.int (nI gs.length))] [] (am_upd Sg0 435 (iA 60 (upd P.2.1 gs.length (Int32.ofInt 0)))) Q
  have hG2 := mGr_435 hG1 (upd P.2.1 gs.length (Int32.ofInt 0))
  dsimp only at hG2
  have a_2 : am_get (am_upd Sg0 435 (iA 60 (upd P.2.1 gs.length (Int32.ofInt 0)))) 408 = some (moC J st li) := (am_get_ne (by decide)).trans a_1
  have hf2 : fr [408, 434, 435, 436, 437, 438, 439] S (am_upd Sg0 435 (iA 60 (upd P.2.1 gs.length (Int32.ofInt 0)))) := fr_trans hf1 (fr_up (by simp))
  generalize am_upd Sg0 435 (iA 60 (upd P.2.1 gs.length (Int32.ofInt 0))) = Sg1 at hG2 a_2 hf2 ⊢
  clear hG1
  refine wp_step rfl rfl ?_
  refine wp_getg rfl a_2 (by decide) rfl ?_
  iterate 2 refine wp_step rfl rfl ?_
  refine wp_ast rfl (Or.inl ⟨rfl, rfl⟩) hG2.2.2.1 (am_in_nI (by omega) (by decide)) ?_
  rw [nI_clamp (by omega)]
  rw [show vp_nar (am_ty 0) (Int32.ofInt 0) = Int32.ofInt 0 from rfl]
  show wp X d 158 65 [some (.ref 408), some (.long key), none, some (.int (nI gs.length))] [] (am_upd Sg1 436 (iA 60 (upd P.2.2.1 gs.length (Int32.ofInt 0)))) Q
  have hG3 := mGr_436 hG2 (upd P.2.2.1 gs.length (Int32.ofInt 0))
  dsimp only at hG3
  have a_3 : am_get (am_upd Sg1 436 (iA 60 (upd P.2.2.1 gs.length (Int32.ofInt 0)))) 408 = some (moC J st li) := (am_get_ne (by decide)).trans a_2
  have hf3 : fr [408, 434, 435, 436, 437, 438, 439] S (am_upd Sg1 436 (iA 60 (upd P.2.2.1 gs.length (Int32.ofInt 0)))) := fr_trans hf2 (fr_up (by simp))
  generalize am_upd Sg1 436 (iA 60 (upd P.2.2.1 gs.length (Int32.ofInt 0))) = Sg2 at hG3 a_3 hf3 ⊢
  clear hG2
  refine wp_step rfl rfl ?_
  refine wp_getg rfl a_3 (by decide) rfl ?_
  iterate 2 refine wp_step rfl rfl ?_
  refine wp_last rfl hG3.2.2.2.1 (am_in_nI (by omega) (by decide)) ?_
  rw [nI_clamp (by omega)]
  show wp X d 158 72 [some (.ref 408), some (.long key), none, some (.int (nI gs.length))] [] (am_upd Sg2 437 (lA 60 (vp_updL P.2.2.2.1 gs.length 0))) Q
  have hG4 := mGr_437 hG3 (vp_updL P.2.2.2.1 gs.length 0)
  dsimp only at hG4
  have a_4 : am_get (am_upd Sg2 437 (lA 60 (vp_updL P.2.2.2.1 gs.length 0))) 408 = some (moC J st li) := (am_get_ne (by decide)).trans a_3
  have hf4 : fr [408, 434, 435, 436, 437, 438, 439] S (am_upd Sg2 437 (lA 60 (vp_updL P.2.2.2.1 gs.length 0))) := fr_trans hf3 (fr_up (by simp))
  generalize am_upd Sg2 437 (lA 60 (vp_updL P.2.2.2.1 gs.length 0)) = Sg3 at hG4 a_4 hf4 ⊢
  clear hG3
  refine wp_step rfl rfl ?_
  refine wp_getg rfl a_4 (by decide) rfl ?_
  iterate 2 refine wp_step rfl rfl ?_
  refine wp_last rfl hG4.2.2.2.2.1 (am_in_nI (by omega) (by decide)) ?_
  rw [nI_clamp (by omega)]
  show wp X d 158 79 [some (.ref 408), some (.long key), none, some (.int (nI gs.length))] [] (am_upd Sg3 438 (lA 60 (vp_updL P.2.2.2.2.1 gs.length 0))) Q
  have hG5 := mGr_438 hG4 (vp_updL P.2.2.2.2.1 gs.length 0)
  dsimp only at hG5
  have a_5 : am_get (am_upd Sg3 438 (lA 60 (vp_updL P.2.2.2.2.1 gs.length 0))) 408 = some (moC J st li) := (am_get_ne (by decide)).trans a_4
  have hf5 : fr [408, 434, 435, 436, 437, 438, 439] S (am_upd Sg3 438 (lA 60 (vp_updL P.2.2.2.2.1 gs.length 0))) := fr_trans hf4 (fr_up (by simp))
  generalize am_upd Sg3 438 (lA 60 (vp_updL P.2.2.2.2.1 gs.length 0)) = Sg4 at hG5 a_5 hf5 ⊢
  clear hG4
  refine wp_step rfl rfl ?_
  refine wp_getg rfl a_5 (by decide) rfl ?_
  iterate 2 refine wp_step rfl rfl ?_
  refine wp_last rfl hG5.2.2.2.2.2 (am_in_nI (by omega) (by decide)) ?_
  rw [nI_clamp (by omega)]
  show wp X d 158 86 [some (.ref 408), some (.long key), none, some (.int (nI gs.length))] [] (am_upd Sg4 439 (lA 60 (vp_updL P.2.2.2.2.2 gs.length 0))) Q
  have hG6 := mGr_439 hG5 (vp_updL P.2.2.2.2.2 gs.length 0)
  dsimp only at hG6
  have a_6 : am_get (am_upd Sg4 439 (lA 60 (vp_updL P.2.2.2.2.2 gs.length 0))) 408 = some (moC J st li) := (am_get_ne (by decide)).trans a_5
  have hf6 : fr [408, 434, 435, 436, 437, 438, 439] S (am_upd Sg4 439 (lA 60 (vp_updL P.2.2.2.2.2 gs.length 0))) := fr_trans hf5 (fr_up (by simp))
  generalize am_upd Sg4 439 (lA 60 (vp_updL P.2.2.2.2.2 gs.length 0)) = Sg5 at hG6 a_6 hf6 ⊢
  clear hG5
  refine wp_step rfl rfl ?_
  refine wp_iret rfl rfl rfl (hq Sg5 J _ hf6 hg_J a_6 J_49 hG6 ?_)
  intro i x hx
  by_cases c : i < gs.length
  · rw [List.getElem?_append_left c] at hx
    obtain ⟨d1, d2, d3, d4, d5, d6⟩ := hD i x hx
    exact ⟨(pk_uLn (by omega)).trans d1, (pk_un (by omega)).trans d2, (pk_un (by omega)).trans d3, (pk_uLn (by omega)).trans d4, (pk_uLn (by omega)).trans d5, (pk_uLn (by omega)).trans d6⟩
  · have hj2 := (List.getElem?_eq_some_iff.mp hx).1
    simp at hj2
    obtain rfl : i = gs.length := by omega
    rw [List.getElem?_append_right (Nat.le_refl _), Nat.sub_self] at hx
    cases hx
    exact ⟨pk_uLs, pk_us, pk_us, pk_uLs, pk_uLs, pk_uLs⟩
theorem q_mgroupOf {S : am_S} {I : Nat → Int32} {st li key : Int64} {P : jGA} {gs : List jG} (h : am_get S 408 = some (moC I st li)) (h49 : I 49 = nI gs.length) (hG : mGr S P) (hD : gD P gs) (hl : gs.length < 60) (hq : ∀ T J P', fr [408, 434, 435, 436, 437, 438, 439] S T → gf [49] I J → am_get T 408 = some (moC J st li) → J 49 = nI (gOf key gs).1.length → mGr T P' → gD P' (gOf key gs).1 → Q (.inl (some (.int (nI (gOf key gs).2))), T)) : ev X (d + 1) 158 [.ref 408, .long key] S Q := by
  refine ev_wp (L0 := [some (.ref 408), some (.long key), none, none]) (Nat.le_of_ble_eq_true rfl) rfl ?_
  iterate 2 refine wp_step rfl rfl ?_
  show wp X d 158 2 [some (.ref 408), some (.long key), none, some (.int (nI 0))] [] S Q
  refine go_loop h h49 hG hD (by omega) gs.length 0 (by omega) (fun g hg => ?_) (fun hg => ?_)
  · have e : gOf key gs = (gs, g) := by unfold gOf gix; rw [hg]
    have hq0 := hq S I P (fr_refl _ _) (gf_refl _ _) h
    rw [e] at hq0
    exact hq0 h49 hG hD
  · have e : gOf key gs = (gs ++ [(key, 0, 0, 0, 0, 0)], gs.length) := by unfold gOf gix; rw [hg]
    rw [e] at hq
    exact go_29 h h49 hG hD hl (fun T J P' a1 a2 a3 a4 a5 a6 => hq T J P' a1 a2 a3 (by rw [List.length_append]; exact a4) a5 a6)
set_option maxHeartbeats 1000000 in
theorem q_mjoin {S : am_S} {I : Nat → Int32} {st li w : Int64} {P : jGA} {gs : List jG} {g : Nat} {x : jG} (h : am_get S 408 = some (moC I st li)) (hG : mGr S P) (hD : gD P gs) (hl : gs.length ≤ 60) (hx : gs[g]? = some x) (hn : x.2.2.1 < 2 ^ 31 - 1) (hq : ∀ T P', fr [408, 434, 435, 436, 437, 438, 439] S T → am_get T 408 = some (moC I st li) → mGr T P' → gD P' (gAdd g w gs) → Q (.inl none, T)) : ev X (d + 1) 160 [.ref 408, .int (nI g), .long w] S Q := by
  refine ev_wp (L0 := [some (.ref 408), some (.int (nI g)), some (.long w), none, none]) (Nat.le_of_ble_eq_true rfl) rfl ?_
  obtain ⟨d1, d2, d3, d4, d5, d6⟩ := hD g x hx
  have eA : gAdd g w gs = gs.set g (gAdd1 w x) := by unfold gAdd; rw [hx]
  have hgl := (List.getElem?_eq_some_iff.mp hx).1
  refine wp_step rfl rfl ?_
  refine wp_getg rfl h (by decide) rfl ?_
  refine wp_step rfl rfl ?_
  refine wp_ald rfl (Or.inl ⟨rfl, rfl⟩) (by decide) hG.2.2.1 (am_in_nI (by omega) (by decide)) ?_
  rw [nI_clamp (by omega)]
  rw [d3]
  have go : ∀ fb : Bool, fb = decide (x.2.2.1 = 0) → wp X d 160 14 [some (.ref 408), some (.int (nI g)), some (.long w), none, none] [.int (bI fb)] S Q := by
    intro fb hfb
    refine wp_step rfl rfl ?_
    show wp X d 160 16 [some (.ref 408), some (.int (nI g)), some (.long w), none, some (.int (bI fb))] [] S Q
    refine wp_step rfl rfl ?_
    refine wp_getg rfl h (by decide) rfl ?_
    iterate 2 refine wp_step rfl rfl ?_
    refine wp_ald rfl (Or.inl ⟨rfl, rfl⟩) (by decide) hG.2.2.1 (am_in_nI (by omega) (by decide)) ?_
    rw [nI_clamp (by omega)]
    rw [d3]
    iterate 2 refine wp_step rfl rfl ?_
    rw [show nI x.2.2.1 + Int32.ofInt 1 = nI (x.2.2.1 + 1) from nI_add x.2.2.1 1]
    refine wp_ast rfl (Or.inl ⟨rfl, rfl⟩) hG.2.2.1 (am_in_nI (by omega) (by decide)) ?_
    rw [nI_clamp (by omega)]
    rw [show vp_nar (am_ty 0) (nI (x.2.2.1 + 1)) = nI (x.2.2.1 + 1) from rfl]
    have hG1 := mGr_436 hG (upd P.2.2.1 g (nI (x.2.2.1 + 1)))
    have a_1 : am_get (am_upd S 436 (iA 60 (upd P.2.2.1 g (nI (x.2.2.1 + 1))))) 408 = some (moC I st li) := (am_get_ne (by decide)).trans h
    have hf1 : fr [408, 434, 435, 436, 437, 438, 439] S (am_upd S 436 (iA 60 (upd P.2.2.1 g (nI (x.2.2.1 + 1))))) := fr_up (by simp)
    generalize am_upd S 436 (iA 60 (upd P.2.2.1 g (nI (x.2.2.1 + 1)))) = S1 at hG1 a_1 hf1 ⊢
    refine wp_step rfl rfl ?_
    refine wp_getg rfl a_1 (by decide) rfl ?_
    iterate 2 refine wp_step rfl rfl ?_
    refine wp_lald rfl (by decide) hG1.2.2.2.1 (am_in_nI (by omega) (by decide)) ?_
    rw [nI_clamp (by omega)]
    rw [d4]
    iterate 2 refine wp_step rfl rfl ?_
    refine wp_last rfl hG1.2.2.2.1 (am_in_nI (by omega) (by decide)) ?_
    rw [nI_clamp (by omega)]
    have hG2 := mGr_437 hG1 (vp_updL P.2.2.2.1 g (x.2.2.2.1 + w))
    dsimp only at hG2
    have a_2 : am_get (am_upd S1 437 (lA 60 (vp_updL P.2.2.2.1 g (x.2.2.2.1 + w)))) 408 = some (moC I st li) := (am_get_ne (by decide)).trans a_1
    have hf2 : fr [408, 434, 435, 436, 437, 438, 439] S (am_upd S1 437 (lA 60 (vp_updL P.2.2.2.1 g (x.2.2.2.1 + w)))) := fr_trans hf1 (fr_up (by simp))
    generalize am_upd S1 437 (lA 60 (vp_updL P.2.2.2.1 g (x.2.2.2.1 + w))) = S2 at hG2 a_2 hf2 ⊢
    refine wp_step rfl rfl ?_
    refine wp_getg rfl a_2 (by decide) rfl ?_
    iterate 2 refine wp_step rfl rfl ?_
    have k67 : wp X d 160 67 [some (.ref 408), some (.int (nI g)), some (.long w), none, some (.int (bI fb))] [.long (if x.2.2.1 = 0 then w else if w < x.2.2.2.2.1 then w else x.2.2.2.2.1), .int (nI g), .ref 438] S2 Q := by
      refine wp_last rfl hG2.2.2.2.2.1 (am_in_nI (by omega) (by decide)) ?_
      rw [nI_clamp (by omega)]
      have hG3 := mGr_438 hG2 (vp_updL P.2.2.2.2.1 g (if x.2.2.1 = 0 then w else if w < x.2.2.2.2.1 then w else x.2.2.2.2.1))
      dsimp only at hG3
      have a_3 : am_get (am_upd S2 438 (lA 60 (vp_updL P.2.2.2.2.1 g (if x.2.2.1 = 0 then w else if w < x.2.2.2.2.1 then w else x.2.2.2.2.1)))) 408 = some (moC I st li) := (am_get_ne (by decide)).trans a_2
      have hf3 : fr [408, 434, 435, 436, 437, 438, 439] S (am_upd S2 438 (lA 60 (vp_updL P.2.2.2.2.1 g (if x.2.2.1 = 0 then w else if w < x.2.2.2.2.1 then w else x.2.2.2.2.1)))) := fr_trans hf2 (fr_up (by simp))
      generalize am_upd S2 438 (lA 60 (vp_updL P.2.2.2.2.1 g (if x.2.2.1 = 0 then w else if w < x.2.2.2.2.1 then w else x.2.2.2.2.1))) = S3 at hG3 a_3 hf3 ⊢
      refine wp_step rfl rfl ?_
      refine wp_getg rfl a_3 (by decide) rfl ?_
      iterate 2 refine wp_step rfl rfl ?_
      have k99 : wp X d 160 99 [some (.ref 408), some (.int (nI g)), some (.long w), none, some (.int (bI fb))] [.long (if x.2.2.1 = 0 then w else if x.2.2.2.2.2 < w then w else x.2.2.2.2.2), .int (nI g), .ref 439] S3 Q := by
        refine wp_last rfl hG3.2.2.2.2.2 (am_in_nI (by omega) (by decide)) ?_
        rw [nI_clamp (by omega)]
        have hG4 := mGr_439 hG3 (vp_updL P.2.2.2.2.2 g (if x.2.2.1 = 0 then w else if x.2.2.2.2.2 < w then w else x.2.2.2.2.2))
        dsimp only at hG4
        have a_4 : am_get (am_upd S3 439 (lA 60 (vp_updL P.2.2.2.2.2 g (if x.2.2.1 = 0 then w else if x.2.2.2.2.2 < w then w else x.2.2.2.2.2)))) 408 = some (moC I st li) := (am_get_ne (by decide)).trans a_3
        have hf4 : fr [408, 434, 435, 436, 437, 438, 439] S (am_upd S3 439 (lA 60 (vp_updL P.2.2.2.2.2 g (if x.2.2.1 = 0 then w else if x.2.2.2.2.2 < w then w else x.2.2.2.2.2)))) := fr_trans hf3 (fr_up (by simp))
        generalize am_upd S3 439 (lA 60 (vp_updL P.2.2.2.2.2 g (if x.2.2.1 = 0 then w else if x.2.2.2.2.2 < w then w else x.2.2.2.2.2))) = S4 at hG4 a_4 hf4 ⊢
        refine wp_vret rfl rfl (hq S4 _ hf4 a_4 hG4 ?_)
        rw [eA]
        intro i z hz
        rcases at_put hz with ⟨rfl, rfl⟩ | ⟨hne, hz2⟩
        · exact ⟨d1, d2, pk_us, pk_uLs, pk_uLs, pk_uLs⟩
        · obtain ⟨c1, c2, c3, c4, c5, c6⟩ := hD i z hz2
          exact ⟨c1, c2, (pk_un hne).trans c3, (pk_uLn hne).trans c4, (pk_uLn hne).trans c5, (pk_uLn hne).trans c6⟩
      by_cases h0 : x.2.2.1 = 0
      · rw [decide_eq_true h0] at hfb
        subst hfb
        rw [if_pos h0] at k99
        refine wp_if_t rfl rfl ?_
        iterate 2 refine wp_step rfl rfl ?_
        exact k99
      · rw [decide_eq_false h0] at hfb
        subst hfb
        rw [if_neg h0] at k99
        refine wp_if_f rfl rfl ?_
        iterate 2 refine wp_step rfl rfl ?_
        refine wp_getg rfl a_3 (by decide) rfl ?_
        refine wp_step rfl rfl ?_
        refine wp_lald rfl (by decide) hG3.2.2.2.2.2 (am_in_nI (by omega) (by decide)) ?_
        rw [nI_clamp (by omega)]
        rw [d6]
        refine wp_step rfl rfl ?_
        refine wp_if rfl (fun c0 => ?_) (fun c0 => ?_)
        · replace c0 := l_le_t c0
          rw [if_neg (Int64.not_lt.mpr c0)] at k99
          refine wp_step rfl rfl ?_
          refine wp_getg rfl a_3 (by decide) rfl ?_
          refine wp_step rfl rfl ?_
          refine wp_lald rfl (by decide) hG3.2.2.2.2.2 (am_in_nI (by omega) (by decide)) ?_
          rw [nI_clamp (by omega)]
          rw [d6]
          exact k99
        · replace c0 := l_le_f c0
          rw [if_pos (Int64.not_le.mp c0)] at k99
          iterate 2 refine wp_step rfl rfl ?_
          exact k99
    by_cases h0 : x.2.2.1 = 0
    · rw [decide_eq_true h0] at hfb
      subst hfb
      rw [if_pos h0] at k67
      refine wp_if_t rfl rfl ?_
      iterate 2 refine wp_step rfl rfl ?_
      exact k67
    · rw [decide_eq_false h0] at hfb
      subst hfb
      rw [if_neg h0] at k67
      refine wp_if_f rfl rfl ?_
      iterate 2 refine wp_step rfl rfl ?_
      refine wp_getg rfl a_2 (by decide) rfl ?_
      refine wp_step rfl rfl ?_
      refine wp_lald rfl (by decide) hG2.2.2.2.2.1 (am_in_nI (by omega) (by decide)) ?_
      rw [nI_clamp (by omega)]
      rw [d5]
      refine wp_step rfl rfl ?_
      refine wp_if rfl (fun c0 => ?_) (fun c0 => ?_)
      · replace c0 := l_ge_t c0
        rw [if_neg (Int64.not_lt.mpr c0)] at k67
        refine wp_step rfl rfl ?_
        refine wp_getg rfl a_2 (by decide) rfl ?_
        refine wp_step rfl rfl ?_
        refine wp_lald rfl (by decide) hG2.2.2.2.2.1 (am_in_nI (by omega) (by decide)) ?_
        rw [nI_clamp (by omega)]
        rw [d5]
        exact k67
      · replace c0 := l_ge_f c0
        rw [if_pos (Int64.not_le.mp c0)] at k67
        iterate 2 refine wp_step rfl rfl ?_
        exact k67
  refine wp_if rfl (fun c0 => ?_) (fun c0 => ?_)
  · replace c0 := z_ne_t (a := x.2.2.1) (by omega) c0
    refine wp_step rfl rfl ?_
    exact go false (decide_eq_false c0).symm
  · replace c0 := z_ne_f (a := x.2.2.1) (by omega) c0
    iterate 2 refine wp_step rfl rfl ?_
    exact go true (decide_eq_true c0).symm
end MGROUP
