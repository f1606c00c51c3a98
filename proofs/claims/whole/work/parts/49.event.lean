/-! Recording.readEvent -/
def reG (R : Nat) (cc ec : Int32) : Nat → Value := fun k => match k with
  | 0 => .int cc
  | 1 => .ref (R + 1)
  | 2 => .ref (R + 2)
  | 3 => .int ec
  | 4 => .ref (R + 8)
  | 5 => .ref (R + 9)
  | 6 => .ref (R + 10)
  | _ => .null
abbrev reC (R : Nat) (cc ec : Int32) : am_C := ob 4 7 (reG R cc ec)
theorem reG_0 {R : Nat} {cc ec z : Int32} : va_up (reG R cc ec) 0 (.int z) = reG R z ec := by
  funext k
  match k with
  | 0 => rfl
  | 1 => rfl
  | 2 => rfl
  | 3 => rfl
  | 4 => rfl
  | 5 => rfl
  | 6 => rfl
  | k + 7 => simp [va_up, reG]
theorem reG_3 {R : Nat} {cc ec z : Int32} : va_up (reG R cc ec) 3 (.int z) = reG R cc z := by
  funext k
  match k with
  | 0 => rfl
  | 1 => rfl
  | 2 => rfl
  | 3 => rfl
  | 4 => rfl
  | 5 => rfl
  | 6 => rfl
  | k + 7 => simp [va_up, reG]
abbrev jEA : Type := (Nat → Int32) × (Nat → Int64) × (Nat → Int32)
def reS (S : am_S) (R ci ne : Nat) (E : jEA) : Prop := am_get S R = some (reC R (nI ci) (nI ne)) ∧ am_get S (R + 8) = some (iA 60 E.1) ∧ am_get S (R + 9) = some (lA 60 E.2.1) ∧ am_get S (R + 10) = some (iA 60 E.2.2)
def reSh (S : am_S) (R : Nat) : Prop := ∃ ci ne E, reS S R ci ne E
theorem reS_fr {js : List Nat} {S T : am_S} {R ci ne : Nat} {E : jEA} (h : reS S R ci ne E) (hf : fr js S T) (hj : ∀ j, j ∈ js → j ≠ R ∧ j ≠ R + 8 ∧ j ≠ R + 9 ∧ j ≠ R + 10) : reS T R ci ne E := by
  obtain ⟨h0, h1, h2, h3⟩ := h
  exact ⟨by rw [fr_get hf (fun h9 => (hj _ h9).1 rfl)]; exact h0, by rw [fr_get hf (fun h9 => (hj _ h9).2.1 rfl)]; exact h1, by rw [fr_get hf (fun h9 => (hj _ h9).2.2.1 rfl)]; exact h2, by rw [fr_get hf (fun h9 => (hj _ h9).2.2.2 rfl)]; exact h3⟩
theorem reS_8 {S : am_S} {R ci ne : Nat} {E : jEA} (h : reS S R ci ne E) (f : Nat → Int32) : reS (am_upd S (R + 8) (iA 60 f)) R ci ne (f, E.2.1, E.2.2) :=
  ⟨by rw [am_get_ne (by omega)]; exact h.1, am_get_self h.2.1, by rw [am_get_ne (by omega)]; exact h.2.2.1, by rw [am_get_ne (by omega)]; exact h.2.2.2⟩
theorem reS_9 {S : am_S} {R ci ne : Nat} {E : jEA} (h : reS S R ci ne E) (f : Nat → Int64) : reS (am_upd S (R + 9) (lA 60 f)) R ci ne (E.1, f, E.2.2) :=
  ⟨by rw [am_get_ne (by omega)]; exact h.1, by rw [am_get_ne (by omega)]; exact h.2.1, am_get_self h.2.2.1, by rw [am_get_ne (by omega)]; exact h.2.2.2⟩
theorem reS_10 {S : am_S} {R ci ne : Nat} {E : jEA} (h : reS S R ci ne E) (f : Nat → Int32) : reS (am_upd S (R + 10) (iA 60 f)) R ci ne (E.1, E.2.1, f) :=
  ⟨by rw [am_get_ne (by omega)]; exact h.1, by rw [am_get_ne (by omega)]; exact h.2.1, by rw [am_get_ne (by omega)]; exact h.2.2.1, am_get_self h.2.2.2⟩
theorem reS_0 {S : am_S} {R ci ne : Nat} {E : jEA} (h : reS S R ci ne E) (ci' ne' : Nat) : reS (am_upd S R (reC R (nI ci') (nI ne'))) R ci' ne' E :=
  ⟨am_get_self h.1, by rw [am_get_ne (by omega)]; exact h.2.1, by rw [am_get_ne (by omega)]; exact h.2.2.1, by rw [am_get_ne (by omega)]; exact h.2.2.2⟩
def evD (E : jEA) (evs : List jEv) : Prop := ∀ (i : Nat) (y : jEv), evs[i]? = some y → E.1 i = nI y.1 ∧ E.2.1 i = y.2.2.1 ∧ E.2.2 i = nI y.2.2.2.2.2
theorem evD_add {E : jEA} {evs : List jEv} (h : evD E evs) (y : jEv) : evD (upd E.1 evs.length (nI y.1), vp_updL E.2.1 evs.length y.2.2.1, upd E.2.2 evs.length (nI y.2.2.2.2.2)) (evs ++ [y]) := by
  intro i x hx
  rcases at_app hx with ⟨h1, h2⟩ | ⟨h1, h2⟩
  · obtain ⟨a1, a2, a3⟩ := h i x h2
    exact ⟨(pk_un (by omega)).trans a1, (pk_uLn (by omega)).trans a2, (pk_un (by omega)).trans a3⟩
  · subst h1; subst h2; exact ⟨pk_us, pk_uLs, pk_us⟩
section EVENT
variable {X : Nat × (Nat → Int32)} {d : Nat} {Q : am_R → Prop} {b : Nat → Nat} {tot lim idp R c : Nat} {τ : jTT}
set_option maxHeartbeats 2000000 in
theorem q_readEvent {q p n l id ci ne : Nat} {A : jVA} {E : jEA} {S : am_S} (hb : ∀ j, b j < 256) (hwf : wfT τ) (hfh : fht τ) (hRc : R + 11 ≤ c) (hR : 11 ≤ R) (hc9 : c < 800000) (hid : id < 2 ^ 31) (hk : sK S b tot p lim idp) (hv : vS S (R + 2) n l A) (hO : ckO S c τ) (hr : reS S R ci ne E) (hne : ne ≤ 60) (hn : n ≤ 1201) (hl : l ≤ p)
    (hret : ∀ tk p3 p' n' l' A' T, rdV τ b lim idp q p n ne id = .inr (tk, p3, p', n') → fr [1, R, R + 2, R + 2 + 1, R + 2 + 2, R + 2 + 3, R + 2 + 4, R + 2 + 5, R + 8, R + 9, R + 10] S T → sK T b tot p' lim idp → vS T (R + 2) n' l' A' → agr A A' n l → l' ≤ p' → DV τ b lim A' 21 id 0 p3 n l p' n' l' → isKd τ id 1 → num9 (Bn b) lim p = some (tk, p3) → reS T R ci (ne + 1) (upd E.1 ne (nI ci), vp_updL E.2.1 ne tk, upd E.2.2 ne (nI n)) → Q (.inl none, T))
    (hthr : ∀ k pl T, rdV τ b lim idp q p n ne id = .inl (k, pl) → fr [1, R, R + 2, R + 2 + 1, R + 2 + 2, R + 2 + 3, R + 2 + 4, R + 2 + 5, R + 8, R + 9, R + 10] S T → sX T tot k pl → vSx T (R + 2) → reSh T R → Q (.inr IAE, am_thrown T)) :
    ev X (d + 27) 36 [.ref R, .ref 1, .ref c, .int (nI id), .int (nI q)] S Q := by
  refine ev_wp (L0 := [some (.ref R), some (.ref 1), some (.ref c), some (.int (nI id)), some (.int (nI q))]) (Nat.le_of_ble_eq_true rfl) rfl ?_
  have hk9 := hk.2.2
  obtain ⟨⟨st, en, tk0, fq, nc9, g0⟩, gR, gT⟩ := _root_.id hO
  iterate 2 refine wp_step rfl rfl ?_
  refine wp_c0 rfl rfl (by decide) rfl (recv_ok g0 rfl) rfl (q_isForEvents hwf hO (by omega) hid (fun c5 => ?_) (fun c5 => ?_))
  · refine wp_if_t rfl rfl ?_
    have hkt : ¬ kdb τ id 1 = false := by rw [kdb_iff.mpr c5]; decide
    refine wp_step rfl rfl ?_
    refine wp_getg rfl hr.1 (by decide) rfl ?_
    refine wp_step rfl rfl ?_
    refine wp_icmp rfl (fun c0 => ?_) (fun c0 => ?_)
    · replace c0 := n_ne_t (a := ne) (b := 60) (by omega) (by omega) c0
      refine wp_step rfl rfl ?_
      refine wp_getg rfl hr.1 (by decide) rfl ?_
      refine wp_step rfl rfl ?_
      refine wp_getg rfl hr.1 (by decide) rfl ?_
      refine wp_step rfl rfl ?_
      refine wp_getg rfl hr.1 (by decide) rfl ?_
      refine wp_ast rfl (Or.inl ⟨rfl, rfl⟩) hr.2.1 (am_in_nI (by omega) (by decide)) ?_
      rw [nI_clamp (by omega)]
      rw [show vp_nar (am_ty 0) (nI ci) = nI ci from rfl]
      have hr1 := reS_8 hr (upd E.1 ne (nI ci))
      have hf1 : fr [R + 8] S (am_upd S (R + 8) (iA 60 (upd E.1 ne (nI ci)))) := fr_up (by simp)
      generalize am_upd S (R + 8) (iA 60 (upd E.1 ne (nI ci))) = S1 at hr1 hf1 ⊢
      have hk1 := sK_fr hk hf1 (by simp only [List.mem_cons, List.not_mem_nil, or_false, List.mem_range'_1]; omega) (by simp only [List.mem_cons, List.not_mem_nil, or_false, List.mem_range'_1]; omega)
      have hv1 := vS_fr hv hf1 (fun j hj => by simp only [List.mem_cons, List.not_mem_nil, or_false] at hj; omega)
      have hO1 := ckO_fr hO hwf.1 hf1 (fun j hj => by simp only [List.mem_cons, List.not_mem_nil, or_false] at hj; omega)
      refine wp_step rfl rfl ?_
      refine wp_getg rfl hr1.1 (by decide) rfl ?_
      refine wp_step rfl rfl ?_
      refine wp_getg rfl hr1.1 (by decide) rfl ?_
      refine wp_step rfl rfl ?_
      refine wp_c0 rfl rfl (by decide) rfl (recv_ok hk1.1 rfl) rfl (q_number hk1 (fun tk p3 T ec hf2 hk2 => ?_) (fun T ec hf2 hx2 => ?_))
      · have hnp := num9_pos ec
        have hr2 := reS_fr hr1 hf2 (fun j hj => by simp only [List.mem_cons, List.not_mem_nil, or_false] at hj; omega)
        have hv2 := vS_fr hv1 hf2 (fun j hj => by simp only [List.mem_cons, List.not_mem_nil, or_false] at hj; omega)
        have hO2 := ckO_fr hO1 hwf.1 hf2 (fun j hj => by simp only [List.mem_cons, List.not_mem_nil, or_false] at hj; omega)
        refine wp_last rfl hr2.2.2.1 (am_in_nI (by omega) (by decide)) ?_
        rw [nI_clamp (by omega)]
        have hr3 := reS_9 hr2 (vp_updL E.2.1 ne tk)
        have hf3 : fr [R + 9] T (am_upd T (R + 9) (lA 60 (vp_updL E.2.1 ne tk))) := fr_up (by simp)
        generalize am_upd T (R + 9) (lA 60 (vp_updL E.2.1 ne tk)) = S3 at hr3 hf3 ⊢
        have hk3 := sK_fr hk2 hf3 (by simp only [List.mem_cons, List.not_mem_nil, or_false, List.mem_range'_1]; omega) (by simp only [List.mem_cons, List.not_mem_nil, or_false, List.mem_range'_1]; omega)
        have hv3 := vS_fr hv2 hf3 (fun j hj => by simp only [List.mem_cons, List.not_mem_nil, or_false] at hj; omega)
        have hO3 := ckO_fr hO2 hwf.1 hf3 (fun j hj => by simp only [List.mem_cons, List.not_mem_nil, or_false] at hj; omega)
        have hfA : fr [1, R, R + 2, R + 2 + 1, R + 2 + 2, R + 2 + 3, R + 2 + 4, R + 2 + 5, R + 8, R + 9, R + 10] S S3 := fr_trans (fr_mono hf1 (fun j hj => by simp only [List.mem_cons, List.not_mem_nil, or_false, List.mem_range'_1] at hj ⊢; omega)) (fr_trans (fr_mono hf2 (fun j hj => by simp only [List.mem_cons, List.not_mem_nil, or_false, List.mem_range'_1] at hj ⊢; omega)) (fr_mono hf3 (fun j hj => by simp only [List.mem_cons, List.not_mem_nil, or_false, List.mem_range'_1] at hj ⊢; omega)))
        refine wp_step rfl rfl ?_
        refine wp_getg rfl hr3.1 (by decide) rfl ?_
        refine wp_step rfl rfl ?_
        refine wp_getg rfl hr3.1 (by decide) rfl ?_
        refine wp_step rfl rfl ?_
        refine wp_getg rfl hr3.1 (by decide) rfl ?_
        iterate 5 refine wp_step rfl rfl ?_
        refine wp_c0 rfl rfl (by decide) rfl (recv_ok hv3.1 rfl) rfl (q_readV (d := d) hb hwf hfh (by omega) (by omega) hc9 21 (Nat.le_refl _) id 0 p3 n l A S3 _ (isKd_kn hwf hid c5) (by decide) hk3 hv3 hO3 hn (by omega) (fun p2 n2 l2 A2 T2 e2 hf4 hk4 hv4 ha4 hl4 hd4 => ?_) (fun k pl T2 e2 hf4 hx4 hs4 => ?_))
        · have hr4 := reS_fr hr3 hf4 (fun j hj => by simp only [List.mem_cons, List.not_mem_nil, or_false] at hj; omega)
          refine wp_ast rfl (Or.inl ⟨rfl, rfl⟩) hr4.2.2.2 (am_in_nI (by omega) (by decide)) ?_
          rw [nI_clamp (by omega)]
          rw [show vp_nar (am_ty 0) (nI n) = nI n from rfl]
          have hr5 := reS_10 hr4 (upd E.2.2 ne (nI n))
          have hf5 : fr [R + 10] T2 (am_upd T2 (R + 10) (iA 60 (upd E.2.2 ne (nI n)))) := fr_up (by simp)
          generalize am_upd T2 (R + 10) (iA 60 (upd E.2.2 ne (nI n))) = S5 at hr5 hf5 ⊢
          iterate 2 refine wp_step rfl rfl ?_
          refine wp_getg rfl hr5.1 (by decide) rfl ?_
          iterate 2 refine wp_step rfl rfl ?_
          rw [show nI ne + Int32.ofInt 1 = nI (ne + 1) from nI_add ne 1]
          refine wp_putg rfl hr5.1 (by decide) rfl rfl ?_
          rw [show va_up (reG R (nI ci) (nI ne)) 3 (.int (nI (ne + 1))) = reG R (nI ci) (nI (ne + 1)) from reG_3]
          have hr6 := reS_0 hr5 ci (ne + 1)
          have hf6 : fr [R] S5 (am_upd S5 R (reC R (nI ci) (nI (ne + 1)))) := fr_up (by simp)
          generalize am_upd S5 R (reC R (nI ci) (nI (ne + 1))) = S6 at hr6 hf6 ⊢
          have hf7 : fr [R, R + 10] T2 S6 := fr_trans (fr_mono hf5 (fun j hj => by simp only [List.mem_cons, List.not_mem_nil, or_false, List.mem_range'_1] at hj ⊢; omega)) (fr_mono hf6 (fun j hj => by simp only [List.mem_cons, List.not_mem_nil, or_false, List.mem_range'_1] at hj ⊢; omega))
          refine wp_vret rfl rfl (hret tk p3 p2 n2 l2 A2 S6 (by unfold rdV; rw [if_neg hkt, if_neg c0, ec]; dsimp only; rw [e2]) (fr_trans hfA (fr_trans (fr_mono hf4 (fun j hj => by simp only [List.mem_cons, List.not_mem_nil, or_false, List.mem_range'_1] at hj ⊢; omega)) (fr_mono hf7 (fun j hj => by simp only [List.mem_cons, List.not_mem_nil, or_false, List.mem_range'_1] at hj ⊢; omega)))) (sK_fr hk4 hf7 (by simp only [List.mem_cons, List.not_mem_nil, or_false, List.mem_range'_1]; omega) (by simp only [List.mem_cons, List.not_mem_nil, or_false, List.mem_range'_1]; omega)) (vS_fr hv4 hf7 (fun j hj => by simp only [List.mem_cons, List.not_mem_nil, or_false] at hj; omega)) ha4 hl4 hd4 c5 ec hr6)
        · exact hthr k pl T2 (by unfold rdV; rw [if_neg hkt, if_neg c0, ec]; dsimp only; rw [e2]) (fr_trans hfA (fr_mono hf4 (fun j hj => by simp only [List.mem_cons, List.not_mem_nil, or_false, List.mem_range'_1] at hj ⊢; omega))) hx4 hs4 ⟨_, _, _, reS_fr hr3 hf4 (fun j hj => by simp only [List.mem_cons, List.not_mem_nil, or_false] at hj; omega)⟩
      · exact hthr 2 p T (by unfold rdV; rw [if_neg hkt, if_neg c0, ec]) (fr_trans (fr_mono hf1 (fun j hj => by simp only [List.mem_cons, List.not_mem_nil, or_false, List.mem_range'_1] at hj ⊢; omega)) (fr_mono hf2 (fun j hj => by simp only [List.mem_cons, List.not_mem_nil, or_false, List.mem_range'_1] at hj ⊢; omega))) hx2 ⟨_, _, _, vS_fr hv1 hf2 (fun j hj => by simp only [List.mem_cons, List.not_mem_nil, or_false] at hj; omega)⟩ ⟨_, _, _, reS_fr hr1 hf2 (fun j hj => by simp only [List.mem_cons, List.not_mem_nil, or_false] at hj; omega)⟩
    · replace c0 := n_ne_f (a := ne) (b := 60) (by omega) (by omega) c0
      iterate 3 refine wp_step rfl rfl ?_
      exact wp_fl rfl rfl hk (fun T hf hx => hthr 8 q T (by unfold rdV; rw [if_neg hkt, if_pos c0]) (fr_mono hf (fun j hj => by simp only [List.mem_cons, List.not_mem_nil, or_false, List.mem_range'_1] at hj ⊢; omega)) hx ⟨_, _, _, vS_fr hv hf (fun j hj => by simp only [List.mem_cons, List.not_mem_nil, or_false] at hj; omega)⟩ ⟨_, _, _, reS_fr hr hf (fun j hj => by simp only [List.mem_cons, List.not_mem_nil, or_false] at hj; omega)⟩)
  · refine wp_if_f rfl rfl ?_
    iterate 3 refine wp_step rfl rfl ?_
    refine wp_getg rfl hk.1 (by decide) rfl ?_
    have hkf : kdb τ id 1 = false := by
      cases e9 : kdb τ id 1 with
      | true => exact absurd (kdb_iff.mp e9) c5
      | false => rfl
    exact wp_fl rfl rfl hk (fun T hf hx => hthr 3 idp T (by unfold rdV; rw [if_pos hkf]) (fr_mono hf (fun j hj => by simp only [List.mem_cons, List.not_mem_nil, or_false, List.mem_range'_1] at hj ⊢; omega)) hx ⟨_, _, _, vS_fr hv hf (fun j hj => by simp only [List.mem_cons, List.not_mem_nil, or_false] at hj; omega)⟩ ⟨_, _, _, reS_fr hr hf (fun j hj => by simp only [List.mem_cons, List.not_mem_nil, or_false] at hj; omega)⟩)
end EVENT
