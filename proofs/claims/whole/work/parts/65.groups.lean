/-! Groups -/
/-- key, events, numbers, sum, least, most -/
abbrev jG : Type := Int64 × Nat × Nat × Int64 × Int64 × Int64
abbrev jGA : Type := (Nat → Int64) × (Nat → Int32) × (Nat → Int32) × (Nat → Int64) × (Nat → Int64) × (Nat → Int64)
def grS (S : am_S) (n : Int32) (P : jGA) : Prop := am_get S 401 = some (grC n) ∧ am_get S 402 = some (lA 60 P.1) ∧ am_get S 403 = some (iA 60 P.2.1) ∧ am_get S 404 = some (iA 60 P.2.2.1) ∧ am_get S 405 = some (lA 60 P.2.2.2.1) ∧ am_get S 406 = some (lA 60 P.2.2.2.2.1) ∧ am_get S 407 = some (lA 60 P.2.2.2.2.2)
def gD (P : jGA) (gs : List jG) : Prop := ∀ (i : Nat) (x : jG), gs[i]? = some x → P.1 i = x.1 ∧ P.2.1 i = nI x.2.1 ∧ P.2.2.1 i = nI x.2.2.1 ∧ P.2.2.2.1 i = x.2.2.2.1 ∧ P.2.2.2.2.1 i = x.2.2.2.2.1 ∧ P.2.2.2.2.2 i = x.2.2.2.2.2
def grW (S : am_S) : Prop := ∃ n P, grS S n P
theorem grS_fr {js : List Nat} {S T : am_S} {n : Int32} {P : jGA} (h : grS S n P) (hf : fr js S T) (hj : ∀ j, j ∈ js → j < 401 ∨ 408 ≤ j) : grS T n P := by
  obtain ⟨h0, h1, h2, h3, h4, h5, h6⟩ := h
  exact ⟨by rw [fr_get hf (fun g => by have := hj _ g; omega)]; exact h0, by rw [fr_get hf (fun g => by have := hj _ g; omega)]; exact h1, by rw [fr_get hf (fun g => by have := hj _ g; omega)]; exact h2, by rw [fr_get hf (fun g => by have := hj _ g; omega)]; exact h3, by rw [fr_get hf (fun g => by have := hj _ g; omega)]; exact h4, by rw [fr_get hf (fun g => by have := hj _ g; omega)]; exact h5, by rw [fr_get hf (fun g => by have := hj _ g; omega)]; exact h6⟩
theorem grS_402 {S : am_S} {n : Int32} {P : jGA} (h : grS S n P) (f : Nat → Int64) : grS (am_upd S 402 (lA 60 f)) n (f, P.2.1, P.2.2.1, P.2.2.2.1, P.2.2.2.2.1, P.2.2.2.2.2) := by
  obtain ⟨h0, h1, h2, h3, h4, h5, h6⟩ := h
  exact ⟨by rw [am_get_ne (by decide)]; exact h0, am_get_self h1, by rw [am_get_ne (by decide)]; exact h2, by rw [am_get_ne (by decide)]; exact h3, by rw [am_get_ne (by decide)]; exact h4, by rw [am_get_ne (by decide)]; exact h5, by rw [am_get_ne (by decide)]; exact h6⟩
theorem grS_403 {S : am_S} {n : Int32} {P : jGA} (h : grS S n P) (f : Nat → Int32) : grS (am_upd S 403 (iA 60 f)) n (P.1, f, P.2.2.1, P.2.2.2.1, P.2.2.2.2.1, P.2.2.2.2.2) := by
  obtain ⟨h0, h1, h2, h3, h4, h5, h6⟩ := h
  exact ⟨by rw [am_get_ne (by decide)]; exact h0, by rw [am_get_ne (by decide)]; exact h1, am_get_self h2, by rw [am_get_ne (by decide)]; exact h3, by rw [am_get_ne (by decide)]; exact h4, by rw [am_get_ne (by decide)]; exact h5, by rw [am_get_ne (by decide)]; exact h6⟩
theorem grS_404 {S : am_S} {n : Int32} {P : jGA} (h : grS S n P) (f : Nat → Int32) : grS (am_upd S 404 (iA 60 f)) n (P.1, P.2.1, f, P.2.2.2.1, P.2.2.2.2.1, P.2.2.2.2.2) := by
  obtain ⟨h0, h1, h2, h3, h4, h5, h6⟩ := h
  exact ⟨by rw [am_get_ne (by decide)]; exact h0, by rw [am_get_ne (by decide)]; exact h1, by rw [am_get_ne (by decide)]; exact h2, am_get_self h3, by rw [am_get_ne (by decide)]; exact h4, by rw [am_get_ne (by decide)]; exact h5, by rw [am_get_ne (by decide)]; exact h6⟩
theorem grS_405 {S : am_S} {n : Int32} {P : jGA} (h : grS S n P) (f : Nat → Int64) : grS (am_upd S 405 (lA 60 f)) n (P.1, P.2.1, P.2.2.1, f, P.2.2.2.2.1, P.2.2.2.2.2) := by
  obtain ⟨h0, h1, h2, h3, h4, h5, h6⟩ := h
  exact ⟨by rw [am_get_ne (by decide)]; exact h0, by rw [am_get_ne (by decide)]; exact h1, by rw [am_get_ne (by decide)]; exact h2, by rw [am_get_ne (by decide)]; exact h3, am_get_self h4, by rw [am_get_ne (by decide)]; exact h5, by rw [am_get_ne (by decide)]; exact h6⟩
theorem grS_406 {S : am_S} {n : Int32} {P : jGA} (h : grS S n P) (f : Nat → Int64) : grS (am_upd S 406 (lA 60 f)) n (P.1, P.2.1, P.2.2.1, P.2.2.2.1, f, P.2.2.2.2.2) := by
  obtain ⟨h0, h1, h2, h3, h4, h5, h6⟩ := h
  exact ⟨by rw [am_get_ne (by decide)]; exact h0, by rw [am_get_ne (by decide)]; exact h1, by rw [am_get_ne (by decide)]; exact h2, by rw [am_get_ne (by decide)]; exact h3, by rw [am_get_ne (by decide)]; exact h4, am_get_self h5, by rw [am_get_ne (by decide)]; exact h6⟩
theorem grS_407 {S : am_S} {n : Int32} {P : jGA} (h : grS S n P) (f : Nat → Int64) : grS (am_upd S 407 (lA 60 f)) n (P.1, P.2.1, P.2.2.1, P.2.2.2.1, P.2.2.2.2.1, f) := by
  obtain ⟨h0, h1, h2, h3, h4, h5, h6⟩ := h
  exact ⟨by rw [am_get_ne (by decide)]; exact h0, by rw [am_get_ne (by decide)]; exact h1, by rw [am_get_ne (by decide)]; exact h2, by rw [am_get_ne (by decide)]; exact h3, by rw [am_get_ne (by decide)]; exact h4, by rw [am_get_ne (by decide)]; exact h5, am_get_self h6⟩
theorem grS_0 {S : am_S} {n : Int32} {P : jGA} (h : grS S n P) (m : Int32) : grS (am_upd S 401 (grC m)) m P := by
  obtain ⟨h0, h1, h2, h3, h4, h5, h6⟩ := h
  exact ⟨am_get_self h0, by rw [am_get_ne (by decide)]; exact h1, by rw [am_get_ne (by decide)]; exact h2, by rw [am_get_ne (by decide)]; exact h3, by rw [am_get_ne (by decide)]; exact h4, by rw [am_get_ne (by decide)]; exact h5, by rw [am_get_ne (by decide)]; exact h6⟩
/-- which group has the key -/
def gix (gs : List jG) (key : Int64) : Option Nat := fsti (fun i => decide (gs[i]?.map (fun x => x.1) = some key)) gs.length 0
def gEnt (key : Int64) (gs : List jG) : List jG × Nat := match gix gs key with
  | none => (gs ++ [(key, 1, 0, 0, 0, 0)], gs.length)
  | some g => (match gs[g]? with
    | none => (gs, g)
    | some x => (gs.set g (x.1, x.2.1 + 1, x.2.2), g))
def gAdd1 (v : Int64) (x : jG) : jG := (x.1, x.2.1, x.2.2.1 + 1, x.2.2.2.1 + v, (if x.2.2.1 = 0 then v else if v < x.2.2.2.2.1 then v else x.2.2.2.2.1), (if x.2.2.1 = 0 then v else if x.2.2.2.2.2 < v then v else x.2.2.2.2.2))
def gAdd (g : Nat) (v : Int64) (gs : List jG) : List jG := match gs[g]? with
  | none => gs
  | some x => gs.set g (gAdd1 v x)
noncomputable def grp1 (b : Nat → Nat) (tot : Nat) (re : jRe) (by_ path : Int32) (gs : List jG) (e : Nat) : List jG := match re.2.1[e]? with
  | none => gs
  | some y => if isNm b (ldE b tot re y by_) = true then
      (if isNm b (ldE b tot re y path) = true then gAdd (gEnt (wrO b tot re y (ldE b tot re y by_)) gs).2 (wrO b tot re y (ldE b tot re y path)) (gEnt (wrO b tot re y (ldE b tot re y by_)) gs).1 else (gEnt (wrO b tot re y (ldE b tot re y by_)) gs).1)
    else gs
noncomputable def grp (b : Nat → Nat) (tot : Nat) (re : jRe) (by_ path : Int32) (xs : List Nat) : List jG := xs.foldl (grp1 b tot re by_ path) []
/-- counts stay small -/
def gB (gs : List jG) (n : Nat) : Prop := gs.length ≤ n ∧ ∀ x, x ∈ gs → x.2.1 ≤ n ∧ x.2.2.1 ≤ n
theorem gB_up {gs : List jG} {n m : Nat} (h : gB gs n) (hm : n ≤ m) : gB gs m := ⟨by have := h.1; omega, fun x hx => by have := h.2 x hx; omega⟩
theorem gEnt_ok {key : Int64} {gs : List jG} {n : Nat} (h : gB gs n) : gB (gEnt key gs).1 (n + 1) ∧ (gEnt key gs).2 < (gEnt key gs).1.length := by
  unfold gEnt
  split
  · refine ⟨⟨by rw [List.length_append]; have := h.1; simp; omega, fun x hx => ?_⟩, by simp⟩
    rcases List.mem_append.mp hx with g | g
    · have := h.2 x g; omega
    · rw [List.mem_singleton] at g; subst g; dsimp only; omega
  · rename_i g e
    have hg := fsti_some e
    have hgl : g < gs.length := by omega
    rw [List.getElem?_eq_getElem hgl]
    dsimp only
    refine ⟨⟨by rw [List.length_set]; have := h.1; omega, fun x hx => ?_⟩, by rw [List.length_set]; exact hgl⟩
    rcases List.mem_or_eq_of_mem_set hx with q | q
    · have := h.2 x q; omega
    · subst q; have := h.2 gs[g] (List.getElem_mem hgl); dsimp only; omega
theorem gAdd_ok {g : Nat} {v : Int64} {gs : List jG} {n : Nat} (h : gB gs n) : gB (gAdd g v gs) (n + 1) := by
  unfold gAdd
  split
  · exact gB_up h (by omega)
  · rename_i x e
    refine ⟨by rw [List.length_set]; have := h.1; omega, fun z hz => ?_⟩
    rcases List.mem_or_eq_of_mem_set hz with q | q
    · have := h.2 z q; omega
    · subst q; have := h.2 x (mem_at e); unfold gAdd1; dsimp only; omega
theorem at_put {α : Type} {l : List α} {g i : Nat} {x y : α} (h : (l.set g x)[i]? = some y) : (i = g ∧ y = x) ∨ (i ≠ g ∧ l[i]? = some y) := by
  by_cases e : i = g
  · subst e
    have hl := (List.getElem?_eq_some_iff.mp h).1
    rw [List.length_set] at hl
    rw [List.getElem?_set_self hl] at h
    cases h
    exact Or.inl ⟨rfl, rfl⟩
  · rw [List.getElem?_set_ne (fun e2 => e e2.symm)] at h
    exact Or.inr ⟨e, h⟩
section GROUPS
variable {X : Nat × (Nat → Int32)} {d : Nat} {Q : am_R → Prop} {gs : List jG}
theorem ge_loop {S : am_S} {P : jGA} {key : Int64} (h : grS S (nI gs.length) P) (hD : gD P gs) (hl : gs.length ≤ 60) : ∀ (m i : Nat), i + m = gs.length → (∀ g, fsti (fun i => decide (gs[i]?.map (fun x => x.1) = some key)) m i = some g → wp X d 31 27 [some (.ref 401), some (.long key), none, some (.int (nI g))] [] S Q) → (fsti (fun i => decide (gs[i]?.map (fun x => x.1) = some key)) m i = none → wp X d 31 27 [some (.ref 401), some (.long key), none, some (.int (nI gs.length))] [] S Q) → wp X d 31 2 [some (.ref 401), some (.long key), none, some (.int (nI i))] [] S Q := by
  intro m
  induction m with
  | zero =>
    intro i hi hsome hnone
    have e9 : i = gs.length := by omega
    subst e9
    iterate 2 refine wp_step rfl rfl ?_
    refine wp_getg (v := (.int (nI gs.length))) rfl h.1 (by decide) rfl ?_
    refine wp_icmp rfl (fun c0 => ?_) (fun c0 => ?_)
    · replace c0 := n_ge_t (a := gs.length) (b := gs.length) (by omega) (by omega) c0
      exact hnone rfl
    · replace c0 := n_ge_f (a := gs.length) (b := gs.length) (by omega) (by omega) c0
      omega
  | succ m ih =>
    intro i hi hsome hnone
    iterate 2 refine wp_step rfl rfl ?_
    refine wp_getg (v := (.int (nI gs.length))) rfl h.1 (by decide) rfl ?_
    refine wp_icmp rfl (fun c0 => ?_) (fun c0 => ?_)
    · replace c0 := n_ge_t (a := i) (b := gs.length) (by omega) (by omega) c0
      omega
    · replace c0 := n_ge_f (a := i) (b := gs.length) (by omega) (by omega) c0
      obtain ⟨x, hx⟩ : ∃ x, gs[i]? = some x := ⟨_, List.getElem?_eq_getElem c0⟩
      have hx1 := (hD i x hx).1
      refine wp_step rfl rfl ?_
      refine wp_getg rfl h.1 (by decide) rfl ?_
      refine wp_step rfl rfl ?_
      refine wp_lald rfl (by decide) h.2.1 (am_in_nI (by omega) (by decide)) ?_
      rw [nI_clamp (by omega)]
      rw [hx1]
      iterate 2 refine wp_step rfl rfl ?_
      refine wp_if rfl (fun c1 => ?_) (fun c1 => ?_)
      · replace c1 := l_eq_t c1
        exact hsome i (by unfold fsti; rw [if_pos (by rw [hx]; simp [c1])])
      · replace c1 := l_eq_f c1
        iterate 2 refine wp_step rfl rfl ?_
        rw [show nI i + Int32.ofInt 1 = nI (i + 1) from nI_add i 1]
        exact ih (i + 1) (by omega) (fun g hg => hsome g (by unfold fsti; rw [if_neg (by rw [hx]; simp [c1])]; exact hg)) (fun hg => hnone (by unfold fsti; rw [if_neg (by rw [hx]; simp [c1])]; exact hg))
theorem ge_fin {S : am_S} {P : jGA} {key : Int64} {cn : Int32} {g n : Nat} (h : grS S cn P) (hg : g < 60) (he : P.2.1 g = nI n) (hq : ∀ T, fr [401, 402, 403, 404, 405, 406, 407] S T → grS T cn (P.1, upd P.2.1 g (nI (n + 1)), P.2.2.1, P.2.2.2.1, P.2.2.2.2.1, P.2.2.2.2.2) → Q (.inl (some (.int (nI g))), T)) : wp X d 31 87 [some (.ref 401), some (.long key), none, some (.int (nI g))] [] S Q := by
  refine wp_step rfl rfl ?_
  refine wp_getg rfl h.1 (by decide) rfl ?_
  iterate 2 refine wp_step rfl rfl ?_
  refine wp_ald rfl (Or.inl ⟨rfl, rfl⟩) (by decide) h.2.2.1 (am_in_nI (by omega) (by decide)) ?_
  rw [nI_clamp (by omega)]
  rw [he]
  iterate 2 refine wp_step rfl rfl ?_
  rw [show nI n + Int32.ofInt 1 = nI (n + 1) from nI_add n 1]
  refine wp_ast rfl (Or.inl ⟨rfl, rfl⟩) h.2.2.1 (am_in_nI (by omega) (by decide)) ?_
  rw [nI_clamp (by omega)]
  rw [show vp_nar (am_ty 0) (nI (n + 1)) = nI (n + 1) from rfl]
  refine wp_step rfl rfl ?_
  refine wp_iret rfl rfl rfl (hq _ (fr_up (by simp)) (grS_403 h _))
set_option maxHeartbeats 1000000 in
theorem q_enter {S : am_S} {P : jGA} {key : Int64} (h : grS S (nI gs.length) P) (hD : gD P gs) (hl : gs.length < 60) (hq : ∀ T P', fr [401, 402, 403, 404, 405, 406, 407] S T → grS T (nI (gEnt key gs).1.length) P' → gD P' (gEnt key gs).1 → Q (.inl (some (.int (nI (gEnt key gs).2))), T)) : ev X (d + 1) 31 [.ref 401, .long key] S Q := by
  refine ev_wp (L0 := [some (.ref 401), some (.long key), none, none]) (Nat.le_of_ble_eq_true rfl) rfl ?_
  iterate 2 refine wp_step rfl rfl ?_
  refine ge_loop h hD (by omega) gs.length 0 (by omega) (fun g hg => ?_) (fun hg => ?_)
  · have hgs := fsti_some hg
    have hgl : g < gs.length := by omega
    obtain ⟨x, hx⟩ : ∃ x, gs[g]? = some x := ⟨_, List.getElem?_eq_getElem hgl⟩
    have eE : gEnt key gs = (gs.set g (x.1, x.2.1 + 1, x.2.2), g) := by unfold gEnt gix; rw [hg]; dsimp only; rw [hx]
    obtain ⟨a1, a2, a3, a4, a5, a6⟩ := hD g x hx
    iterate 2 refine wp_step rfl rfl ?_
    refine wp_getg (v := (.int (nI gs.length))) rfl h.1 (by decide) rfl ?_
    refine wp_icmp rfl (fun c0 => ?_) (fun c0 => ?_)
    · replace c0 := n_ne_t (a := g) (b := gs.length) (by omega) (by omega) c0
      refine ge_fin h (by omega) a2 (fun T hf1 h1 => ?_)
      have h9 := hq T _ hf1 (by rw [eE]; dsimp only; rw [List.length_set]; exact h1)
      rw [eE] at h9
      refine h9 (fun i y hy => ?_)
      rcases at_put hy with ⟨g1, g2⟩ | ⟨g1, g2⟩
      · subst g1; subst g2; exact ⟨a1, pk_us, a3, a4, a5, a6⟩
      · obtain ⟨b1, b2, b3, b4, b5, b6⟩ := hD i y g2
        exact ⟨b1, (pk_un g1).trans b2, b3, b4, b5, b6⟩
    · replace c0 := n_ne_f (a := g) (b := gs.length) (by omega) (by omega) c0
      omega
  · have eE : gEnt key gs = (gs ++ [(key, 1, 0, 0, 0, 0)], gs.length) := by unfold gEnt gix; rw [hg]
    iterate 2 refine wp_step rfl rfl ?_
    refine wp_getg (v := (.int (nI gs.length))) rfl h.1 (by decide) rfl ?_
    refine wp_icmp rfl (fun c0 => ?_) (fun c0 => ?_)
    · replace c0 := n_ne_t (a := gs.length) (b := gs.length) (by omega) (by omega) c0
      omega
    · replace c0 := n_ne_f (a := gs.length) (b := gs.length) (by omega) (by omega) c0
      refine wp_step rfl rfl ?_
      refine wp_getg rfl h.1 (by decide) rfl ?_
      iterate 2 refine wp_step rfl rfl ?_
      refine wp_last rfl h.2.1 (am_in_nI (by omega) (by decide)) ?_
      rw [nI_clamp (by omega)]
      have hf1 : fr [401, 402, 403, 404, 405, 406, 407] S (am_upd S 402 (lA 60 (vp_updL P.1 gs.length key))) := fr_up (by simp)
      have h1 := grS_402 h (vp_updL P.1 gs.length key)
      show wp X d 31 42 [some (.ref 401), some (.long key), none, some (.int (nI gs.length))] [] (am_upd S 402 (lA 60 (vp_updL P.1 gs.length key))) Q
      generalize am_upd S 402 (lA 60 (vp_updL P.1 gs.length key)) = S1 at h1 hf1 ⊢
      try dsimp only at h1
      refine wp_step rfl rfl ?_
      refine wp_getg rfl h1.1 (by decide) rfl ?_
      iterate 2 refine wp_step rfl rfl ?_
      refine wp_ast rfl (Or.inl ⟨rfl, rfl⟩) h1.2.2.1 (am_in_nI (by omega) (by decide)) ?_
      rw [nI_clamp (by omega)]
      rw [show vp_nar (am_ty 0) (Int32.ofInt 0) = Int32.ofInt 0 from rfl]
      have hf2 : fr [401, 402, 403, 404, 405, 406, 407] S (am_upd S1 403 (iA 60 (upd P.2.1 gs.length (nI 0)))) := fr_upd hf1 (by simp)
      have h2 := grS_403 h1 (upd P.2.1 gs.length (nI 0))
      show wp X d 31 49 [some (.ref 401), some (.long key), none, some (.int (nI gs.length))] [] (am_upd S1 403 (iA 60 (upd P.2.1 gs.length (nI 0)))) Q
      generalize am_upd S1 403 (iA 60 (upd P.2.1 gs.length (nI 0))) = S2 at h2 hf2 ⊢
      try dsimp only at h2
      refine wp_step rfl rfl ?_
      refine wp_getg rfl h2.1 (by decide) rfl ?_
      iterate 2 refine wp_step rfl rfl ?_
      refine wp_ast rfl (Or.inl ⟨rfl, rfl⟩) h2.2.2.2.1 (am_in_nI (by omega) (by decide)) ?_
      rw [nI_clamp (by omega)]
      rw [show vp_nar (am_ty 0) (Int32.ofInt 0) = Int32.ofInt 0 from rfl]
      have hf3 : fr [401, 402, 403, 404, 405, 406, 407] S (am_upd S2 404 (iA 60 (upd P.2.2.1 gs.length (nI 0)))) := fr_upd hf2 (by simp)
      have h3 := grS_404 h2 (upd P.2.2.1 gs.length (nI 0))
      show wp X d 31 56 [some (.ref 401), some (.long key), none, some (.int (nI gs.length))] [] (am_upd S2 404 (iA 60 (upd P.2.2.1 gs.length (nI 0)))) Q
      generalize am_upd S2 404 (iA 60 (upd P.2.2.1 gs.length (nI 0))) = S3 at h3 hf3 ⊢
      try dsimp only at h3
      refine wp_step rfl rfl ?_
      refine wp_getg rfl h3.1 (by decide) rfl ?_
      iterate 2 refine wp_step rfl rfl ?_
      refine wp_last rfl h3.2.2.2.2.1 (am_in_nI (by omega) (by decide)) ?_
      rw [nI_clamp (by omega)]
      have hf4 : fr [401, 402, 403, 404, 405, 406, 407] S (am_upd S3 405 (lA 60 (vp_updL P.2.2.2.1 gs.length (0 : Int64)))) := fr_upd hf3 (by simp)
      have h4 := grS_405 h3 (vp_updL P.2.2.2.1 gs.length (0 : Int64))
      show wp X d 31 63 [some (.ref 401), some (.long key), none, some (.int (nI gs.length))] [] (am_upd S3 405 (lA 60 (vp_updL P.2.2.2.1 gs.length (0 : Int64)))) Q
      generalize am_upd S3 405 (lA 60 (vp_updL P.2.2.2.1 gs.length (0 : Int64))) = S4 at h4 hf4 ⊢
      try dsimp only at h4
      refine wp_step rfl rfl ?_
      refine wp_getg rfl h4.1 (by decide) rfl ?_
      iterate 2 refine wp_step rfl rfl ?_
      refine wp_last rfl h4.2.2.2.2.2.1 (am_in_nI (by omega) (by decide)) ?_
      rw [nI_clamp (by omega)]
      have hf5 : fr [401, 402, 403, 404, 405, 406, 407] S (am_upd S4 406 (lA 60 (vp_updL P.2.2.2.2.1 gs.length (0 : Int64)))) := fr_upd hf4 (by simp)
      have h5 := grS_406 h4 (vp_updL P.2.2.2.2.1 gs.length (0 : Int64))
      show wp X d 31 70 [some (.ref 401), some (.long key), none, some (.int (nI gs.length))] [] (am_upd S4 406 (lA 60 (vp_updL P.2.2.2.2.1 gs.length (0 : Int64)))) Q
      generalize am_upd S4 406 (lA 60 (vp_updL P.2.2.2.2.1 gs.length (0 : Int64))) = S5 at h5 hf5 ⊢
      try dsimp only at h5
      refine wp_step rfl rfl ?_
      refine wp_getg rfl h5.1 (by decide) rfl ?_
      iterate 2 refine wp_step rfl rfl ?_
      refine wp_last rfl h5.2.2.2.2.2.2 (am_in_nI (by omega) (by decide)) ?_
      rw [nI_clamp (by omega)]
      have hf6 : fr [401, 402, 403, 404, 405, 406, 407] S (am_upd S5 407 (lA 60 (vp_updL P.2.2.2.2.2 gs.length (0 : Int64)))) := fr_upd hf5 (by simp)
      have h6 := grS_407 h5 (vp_updL P.2.2.2.2.2 gs.length (0 : Int64))
      show wp X d 31 77 [some (.ref 401), some (.long key), none, some (.int (nI gs.length))] [] (am_upd S5 407 (lA 60 (vp_updL P.2.2.2.2.2 gs.length (0 : Int64)))) Q
      generalize am_upd S5 407 (lA 60 (vp_updL P.2.2.2.2.2 gs.length (0 : Int64))) = S6 at h6 hf6 ⊢
      try dsimp only at h6
      iterate 2 refine wp_step rfl rfl ?_
      refine wp_getg (v := (.int (nI gs.length))) rfl h6.1 (by decide) rfl ?_
      iterate 2 refine wp_step rfl rfl ?_
      rw [show nI gs.length + Int32.ofInt 1 = nI (gs.length + 1) from nI_add gs.length 1]
      refine wp_putg rfl h6.1 (by decide) rfl rfl ?_
      rw [grG_0]
      have h7 := grS_0 h6 (nI (gs.length + 1))
      have hf7 : fr [401, 402, 403, 404, 405, 406, 407] S (am_upd S6 401 (grC (nI (gs.length + 1)))) := fr_upd hf6 (by simp)
      generalize am_upd S6 401 (grC (nI (gs.length + 1))) = S7 at h7 hf7 ⊢
      refine ge_fin h7 (by omega) (n := 0) pk_us (fun T hf8 h8 => ?_)
      have h9 := hq T _ (fr_trans hf7 hf8) (by rw [eE]; dsimp only; rw [List.length_append]; exact h8)
      rw [eE] at h9
      refine h9 (fun i y hy => ?_)
      rcases at_app hy with ⟨g1, g2⟩ | ⟨g1, g2⟩
      · obtain ⟨b1, b2, b3, b4, b5, b6⟩ := hD i y g2
        exact ⟨(pk_uLn (by omega)).trans b1, (pk_un (by omega)).trans ((pk_un (by omega)).trans b2), (pk_un (by omega)).trans b3, (pk_uLn (by omega)).trans b4, (pk_uLn (by omega)).trans b5, (pk_uLn (by omega)).trans b6⟩
      · subst g1; subst g2; exact ⟨pk_uLs, pk_us, pk_us, pk_uLs, pk_uLs, pk_uLs⟩
theorem q_maxL {S : am_S} {x y : Int64} (hq : Q (.inl (some (.long (if x < y then y else x))), S)) : ev X (d + 1) 165 [.long x, .long y] S Q := by
  refine ev_wp (L0 := [some (.long x), none, some (.long y), none]) (Nat.le_of_ble_eq_true rfl) rfl ?_
  iterate 3 refine wp_step rfl rfl ?_
  refine wp_if rfl (fun c0 => ?_) (fun c0 => ?_)
  · replace c0 := l_lt_t c0
    refine wp_step rfl rfl ?_
    refine wp_lret rfl rfl (by rw [if_pos c0] at hq; exact hq)
  · replace c0 := l_lt_f c0
    iterate 2 refine wp_step rfl rfl ?_
    refine wp_lret rfl rfl (by rw [if_neg c0] at hq; exact hq)
theorem q_minL {S : am_S} {x y : Int64} (hq : Q (.inl (some (.long (if y < x then y else x))), S)) : ev X (d + 1) 166 [.long x, .long y] S Q := by
  refine ev_wp (L0 := [some (.long x), none, some (.long y), none]) (Nat.le_of_ble_eq_true rfl) rfl ?_
  iterate 3 refine wp_step rfl rfl ?_
  refine wp_if rfl (fun c0 => ?_) (fun c0 => ?_)
  · replace c0 := l_gt_t c0
    refine wp_step rfl rfl ?_
    refine wp_lret rfl rfl (by rw [if_pos c0] at hq; exact hq)
  · replace c0 := l_gt_f c0
    iterate 2 refine wp_step rfl rfl ?_
    refine wp_lret rfl rfl (by rw [if_neg c0] at hq; exact hq)
set_option maxHeartbeats 1000000 in
theorem q_grAdd {S : am_S} {P : jGA} {v : Int64} {cn : Int32} {g : Nat} {x : jG} (h : grS S cn P) (hD : gD P gs) (hl : gs.length ≤ 60) (hx : gs[g]? = some x) (hg60 : g < 60) (hn60 : x.2.2.1 ≤ 1000) (hq : ∀ T P', fr [401, 402, 403, 404, 405, 406, 407] S T → grS T cn P' → gD P' (gAdd g v gs) → Q (.inl none, T)) : ev X (d + 2) 32 [.ref 401, .int (nI g), .long v] S Q := by
  refine ev_wp (L0 := [some (.ref 401), some (.int (nI g)), some (.long v), none]) (Nat.le_of_ble_eq_true rfl) rfl ?_
  obtain ⟨a1, a2, a3, a4, a5, a6⟩ := hD g x hx
  have eA : gAdd g v gs = gs.set g (gAdd1 v x) := by unfold gAdd; rw [hx]
  have K3 : ∀ S2, grS S2 cn (P.1, P.2.1, P.2.2.1, P.2.2.2.1, vp_updL P.2.2.2.2.1 g (gAdd1 v x).2.2.2.2.1, vp_updL P.2.2.2.2.2 g (gAdd1 v x).2.2.2.2.2) → fr [401, 402, 403, 404, 405, 406, 407] S S2 → wp X (d + 1) 32 58 [some (.ref 401), some (.int (nI g)), some (.long v), none] [] S2 Q := by
    intro S2 h2 hf2
    refine wp_step rfl rfl ?_
    refine wp_getg rfl h2.1 (by decide) rfl ?_
    iterate 2 refine wp_step rfl rfl ?_
    refine wp_lald rfl (by decide) h2.2.2.2.2.1 (am_in_nI (by omega) (by decide)) ?_
    rw [nI_clamp (by omega)]
    rw [a4]
    iterate 2 refine wp_step rfl rfl ?_
    refine wp_last rfl h2.2.2.2.2.1 (am_in_nI (by omega) (by decide)) ?_
    rw [nI_clamp (by omega)]
    have h3 := grS_405 h2 (vp_updL P.2.2.2.1 g (x.2.2.2.1 + v))
    have hf3 : fr [401, 402, 403, 404, 405, 406, 407] S (am_upd S2 405 (lA 60 (vp_updL P.2.2.2.1 g (x.2.2.2.1 + v)))) := fr_upd hf2 (by simp)
    generalize am_upd S2 405 (lA 60 (vp_updL P.2.2.2.1 g (x.2.2.2.1 + v))) = S3 at h3 hf3 ⊢
    dsimp only at h3
    refine wp_step rfl rfl ?_
    refine wp_getg rfl h3.1 (by decide) rfl ?_
    iterate 2 refine wp_step rfl rfl ?_
    refine wp_ald rfl (Or.inl ⟨rfl, rfl⟩) (by decide) h3.2.2.2.1 (am_in_nI (by omega) (by decide)) ?_
    rw [nI_clamp (by omega)]
    rw [a3]
    iterate 2 refine wp_step rfl rfl ?_
    rw [show nI x.2.2.1 + Int32.ofInt 1 = nI (x.2.2.1 + 1) from nI_add x.2.2.1 1]
    refine wp_ast rfl (Or.inl ⟨rfl, rfl⟩) h3.2.2.2.1 (am_in_nI (by omega) (by decide)) ?_
    rw [nI_clamp (by omega)]
    rw [show vp_nar (am_ty 0) (nI (x.2.2.1 + 1)) = nI (x.2.2.1 + 1) from rfl]
    refine wp_vret rfl rfl (by
      have h4 := grS_404 h3 (upd P.2.2.1 g (nI (x.2.2.1 + 1)))
      have h9 := hq _ _ (fr_upd hf3 (by simp)) h4
      rw [eA] at h9
      refine h9 (fun i y hy => ?_)
      rcases at_put hy with ⟨g1, g2⟩ | ⟨g1, g2⟩
      · subst g1; subst g2; exact ⟨a1, a2, pk_us, pk_uLs, pk_uLs, pk_uLs⟩
      · obtain ⟨b1, b2, b3, b4, b5, b6⟩ := hD i y g2
        exact ⟨b1, b2, (pk_un g1).trans b3, (pk_uLn g1).trans b4, (pk_uLn g1).trans b5, (pk_uLn g1).trans b6⟩)
  have K2 : ∀ S1 z, grS S1 cn (P.1, P.2.1, P.2.2.1, P.2.2.2.1, vp_updL P.2.2.2.2.1 g (gAdd1 v x).2.2.2.2.1, P.2.2.2.2.2) → fr [401, 402, 403, 404, 405, 406, 407] S S1 → z = (gAdd1 v x).2.2.2.2.2 → wp X (d + 1) 32 57 [some (.ref 401), some (.int (nI g)), some (.long v), none] [.long z, .int (nI g), .ref 407] S1 Q := by
    intro S1 z h1 hf1 hz
    subst hz
    refine wp_last rfl h1.2.2.2.2.2.2 (am_in_nI (by omega) (by decide)) ?_
    rw [nI_clamp (by omega)]
    have h2 := grS_407 h1 (vp_updL P.2.2.2.2.2 g (gAdd1 v x).2.2.2.2.2)
    exact K3 _ h2 (fr_upd hf1 (by simp))
  have K1 : ∀ z, z = (gAdd1 v x).2.2.2.2.1 → wp X (d + 1) 32 28 [some (.ref 401), some (.int (nI g)), some (.long v), none] [.long z, .int (nI g), .ref 406] S Q := by
    intro z hz
    subst hz
    refine wp_last rfl h.2.2.2.2.2.1 (am_in_nI (by omega) (by decide)) ?_
    rw [nI_clamp (by omega)]
    have h1 := grS_406 h (vp_updL P.2.2.2.2.1 g (gAdd1 v x).2.2.2.2.1)
    have hf1 : fr [401, 402, 403, 404, 405, 406, 407] S (am_upd S 406 (lA 60 (vp_updL P.2.2.2.2.1 g (gAdd1 v x).2.2.2.2.1))) := fr_up (by simp)
    show wp X (d + 1) 32 29 [some (.ref 401), some (.int (nI g)), some (.long v), none] [] (am_upd S 406 (lA 60 (vp_updL P.2.2.2.2.1 g (gAdd1 v x).2.2.2.2.1))) Q
    generalize am_upd S 406 (lA 60 (vp_updL P.2.2.2.2.1 g (gAdd1 v x).2.2.2.2.1)) = S1 at h1 hf1 ⊢
    refine wp_step rfl rfl ?_
    refine wp_getg rfl h1.1 (by decide) rfl ?_
    iterate 2 refine wp_step rfl rfl ?_
    refine wp_getg rfl h1.1 (by decide) rfl ?_
    refine wp_step rfl rfl ?_
    refine wp_ald rfl (Or.inl ⟨rfl, rfl⟩) (by decide) h1.2.2.2.1 (am_in_nI (by omega) (by decide)) ?_
    rw [nI_clamp (by omega)]
    rw [a3]
    refine wp_if rfl (fun c0 => ?_) (fun c0 => ?_)
    · replace c0 := z_ne_t (a := x.2.2.1) (by omega) c0
      refine wp_step rfl rfl ?_
      refine wp_getg rfl h1.1 (by decide) rfl ?_
      refine wp_step rfl rfl ?_
      refine wp_lald rfl (by decide) h1.2.2.2.2.2.2 (am_in_nI (by omega) (by decide)) ?_
      rw [nI_clamp (by omega)]
      rw [a6]
      refine wp_step rfl rfl ?_
      refine wp_c0 rfl rfl (by decide) rfl rfl rfl (q_maxL ?_)
      exact K2 S1 _ h1 hf1 (by unfold gAdd1; dsimp only; rw [if_neg c0])
    · replace c0 := z_ne_f (a := x.2.2.1) (by omega) c0
      iterate 2 refine wp_step rfl rfl ?_
      exact K2 S1 v h1 hf1 (by unfold gAdd1; dsimp only; rw [if_pos c0])
  refine wp_step rfl rfl ?_
  refine wp_getg rfl h.1 (by decide) rfl ?_
  iterate 2 refine wp_step rfl rfl ?_
  refine wp_getg rfl h.1 (by decide) rfl ?_
  refine wp_step rfl rfl ?_
  refine wp_ald rfl (Or.inl ⟨rfl, rfl⟩) (by decide) h.2.2.2.1 (am_in_nI (by omega) (by decide)) ?_
  rw [nI_clamp (by omega)]
  rw [a3]
  refine wp_if rfl (fun c0 => ?_) (fun c0 => ?_)
  · replace c0 := z_ne_t (a := x.2.2.1) (by omega) c0
    refine wp_step rfl rfl ?_
    refine wp_getg rfl h.1 (by decide) rfl ?_
    refine wp_step rfl rfl ?_
    refine wp_lald rfl (by decide) h.2.2.2.2.2.1 (am_in_nI (by omega) (by decide)) ?_
    rw [nI_clamp (by omega)]
    rw [a5]
    refine wp_step rfl rfl ?_
    refine wp_c0 rfl rfl (by decide) rfl rfl rfl (q_minL ?_)
    exact K1 _ (by unfold gAdd1; dsimp only; rw [if_neg c0])
  · replace c0 := z_ne_f (a := x.2.2.1) (by omega) c0
    iterate 2 refine wp_step rfl rfl ?_
    exact K1 v (by unfold gAdd1; dsimp only; rw [if_pos c0])
end GROUPS
