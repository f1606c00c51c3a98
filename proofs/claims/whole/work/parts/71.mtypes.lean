/-! THE MODEL: types -/
/-- how many types, ids, names, kinds, how many fields, their names, types, flags -/
abbrev jMT : Type := (Nat → Int32) × (Nat → Int64) × (Nat → Int32) × (Nat → Int32) × (Nat → Int32) × (Nat → Int32) × (Nat → Int64) × (Nat → Int32)
def mTa (S : am_S) (M : jMT) : Prop := am_get S 417 = some (iA 8 M.1) ∧ am_get S 418 = some (lA 80 M.2.1) ∧ am_get S 419 = some (iA 80 M.2.2.1) ∧ am_get S 420 = some (iA 80 M.2.2.2.1) ∧ am_get S 421 = some (iA 80 M.2.2.2.2.1) ∧ am_get S 422 = some (iA 640 M.2.2.2.2.2.1) ∧ am_get S 423 = some (lA 640 M.2.2.2.2.2.2.1) ∧ am_get S 424 = some (iA 640 M.2.2.2.2.2.2.2)
theorem mTa_fr {js : List Nat} {S T : am_S} {M : jMT} (h : mTa S M) (hf : fr js S T) (hj : ∀ j, j ∈ js → j < 417 ∨ 425 ≤ j) : mTa T M := by
  obtain ⟨h0, h1, h2, h3, h4, h5, h6, h7⟩ := h
  exact ⟨by rw [fr_get hf (fun g => by have := hj _ g; omega)]; exact h0, by rw [fr_get hf (fun g => by have := hj _ g; omega)]; exact h1, by rw [fr_get hf (fun g => by have := hj _ g; omega)]; exact h2, by rw [fr_get hf (fun g => by have := hj _ g; omega)]; exact h3, by rw [fr_get hf (fun g => by have := hj _ g; omega)]; exact h4, by rw [fr_get hf (fun g => by have := hj _ g; omega)]; exact h5, by rw [fr_get hf (fun g => by have := hj _ g; omega)]; exact h6, by rw [fr_get hf (fun g => by have := hj _ g; omega)]; exact h7⟩
theorem mTa_417 {S : am_S} {M : jMT} (h : mTa S M) (f : Nat → Int32) : mTa (am_upd S 417 (iA 8 f)) (f, M.2.1, M.2.2.1, M.2.2.2.1, M.2.2.2.2.1, M.2.2.2.2.2.1, M.2.2.2.2.2.2.1, M.2.2.2.2.2.2.2) := by
  obtain ⟨h0, h1, h2, h3, h4, h5, h6, h7⟩ := h
  exact ⟨am_get_self h0, by rw [am_get_ne (by decide)]; exact h1, by rw [am_get_ne (by decide)]; exact h2, by rw [am_get_ne (by decide)]; exact h3, by rw [am_get_ne (by decide)]; exact h4, by rw [am_get_ne (by decide)]; exact h5, by rw [am_get_ne (by decide)]; exact h6, by rw [am_get_ne (by decide)]; exact h7⟩
theorem mTa_418 {S : am_S} {M : jMT} (h : mTa S M) (f : Nat → Int64) : mTa (am_upd S 418 (lA 80 f)) (M.1, f, M.2.2.1, M.2.2.2.1, M.2.2.2.2.1, M.2.2.2.2.2.1, M.2.2.2.2.2.2.1, M.2.2.2.2.2.2.2) := by
  obtain ⟨h0, h1, h2, h3, h4, h5, h6, h7⟩ := h
  exact ⟨by rw [am_get_ne (by decide)]; exact h0, am_get_self h1, by rw [am_get_ne (by decide)]; exact h2, by rw [am_get_ne (by decide)]; exact h3, by rw [am_get_ne (by decide)]; exact h4, by rw [am_get_ne (by decide)]; exact h5, by rw [am_get_ne (by decide)]; exact h6, by rw [am_get_ne (by decide)]; exact h7⟩
theorem mTa_419 {S : am_S} {M : jMT} (h : mTa S M) (f : Nat → Int32) : mTa (am_upd S 419 (iA 80 f)) (M.1, M.2.1, f, M.2.2.2.1, M.2.2.2.2.1, M.2.2.2.2.2.1, M.2.2.2.2.2.2.1, M.2.2.2.2.2.2.2) := by
  obtain ⟨h0, h1, h2, h3, h4, h5, h6, h7⟩ := h
  exact ⟨by rw [am_get_ne (by decide)]; exact h0, by rw [am_get_ne (by decide)]; exact h1, am_get_self h2, by rw [am_get_ne (by decide)]; exact h3, by rw [am_get_ne (by decide)]; exact h4, by rw [am_get_ne (by decide)]; exact h5, by rw [am_get_ne (by decide)]; exact h6, by rw [am_get_ne (by decide)]; exact h7⟩
theorem mTa_420 {S : am_S} {M : jMT} (h : mTa S M) (f : Nat → Int32) : mTa (am_upd S 420 (iA 80 f)) (M.1, M.2.1, M.2.2.1, f, M.2.2.2.2.1, M.2.2.2.2.2.1, M.2.2.2.2.2.2.1, M.2.2.2.2.2.2.2) := by
  obtain ⟨h0, h1, h2, h3, h4, h5, h6, h7⟩ := h
  exact ⟨by rw [am_get_ne (by decide)]; exact h0, by rw [am_get_ne (by decide)]; exact h1, by rw [am_get_ne (by decide)]; exact h2, am_get_self h3, by rw [am_get_ne (by decide)]; exact h4, by rw [am_get_ne (by decide)]; exact h5, by rw [am_get_ne (by decide)]; exact h6, by rw [am_get_ne (by decide)]; exact h7⟩
theorem mTa_421 {S : am_S} {M : jMT} (h : mTa S M) (f : Nat → Int32) : mTa (am_upd S 421 (iA 80 f)) (M.1, M.2.1, M.2.2.1, M.2.2.2.1, f, M.2.2.2.2.2.1, M.2.2.2.2.2.2.1, M.2.2.2.2.2.2.2) := by
  obtain ⟨h0, h1, h2, h3, h4, h5, h6, h7⟩ := h
  exact ⟨by rw [am_get_ne (by decide)]; exact h0, by rw [am_get_ne (by decide)]; exact h1, by rw [am_get_ne (by decide)]; exact h2, by rw [am_get_ne (by decide)]; exact h3, am_get_self h4, by rw [am_get_ne (by decide)]; exact h5, by rw [am_get_ne (by decide)]; exact h6, by rw [am_get_ne (by decide)]; exact h7⟩
theorem mTa_422 {S : am_S} {M : jMT} (h : mTa S M) (f : Nat → Int32) : mTa (am_upd S 422 (iA 640 f)) (M.1, M.2.1, M.2.2.1, M.2.2.2.1, M.2.2.2.2.1, f, M.2.2.2.2.2.2.1, M.2.2.2.2.2.2.2) := by
  obtain ⟨h0, h1, h2, h3, h4, h5, h6, h7⟩ := h
  exact ⟨by rw [am_get_ne (by decide)]; exact h0, by rw [am_get_ne (by decide)]; exact h1, by rw [am_get_ne (by decide)]; exact h2, by rw [am_get_ne (by decide)]; exact h3, by rw [am_get_ne (by decide)]; exact h4, am_get_self h5, by rw [am_get_ne (by decide)]; exact h6, by rw [am_get_ne (by decide)]; exact h7⟩
theorem mTa_423 {S : am_S} {M : jMT} (h : mTa S M) (f : Nat → Int64) : mTa (am_upd S 423 (lA 640 f)) (M.1, M.2.1, M.2.2.1, M.2.2.2.1, M.2.2.2.2.1, M.2.2.2.2.2.1, f, M.2.2.2.2.2.2.2) := by
  obtain ⟨h0, h1, h2, h3, h4, h5, h6, h7⟩ := h
  exact ⟨by rw [am_get_ne (by decide)]; exact h0, by rw [am_get_ne (by decide)]; exact h1, by rw [am_get_ne (by decide)]; exact h2, by rw [am_get_ne (by decide)]; exact h3, by rw [am_get_ne (by decide)]; exact h4, by rw [am_get_ne (by decide)]; exact h5, am_get_self h6, by rw [am_get_ne (by decide)]; exact h7⟩
theorem mTa_424 {S : am_S} {M : jMT} (h : mTa S M) (f : Nat → Int32) : mTa (am_upd S 424 (iA 640 f)) (M.1, M.2.1, M.2.2.1, M.2.2.2.1, M.2.2.2.2.1, M.2.2.2.2.2.1, M.2.2.2.2.2.2.1, f) := by
  obtain ⟨h0, h1, h2, h3, h4, h5, h6, h7⟩ := h
  exact ⟨by rw [am_get_ne (by decide)]; exact h0, by rw [am_get_ne (by decide)]; exact h1, by rw [am_get_ne (by decide)]; exact h2, by rw [am_get_ne (by decide)]; exact h3, by rw [am_get_ne (by decide)]; exact h4, by rw [am_get_ne (by decide)]; exact h5, by rw [am_get_ne (by decide)]; exact h6, am_get_self h7⟩
/-- the fields of the model's type s -/
def mFs (M : jMT) (s : Nat) (fs : List jFd) : Prop := M.2.2.2.2.1 s = nI fs.length ∧ ∀ (f : Nat) (y : jFd), fs[f]? = some y → M.2.2.2.2.2.1 (8 * s + f) = nI y.1 ∧ M.2.2.2.2.2.2.1 (8 * s + f) = lN y.2.1 ∧ M.2.2.2.2.2.2.2 (8 * s + f) = nI y.2.2
def mT1 (M : jMT) (s : Nat) (x : jTy) : Prop := M.2.1 s = lN x.1 ∧ M.2.2.1 s = nI x.2.1 ∧ M.2.2.2.1 s = nI x.2.2.1 ∧ mFs M s x.2.2.2
/-- the types of slot sl -/
def mTy (M : jMT) (sl : Nat) (τ : jTT) : Prop := M.1 sl = nI τ.length ∧ ∀ (t : Nat) (x : jTy), τ[t]? = some x → mT1 M (10 * sl + t) x
def mO (sl : Nat) : Option Nat → Int32
  | none => -1
  | some t => nI (10 * sl + t)
def tof (τ : jTT) (id : Nat) : Option Nat → Option Nat
  | none => tix τ id
  | some k => tixk τ id k
def tfP (τ : jTT) (id : Nat) (kd : Option Nat) (t : Nat) : Bool := match kd with
  | none => decide (τ[t]?.map (fun x => x.1) = some id)
  | some k => decide (τ[t]?.map (fun x => (x.1, x.2.2.1)) = some (id, k))
theorem tof_eq (τ : jTT) (id : Nat) (kd : Option Nat) : tof τ id kd = fsti (tfP τ id kd) τ.length 0 := by
  cases kd with
  | none => rfl
  | some k => rfl
section MTYPES
variable {X : Nat × (Nat → Int32)} {d : Nat} {Q : am_R → Prop} {S : am_S} {I : Nat → Int32} {st li : Int64} {M : jMT} {τ : jTT} {sl : Nat}
set_option maxHeartbeats 1000000 in
theorem to_loop {id : Nat} {kd : Option Nat} (h : am_get S 408 = some (moC I st li)) (h20 : I 20 = nI sl) (hM : mTa S M) (hT : mTy M sl τ) (hsl : sl < 8) (hl : τ.length ≤ 10) (hid : id < 2 ^ 31) (hkd : ∀ k, kd = some k → k < 2 ^ 31) (hb : ∀ (i : Nat) (x : jTy), τ[i]? = some x → x.1 < 2 ^ 31 ∧ x.2.2.1 < 2 ^ 31) : ∀ (m i : Nat) (x5 : Option Value), i + m = τ.length → Q (.inl (some (.int (mO sl (fsti (tfP τ id kd) m i)))), S) → wp X d 102 3 [some (.ref 408), some (.long (lN id)), none, some (.int (oI kd)), some (.int (nI i)), x5] [] S Q := by
  intro m
  induction m with
  | zero =>
    intro i x5 hi hq
    have e9 : i = τ.length := by omega
    subst e9
    iterate 2 refine wp_step rfl rfl ?_
    refine wp_getg rfl h (by decide) rfl ?_
    refine wp_step rfl rfl ?_
    refine wp_getg (v := (.int (nI sl))) rfl h (by decide) (congrArg Value.int h20) ?_
    refine wp_ald rfl (Or.inl ⟨rfl, rfl⟩) (by decide) hM.1 (am_in_nI (by omega) (by decide)) ?_
    rw [nI_clamp (by omega)]
    rw [hT.1]
    refine wp_icmp rfl (fun c0 => ?_) (fun c0 => ?_)
    · replace c0 := n_ge_t (a := τ.length) (b := τ.length) (by omega) (by omega) c0
      refine wp_step rfl rfl ?_
      refine wp_iret rfl rfl rfl hq
    · replace c0 := n_ge_f (a := τ.length) (b := τ.length) (by omega) (by omega) c0
      omega
  | succ m ih =>
    intro i x5 hi hq
    iterate 2 refine wp_step rfl rfl ?_
    refine wp_getg rfl h (by decide) rfl ?_
    refine wp_step rfl rfl ?_
    refine wp_getg (v := (.int (nI sl))) rfl h (by decide) (congrArg Value.int h20) ?_
    refine wp_ald rfl (Or.inl ⟨rfl, rfl⟩) (by decide) hM.1 (am_in_nI (by omega) (by decide)) ?_
    rw [nI_clamp (by omega)]
    rw [hT.1]
    refine wp_icmp rfl (fun c0 => ?_) (fun c0 => ?_)
    · replace c0 := n_ge_t (a := i) (b := τ.length) (by omega) (by omega) c0
      omega
    · replace c0 := n_ge_f (a := i) (b := τ.length) (by omega) (by omega) c0
      obtain ⟨x, hx⟩ : ∃ x, τ[i]? = some x := ⟨_, List.getElem?_eq_getElem c0⟩
      obtain ⟨a1, a2, a3, a4⟩ := hT.2 i x hx
      have hxb := hb i x hx
      unfold fsti at hq
      have nx : tfP τ id kd i = false → ∀ z, wp X d 102 59 [some (.ref 408), some (.long (lN id)), none, some (.int (oI kd)), some (.int (nI i)), z] [] S Q := by
        intro h9 z
        rw [if_neg (by rw [h9]; decide)] at hq
        iterate 2 refine wp_step rfl rfl ?_
        rw [show nI i + Int32.ofInt 1 = nI (i + 1) from nI_add i 1]
        exact ih (i + 1) _ (by omega) hq
      iterate 2 refine wp_step rfl rfl ?_
      refine wp_getg (v := (.int (nI sl))) rfl h (by decide) (congrArg Value.int h20) ?_
      iterate 3 refine wp_step rfl rfl ?_
      rw [show (Int8.ofInt 10).toInt32 * nI sl = nI (10 * sl) from pk_mul 10 sl, nI_add]
      refine wp_step rfl rfl ?_
      show wp X d 102 29 [some (.ref 408), some (.long (lN id)), none, some (.int (oI kd)), some (.int (nI i)), some (.int (nI (10 * sl + i)))] [] S Q
      refine wp_step rfl rfl ?_
      refine wp_getg rfl h (by decide) rfl ?_
      refine wp_step rfl rfl ?_
      refine wp_lald rfl (by decide) hM.2.1 (am_in_nI (by omega) (by decide)) ?_
      rw [nI_clamp (by omega)]
      rw [a1]
      iterate 2 refine wp_step rfl rfl ?_
      refine wp_if rfl (fun c1 => ?_) (fun c1 => ?_)
      · replace c1 := l_ne_t c1
        exact nx (by
          have h9 : ¬ x.1 = id := fun e => c1 (by rw [e])
          cases kd with
          | none => unfold tfP; dsimp only; rw [hx]; simp [h9]
          | some k => unfold tfP; dsimp only; rw [hx]; simp [h9]) _
      · replace c1 := l_ne_f c1
        replace c1 : x.1 = id := (lN_eq (by omega) (by omega)).mp c1
        cases kd with
        | none =>
          refine wp_step rfl rfl ?_
          refine wp_if_t rfl rfl ?_
          refine wp_step rfl rfl ?_
          refine wp_iret rfl rfl rfl (by rw [if_pos (by unfold tfP; dsimp only; rw [hx]; simp [c1])] at hq; exact hq)
        | some k =>
          unfold oI at nx ⊢
          dsimp only at nx ⊢
          have hkb := hkd k rfl
          refine wp_step rfl rfl ?_
          refine wp_if rfl (fun c2 => ?_) (fun c2 => ?_)
          · replace c2 := z_lt_t (a := k) (by omega) c2
            exact c2.elim
          · replace c2 := z_lt_f (a := k) (by omega) c2
            refine wp_step rfl rfl ?_
            refine wp_getg rfl h (by decide) rfl ?_
            refine wp_step rfl rfl ?_
            refine wp_ald rfl (Or.inl ⟨rfl, rfl⟩) (by decide) hM.2.2.2.1 (am_in_nI (by omega) (by decide)) ?_
            rw [nI_clamp (by omega)]
            rw [a3]
            refine wp_step rfl rfl ?_
            refine wp_icmp rfl (fun c3 => ?_) (fun c3 => ?_)
            · replace c3 := n_ne_t (a := x.2.2.1) (b := k) (by omega) (by omega) c3
              exact nx (by unfold tfP; dsimp only; rw [hx]; simp [c3]) _
            · replace c3 := n_ne_f (a := x.2.2.1) (b := k) (by omega) (by omega) c3
              refine wp_step rfl rfl ?_
              refine wp_iret rfl rfl rfl (by rw [if_pos (by unfold tfP; dsimp only; rw [hx]; simp [c1, c3])] at hq; exact hq)
theorem q_mtypeOf {id : Nat} {kd : Option Nat} (h : am_get S 408 = some (moC I st li)) (h20 : I 20 = nI sl) (hM : mTa S M) (hT : mTy M sl τ) (hsl : sl < 8) (hl : τ.length ≤ 10) (hid : id < 2 ^ 31) (hkd : ∀ k, kd = some k → k < 2 ^ 31) (hb : ∀ (i : Nat) (x : jTy), τ[i]? = some x → x.1 < 2 ^ 31 ∧ x.2.2.1 < 2 ^ 31) (hq : Q (.inl (some (.int (mO sl (tof τ id kd)))), S)) : ev X (d + 1) 102 [.ref 408, .long (lN id), .int (oI kd)] S Q := by
  refine ev_wp (L0 := [some (.ref 408), some (.long (lN id)), none, some (.int (oI kd)), none, none]) (Nat.le_of_ble_eq_true rfl) rfl ?_
  iterate 2 refine wp_step rfl rfl ?_
  exact to_loop h h20 hM hT hsl hl hid hkd hb τ.length 0 none (by omega) (by rw [← tof_eq]; exact hq)
theorem fo_loop {s nm : Nat} {fs : List jFd} (h : am_get S 408 = some (moC I st li)) (hM : mTa S M) (hF : mFs M s fs) (hs : s < 80) (hl : fs.length ≤ 8) (hnm : nm < 2 ^ 31) (hb : ∀ (i : Nat) (y : jFd), fs[i]? = some y → y.1 < 2 ^ 31) : ∀ (m i : Nat), i + m = fs.length → Q (.inl (some (.int (oI (fsti (fun i => decide (fs[i]?.map (fun y => y.1) = some nm)) m i)))), S) → wp X d 103 2 [some (.ref 408), some (.int (nI s)), some (.int (nI nm)), some (.int (nI i))] [] S Q := by
  intro m
  induction m with
  | zero =>
    intro i hi hq
    have e9 : i = fs.length := by omega
    subst e9
    iterate 2 refine wp_step rfl rfl ?_
    refine wp_getg rfl h (by decide) rfl ?_
    refine wp_step rfl rfl ?_
    refine wp_ald rfl (Or.inl ⟨rfl, rfl⟩) (by decide) hM.2.2.2.2.1 (am_in_nI (by omega) (by decide)) ?_
    rw [nI_clamp (by omega)]
    rw [hF.1]
    refine wp_icmp rfl (fun c0 => ?_) (fun c0 => ?_)
    · replace c0 := n_ge_t (a := fs.length) (b := fs.length) (by omega) (by omega) c0
      refine wp_step rfl rfl ?_
      refine wp_iret rfl rfl rfl hq
    · replace c0 := n_ge_f (a := fs.length) (b := fs.length) (by omega) (by omega) c0
      omega
  | succ m ih =>
    intro i hi hq
    iterate 2 refine wp_step rfl rfl ?_
    refine wp_getg rfl h (by decide) rfl ?_
    refine wp_step rfl rfl ?_
    refine wp_ald rfl (Or.inl ⟨rfl, rfl⟩) (by decide) hM.2.2.2.2.1 (am_in_nI (by omega) (by decide)) ?_
    rw [nI_clamp (by omega)]
    rw [hF.1]
    refine wp_icmp rfl (fun c0 => ?_) (fun c0 => ?_)
    · replace c0 := n_ge_t (a := i) (b := fs.length) (by omega) (by omega) c0
      omega
    · replace c0 := n_ge_f (a := i) (b := fs.length) (by omega) (by omega) c0
      obtain ⟨y, hy⟩ : ∃ y, fs[i]? = some y := ⟨_, List.getElem?_eq_getElem c0⟩
      have a1 := (hF.2 i y hy).1
      have hyb := hb i y hy
      unfold fsti at hq
      refine wp_step rfl rfl ?_
      refine wp_getg rfl h (by decide) rfl ?_
      iterate 5 refine wp_step rfl rfl ?_
      rw [show (Int8.ofInt 8).toInt32 * nI s = nI (8 * s) from pk_mul 8 s, nI_add]
      refine wp_ald rfl (Or.inl ⟨rfl, rfl⟩) (by decide) hM.2.2.2.2.2.1 (am_in_nI (by omega) (by decide)) ?_
      rw [nI_clamp (by omega)]
      rw [a1]
      refine wp_step rfl rfl ?_
      refine wp_icmp rfl (fun c1 => ?_) (fun c1 => ?_)
      · replace c1 := n_ne_t (a := y.1) (b := nm) (by omega) (by omega) c1
        rw [if_neg (by rw [hy]; simp [c1])] at hq
        iterate 2 refine wp_step rfl rfl ?_
        rw [show nI i + Int32.ofInt 1 = nI (i + 1) from nI_add i 1]
        exact ih (i + 1) (by omega) hq
      · replace c1 := n_ne_f (a := y.1) (b := nm) (by omega) (by omega) c1
        rw [if_pos (by rw [hy]; simp [c1])] at hq
        refine wp_step rfl rfl ?_
        refine wp_iret rfl rfl rfl hq
theorem q_mfieldOf {s nm : Nat} {fs : List jFd} (h : am_get S 408 = some (moC I st li)) (hM : mTa S M) (hF : mFs M s fs) (hs : s < 80) (hl : fs.length ≤ 8) (hnm : nm < 2 ^ 31) (hb : ∀ (i : Nat) (y : jFd), fs[i]? = some y → y.1 < 2 ^ 31) (hq : Q (.inl (some (.int (oI (fdx fs nm)))), S)) : ev X (d + 1) 103 [.ref 408, .int (nI s), .int (nI nm)] S Q := by
  refine ev_wp (L0 := [some (.ref 408), some (.int (nI s)), some (.int (nI nm)), none]) (Nat.le_of_ble_eq_true rfl) rfl ?_
  iterate 2 refine wp_step rfl rfl ?_
  exact fo_loop h hM hF hs hl hnm hb fs.length 0 (by omega) hq
end MTYPES
