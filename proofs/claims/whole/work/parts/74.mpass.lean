/-! THE MODEL: values are passed over -/
/-- left, open types, what is next -/
abbrev jMK : Type := (Nat → Int32) × (Nat → Int64) × (Nat → Int32)
def mSk (S : am_S) (K : jMK) : Prop := am_get S 425 = some (iA 40 K.1) ∧ am_get S 426 = some (lA 40 K.2.1) ∧ am_get S 427 = some (iA 40 K.2.2)
theorem mSk_fr {js : List Nat} {S T : am_S} {K : jMK} (h : mSk S K) (hf : fr js S T) (hj : ∀ j, j ∈ js → j < 425 ∨ 428 ≤ j) : mSk T K :=
  ⟨by rw [fr_get hf (fun g => by have := hj _ g; omega)]; exact h.1, by rw [fr_get hf (fun g => by have := hj _ g; omega)]; exact h.2.1, by rw [fr_get hf (fun g => by have := hj _ g; omega)]; exact h.2.2⟩
theorem mSk_5 {S : am_S} {K : jMK} (h : mSk S K) (f : Nat → Int32) : mSk (am_upd S 425 (iA 40 f)) (f, K.2.1, K.2.2) :=
  ⟨am_get_self h.1, by rw [am_get_ne (by decide)]; exact h.2.1, by rw [am_get_ne (by decide)]; exact h.2.2⟩
theorem mSk_6 {S : am_S} {K : jMK} (h : mSk S K) (f : Nat → Int64) : mSk (am_upd S 426 (lA 40 f)) (K.1, f, K.2.2) :=
  ⟨by rw [am_get_ne (by decide)]; exact h.1, am_get_self h.2.1, by rw [am_get_ne (by decide)]; exact h.2.2⟩
theorem mSk_7 {S : am_S} {K : jMK} (h : mSk S K) (f : Nat → Int32) : mSk (am_upd S 427 (iA 40 f)) (K.1, K.2.1, f) :=
  ⟨by rw [am_get_ne (by decide)]; exact h.1, by rw [am_get_ne (by decide)]; exact h.2.1, am_get_self h.2.2⟩
def agK (K K' : jMK) (D : Nat) : Prop := ∀ j, j < D → K'.1 j = K.1 j ∧ K'.2.1 j = K.2.1 j ∧ K'.2.2 j = K.2.2 j
theorem agK_refl (K : jMK) (D : Nat) : agK K K D := fun _ _ => ⟨rfl, rfl, rfl⟩
theorem agK_trans {K L N : jMK} {D E : Nat} (h : agK K L D) (h2 : agK L N E) (hd : D ≤ E) : agK K N D := fun j hj => by
  obtain ⟨a1, a2, a3⟩ := h j hj
  obtain ⟨b1, b2, b3⟩ := h2 j (by omega)
  exact ⟨b1.trans a1, b2.trans a2, b3.trans a3⟩
/-- the count of values -/
def mV (I : Nat → Int32) (chk : Bool) (n : Nat) : Prop := (chk = true → I 23 = 1 ∧ I 24 = nI (n - 1) ∧ 1 ≤ n ∧ n ≤ 1201) ∧ (chk = false → I 23 = 0)
theorem mV_gf {ks : List Nat} {I J : Nat → Int32} {chk : Bool} {n : Nat} (h : mV I chk n) (hg : gf ks I J) (h1 : 23 ∉ ks) (h2 : 24 ∉ ks) : mV J chk n :=
  ⟨fun e => ⟨(hg 23 h1).trans (h.1 e).1, (hg 24 h2).trans (h.1 e).2.1, (h.1 e).2.2⟩, fun e => (hg 23 h1).trans (h.2 e)⟩
/-- h is deep enough -/
def sf (τ : jTT) : Nat → Nat → Nat → Prop
  | 0, _, _ => False
  | h + 1, ty, fl => (2 ≤ fl → sf τ h ty (fl % 2)) ∧ (fl = 0 → ∀ t x, tix τ ty = some t → τ[t]? = some x → ∀ y, y ∈ x.2.2.2 → sf τ h y.2.1 y.2.2)
def knM (τ : jTT) (ty : Nat) : Prop := (2 ≤ ty ∧ ty ≤ 10) ∨ (10 < ty ∧ ty < 2 ^ 31 ∧ ∃ t x, tix τ ty = some t ∧ τ[t]? = some x ∧ x.2.2.1 = 0)
theorem tixk_of {τ : jTT} (hw : wfT τ) {w t k : Nat} {x : jTy} (h : tix τ w = some t) (hx : τ[t]? = some x) (hk : x.2.2.1 = k) : tixk τ w k = some t := by
  obtain ⟨x', e1, e2, e3⟩ := tix_some h
  rw [hx] at e1
  cases e1
  refine fsti_mk (Nat.zero_le _) (by omega) ?_ (fun j _ hj => ?_)
  · rw [hx]; simp [e2, hk]
  · apply decide_eq_false
    intro h9
    cases ey : τ[j]? with
    | none => rw [ey] at h9; cases h9
    | some y =>
      rw [ey] at h9
      have h8 : y.1 = w := by simp at h9; exact h9.1
      have := hw.2.2 j t y x ey hx (h8.trans e2.symm)
      omega
section MPASS
variable {X : Nat × (Nat → Int32)} {d : Nat} {st li : Int64} {b : Nat → Nat} {w lim sl : Nat} {τ : jTT} {M : jMT} {chk : Bool}
theorem q_mpush {Q : am_R → Prop} {S : am_S} {I : Nat → Int32} {K : jMK} {D : Nat} {a nx : Int32} {t : Int64} (h : am_get S 408 = some (moC I st li)) (h29 : I 29 = nI D) (hD : D < 40) (hK : mSk S K) (hq : ∀ T, fr [408, 425, 426, 427] S T → am_get T 408 = some (moC (upd I 29 (nI (D + 1))) st li) → mSk T (upd K.1 D a, vp_updL K.2.1 D t, upd K.2.2 D nx) → Q (.inl none, T)) : ev X (d + 1) 104 [.ref 408, .int a, .long t, .int nx] S Q := by
  refine ev_wp (L0 := [some (.ref 408), some (.int a), some (.long t), none, some (.int nx)]) (Nat.le_of_ble_eq_true rfl) rfl ?_
  refine wp_step rfl rfl ?_
  refine wp_getg rfl h (by decide) rfl ?_
  refine wp_step rfl rfl ?_
  refine wp_getg (v := (.int (nI D))) rfl h (by decide) (congrArg Value.int h29) ?_
  refine wp_step rfl rfl ?_
  refine wp_ast rfl (Or.inl ⟨rfl, rfl⟩) hK.1 (am_in_nI (by omega) (by decide)) ?_
  rw [nI_clamp (by omega)]
  rw [show vp_nar (am_ty 0) (a) = a from rfl]
  have h1 : am_get (am_upd S 425 (iA 40 (upd K.1 D a))) 408 = some (moC I st li) := by rw [am_get_ne (by decide)]; exact h
  have hK1 := mSk_5 hK (upd K.1 D a)
  have hf1 : fr [408, 425, 426, 427] S (am_upd S 425 (iA 40 (upd K.1 D a))) := fr_up (by simp)
  generalize am_upd S 425 (iA 40 (upd K.1 D a)) = S1 at h1 hK1 hf1 ⊢
  refine wp_step rfl rfl ?_
  refine wp_getg rfl h1 (by decide) rfl ?_
  refine wp_step rfl rfl ?_
  refine wp_getg (v := (.int (nI D))) rfl h1 (by decide) (congrArg Value.int h29) ?_
  refine wp_step rfl rfl ?_
  refine wp_last rfl hK1.2.1 (am_in_nI (by omega) (by decide)) ?_
  rw [nI_clamp (by omega)]
  have h2 : am_get (am_upd S1 426 (lA 40 (vp_updL K.2.1 D t))) 408 = some (moC I st li) := by rw [am_get_ne (by decide)]; exact h1
  have hK2 := mSk_6 hK1 (vp_updL K.2.1 D t)
  have hf2 : fr [408, 425, 426, 427] S (am_upd S1 426 (lA 40 (vp_updL K.2.1 D t))) := fr_upd hf1 (by simp)
  show wp X d 104 20 [some (.ref 408), some (.int a), some (.long t), none, some (.int nx)] [] (am_upd S1 426 (lA 40 (vp_updL K.2.1 D t))) Q
  generalize am_upd S1 426 (lA 40 (vp_updL K.2.1 D t)) = S2 at h2 hK2 hf2 ⊢
  refine wp_step rfl rfl ?_
  refine wp_getg rfl h2 (by decide) rfl ?_
  refine wp_step rfl rfl ?_
  refine wp_getg (v := (.int (nI D))) rfl h2 (by decide) (congrArg Value.int h29) ?_
  refine wp_step rfl rfl ?_
  refine wp_ast rfl (Or.inl ⟨rfl, rfl⟩) hK2.2.2 (am_in_nI (by omega) (by decide)) ?_
  rw [nI_clamp (by omega)]
  rw [show vp_nar (am_ty 0) (nx) = nx from rfl]
  have h3 : am_get (am_upd S2 427 (iA 40 (upd K.2.2 D nx))) 408 = some (moC I st li) := by rw [am_get_ne (by decide)]; exact h2
  have hK3 := mSk_7 hK2 (upd K.2.2 D nx)
  have hf3 : fr [408, 425, 426, 427] S (am_upd S2 427 (iA 40 (upd K.2.2 D nx))) := fr_upd hf2 (by simp)
  generalize am_upd S2 427 (iA 40 (upd K.2.2 D nx)) = S3 at h3 hK3 hf3 ⊢
  iterate 2 refine wp_step rfl rfl ?_
  refine wp_getg (v := (.int (nI D))) rfl h3 (by decide) (congrArg Value.int h29) ?_
  iterate 2 refine wp_step rfl rfl ?_
  rw [show nI D + Int32.ofInt 1 = nI (D + 1) from nI_add D 1]
  refine wp_putg rfl h3 (by decide) rfl rfl ?_
  rw [mkG_i rfl]
  refine wp_vret rfl rfl (hq _ (fr_upd hf3 (by simp)) (am_get_self h3) (mSk_fr hK3 (fr_up (js := [408]) (by simp)) (fun j hj => by simp at hj; omega)))
theorem q_mcounted {Q : am_R → Prop} {S : am_S} {I : Nat → Int32} {p n : Nat} (h : mR S I st li b w p lim) (hV : mV I chk n)
    (hret : ∀ T J, (chk = true → ¬ 1200 < n) → fr [408] S T → gf [24] I J → mR T J st li b w p lim → mV J chk (n + 1) → Q (.inl none, T))
    (hbad : ∀ T J, (chk = true ∧ 1200 < n) → fr [408] S T → gf [24, 25, 26] I J → mX T J st li 8 p → (∃ q, J 21 = nI q) → Q (.inl none, T)) : ev X (d + 2) 105 [.ref 408] S Q := by
  refine ev_wp (L0 := [some (.ref 408)]) (Nat.le_of_ble_eq_true rfl) rfl ?_
  cases chk with
  | false =>
    refine wp_step rfl rfl ?_
    refine wp_getg (v := (.int 0)) rfl h.1 (by decide) (congrArg Value.int (hV.2 rfl)) ?_
    refine wp_if_t rfl rfl ?_
    refine wp_vret rfl rfl (hret S I (fun e => (by cases e)) (fr_refl _ _) (gf_refl _ _) h ⟨fun e => (by cases e), fun _ => hV.2 rfl⟩)
  | true =>
    obtain ⟨v1, v2, v3, v4⟩ := hV.1 rfl
    refine wp_step rfl rfl ?_
    refine wp_getg (v := (.int 1)) rfl h.1 (by decide) (congrArg Value.int v1) ?_
    refine wp_if_f rfl rfl ?_
    refine wp_step rfl rfl ?_
    refine wp_getg (v := (.int 0)) rfl h.1 (by decide) (congrArg Value.int h.2.2.2.2.2.1) ?_
    refine wp_if_t rfl rfl ?_
    refine wp_step rfl rfl ?_
    refine wp_getg (v := (.int (nI (n - 1)))) rfl h.1 (by decide) (congrArg Value.int v2) ?_
    refine wp_step rfl rfl ?_
    refine wp_icmp rfl (fun c0 => ?_) (fun c0 => ?_)
    · replace c0 := n_ne_t (a := n - 1) (b := 1200) (by omega) (by omega) c0
      iterate 2 refine wp_step rfl rfl ?_
      refine wp_getg (v := (.int (nI (n - 1)))) rfl h.1 (by decide) (congrArg Value.int v2) ?_
      iterate 2 refine wp_step rfl rfl ?_
      rw [show nI (n - 1) + Int32.ofInt 1 = nI n from by rw [show nI (n - 1) + Int32.ofInt 1 = nI (n - 1 + 1) from nI_add (n - 1) 1, show n - 1 + 1 = n by omega]]
      refine wp_putg rfl h.1 (by decide) rfl rfl ?_
      rw [mkG_i rfl]
      refine wp_vret rfl rfl (hret _ _ (fun _ => by omega) (fr_up (by simp)) (gf_up (gf_refl _ _) (by simp)) ⟨am_get_self h.1, mBy_fr h.2.1 (fr_up (js := [408]) (by simp)) (by decide), (pk_un (by decide)).trans h.2.2.1, (pk_un (by decide)).trans h.2.2.2.1, (pk_un (by decide)).trans h.2.2.2.2.1, (pk_un (by decide)).trans h.2.2.2.2.2.1, h.2.2.2.2.2.2⟩ ⟨fun _ => ⟨(pk_un (by decide)).trans v1, by rw [pk_us]; rfl, by omega, by omega⟩, fun e => by cases e⟩)
    · replace c0 := n_ne_f (a := n - 1) (b := 1200) (by omega) (by omega) c0
      iterate 3 refine wp_step rfl rfl ?_
      refine wp_getg (v := (.int (nI p))) rfl h.1 (by decide) (congrArg Value.int h.2.2.2.1) ?_
      refine wp_c0 rfl rfl (by decide) rfl (recv_ok h.1 rfl) rfl (q_mwrong h.1 h.2.2.2.2.2.1 (fun T hf1 h1 => ?_))
      iterate 2 refine wp_step rfl rfl ?_
      refine wp_getg (v := (.int (nI (n - 1)))) rfl h1 (by decide) (congrArg Value.int ((pk_un (by decide)).trans ((pk_un (by decide)).trans v2))) ?_
      iterate 2 refine wp_step rfl rfl ?_
      refine wp_putg rfl h1 (by decide) rfl rfl ?_
      rw [mkG_i rfl]
      refine wp_vret rfl rfl (hbad _ _ ⟨rfl, by omega⟩ (fr_trans hf1 (fr_up (by simp))) (gf_up (gf_up (gf_up (gf_refl _ _) (by simp)) (by simp)) (by simp)) ⟨am_get_self h1, (pk_un (by decide)).trans pk_us, by decide, (pk_un (by decide)).trans ((pk_un (by decide)).trans pk_us)⟩ ⟨p, (pk_un (by decide)).trans ((pk_un (by decide)).trans ((pk_un (by decide)).trans h.2.2.2.1))⟩)
theorem q_mplain10 {Q : am_R → Prop} {p : Nat} {S : am_S} {I : Nat → Int32} (hb : ∀ j, b j < 256) (h : mR S I st li b w p lim)
    (hret : ∀ tv p' T J, rdX b lim p = .inr (tv, p') → fr [408] S T → gf [21] I J → mR T J st li b w p' lim → Q (.inl none, T))
    (hbad : ∀ k pl T J, rdX b lim p = .inl (k, pl) → fr [408] S T → gf [21, 25, 26] I J → mX T J st li k pl → (∃ q, J 21 = nI q) → Q (.inl none, T)) : ev X (d + 5) 109 [.ref 408, .int (nI 10)] S Q := by
  refine ev_wp (L0 := [some (.ref 408), some (.int (nI 10)), none]) (Nat.le_of_ble_eq_true rfl) rfl ?_
  iterate 2 refine wp_step rfl rfl ?_
  refine wp_icmp rfl (fun c0 => ?_) (fun c0 => ?_)
  · replace c0 := n_ne_t (a := 10) (b := 10) (by omega) (by omega) c0
    omega
  · replace c0 := n_ne_f (a := 10) (b := 10) (by omega) (by omega) c0
    refine wp_step rfl rfl ?_
    refine wp_c0 rfl rfl (by decide) rfl (recv_ok h.1 rfl) rfl (q_mtext hb h (fun tv p' T J e1 hf hg h1 => ?_) (fun k pl T J e1 hf hg h1 hq1 => ?_))
    · refine wp_step rfl rfl ?_
      refine wp_vret rfl rfl (hret tv p' T J e1 hf hg h1)
    · refine wp_step rfl rfl ?_
      refine wp_vret rfl rfl (hbad k pl T J e1 hf hg h1 hq1)
def mO8 (T : am_S) : Prop := ∃ J st li, am_get T 408 = some (moC J st li)
/-- finish goes on -/
def FIN (X : Nat × (Nat → Int32)) (d : Nat) (Q : am_R → Prop) (T : am_S) : Prop := ∀ y1 y2 y3 : Option Value, wp X d 107 0 [some (.ref 408), y1, y2, y3] [] T Q
/-- what begin, and finish after it, do with a value that may be h deep -/
def BF (X : Nat × (Nat → Int32)) (d : Nat) (st li : Int64) (b : Nat → Nat) (w lim sl : Nat) (τ : jTT) (M : jMT) (chk : Bool) (h : Nat) : Prop := ∀ (ty fl p n D : Nat) (K : jMK) (S : am_S) (I : Nat → Int32) (Q : am_R → Prop), knM τ ty → fl ≤ 3 → sf τ h ty fl → D + h ≤ 39 → mR S I st li b w p lim → I 29 = nI D → mSk S K → mV I chk n → I 20 = nI sl → mTa S M →
  (∀ p' n' T J K', rv τ b chk lim h ty fl p n = .inr (p', n') → fr [408, 425, 426, 427] S T → gf [21, 24, 29] I J → mR T J st li b w p' lim → J 29 = nI D → mSk T K' → agK K K' D → mV J chk n' → FIN X (d + 6) Q T) →
  (∀ k pl T J K', rv τ b chk lim h ty fl p n = .inl (k, pl) → fr [408, 425, 426, 427] S T → gf [21, 24, 25, 26, 29] I J → mX T J st li k pl → mSk T K' → (∃ q, J 21 = nI q) → (∃ q, J 29 = nI q ∧ q < 2 ^ 31) → FIN X (d + 6) Q T) →
  ev X (d + 6) 106 [.ref 408, .long (lN ty), .int (nI fl)] S (fun r => ∃ T, r = (.inl none, T) ∧ mO8 T ∧ FIN X (d + 6) Q T)
end MPASS
