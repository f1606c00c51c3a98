/-! THE MODEL: letters that are typed; ckQ -/
theorem ckQ_of {S : am_S} {b : Nat → Nat} {tot R l : Nat} {A : jVA} {E : jEA} {re : jRe} (h : reO S b tot R l A E re) : ckQ b tot re := by
  intro i ck hck
  obtain ⟨g1, g2, _, _, _, _, _, g8⟩ := h.2.2.2.2.2.2.2.2.2.2.1 ck (mem_at hck)
  exact ⟨g8, by omega⟩
def ltr (cs : List Nat) (k : Nat) : Nat := match cs[k]? with
  | some x => x
  | none => 0
def mdg (c : Nat) : Bool := decide (48 ≤ c ∧ c ≤ 57)
def msp (c : Nat) : Bool := decide (97 ≤ c ∧ c ≤ 122) || mdg c
def mop (c : Nat) : Bool := decide (c = 61 ∨ c = 35 ∨ c = 60 ∨ c = 62)
section MLETTERS
variable {X : Nat × (Nat → Int32)} {d : Nat} {Q : am_R → Prop} {S : am_S} {I : Nat → Int32} {st li : Int64}
theorem q_mtype {cs : List Nat} {ty : Nat → Int32} {c : Nat} (h : am_get S 408 = some (moC I st li)) (h38 : I 38 = nI cs.length) (h40 : cs.length ≤ 40) (ht : am_get S 428 = some (iA 40 ty)) (hD : mFD ty cs) (hc : c < 65536)
    (hno : (cs.length = 40 ∨ c < 32 ∨ 126 < c) → ∀ T J, fr [408] S T → gf [0] I J → am_get T 408 = some (moC J st li) → J 0 = 0 → Q (.inl (some (.int 0)), T))
    (hyes : ¬ (cs.length = 40 ∨ c < 32 ∨ 126 < c) → ∀ ty' T J, fr [408, 428] S T → gf [0, 38] I J → am_get T 408 = some (moC J st li) → J 0 = 0 → J 38 = nI (cs ++ [c]).length → am_get T 428 = some (iA 40 ty') → mFD ty' (cs ++ [c]) → Q (.inl (some (.int 1)), T)) : ev X (d + 1) 143 [.ref 408, .int (nI c)] S Q := by
  refine ev_wp (L0 := [some (.ref 408), some (.int (nI c))]) (Nat.le_of_ble_eq_true rfl) rfl ?_
  iterate 2 refine wp_step rfl rfl ?_
  refine wp_putg rfl h (by decide) rfl rfl ?_
  rw [mkG_i rfl]
  have h1 : am_get (am_upd S 408 (moC (upd I 0 (Int32.ofInt 0)) st li)) 408 = some (moC (upd I 0 (Int32.ofInt 0)) st li) := am_get_self h
  have hf1 : fr [408] S (am_upd S 408 (moC (upd I 0 (Int32.ofInt 0)) st li)) := fr_up (by simp)
  generalize am_upd S 408 (moC (upd I 0 (Int32.ofInt 0)) st li) = S1 at h1 hf1 ⊢
  have hg1 : gf [0] I (upd I 0 (Int32.ofInt 0)) := gf_up (gf_refl _ _) (by simp)
  have k0 : (upd I 0 (Int32.ofInt 0)) 0 = 0 := pk_us
  generalize upd I 0 (Int32.ofInt 0) = I1 at h1 hg1 k0
  have h381 : I1 38 = nI cs.length := (hg1 38 (by decide)).trans h38
  have ht1 : am_get S1 428 = some (iA 40 ty) := by rw [fr_get hf1 (by decide)]; exact ht
  refine wp_step rfl rfl ?_
  refine wp_getg (v := (.int (nI cs.length))) rfl h1 (by decide) (congrArg Value.int h381) ?_
  refine wp_step rfl rfl ?_
  refine wp_icmp rfl (fun c0 => ?_) (fun c0 => ?_)
  · replace c0 := n_eq_t (a := cs.length) (b := 40) (by omega) (by omega) c0
    refine wp_step rfl rfl ?_
    refine wp_iret rfl rfl rfl (hno (Or.inl c0) S1 I1 hf1 hg1 h1 k0)
  · replace c0 := n_eq_f (a := cs.length) (b := 40) (by omega) (by omega) c0
    iterate 2 refine wp_step rfl rfl ?_
    refine wp_icmp rfl (fun c1 => ?_) (fun c1 => ?_)
    · replace c1 := n_lt_t (a := c) (b := 32) (by omega) (by omega) c1
      refine wp_step rfl rfl ?_
      refine wp_iret rfl rfl rfl (hno (Or.inr (Or.inl c1)) S1 I1 hf1 hg1 h1 k0)
    · replace c1 := n_lt_f (a := c) (b := 32) (by omega) (by omega) c1
      iterate 2 refine wp_step rfl rfl ?_
      refine wp_icmp rfl (fun c2 => ?_) (fun c2 => ?_)
      · replace c2 := n_le_t (a := c) (b := 126) (by omega) (by omega) c2
        refine wp_step rfl rfl ?_
        refine wp_getg rfl h1 (by decide) rfl ?_
        refine wp_step rfl rfl ?_
        refine wp_getg (v := (.int (nI cs.length))) rfl h1 (by decide) (congrArg Value.int h381) ?_
        refine wp_step rfl rfl ?_
        refine wp_ast rfl (Or.inl ⟨rfl, rfl⟩) ht1 (am_in_nI (by omega) (by decide)) ?_
        rw [nI_clamp (by omega)]
        rw [show vp_nar (am_ty 0) (nI c) = nI c from rfl]
        have h2 : am_get (am_upd S1 428 (iA 40 (upd ty cs.length (nI c)))) 408 = some (moC I1 st li) := (am_get_ne (by decide)).trans h1
        have ht2 : am_get (am_upd S1 428 (iA 40 (upd ty cs.length (nI c)))) 428 = some (iA 40 (upd ty cs.length (nI c))) := am_get_self ht1
        have hf2 : fr [408, 428] S (am_upd S1 428 (iA 40 (upd ty cs.length (nI c)))) := fr_trans (fr_mono hf1 (fun j hj => by simp only [List.mem_cons, List.not_mem_nil, or_false] at hj ⊢; omega)) (fr_up (by simp))
        generalize am_upd S1 428 (iA 40 (upd ty cs.length (nI c))) = S2 at h2 ht2 hf2 ⊢
        iterate 2 refine wp_step rfl rfl ?_
        refine wp_getg (v := (.int (nI cs.length))) rfl h2 (by decide) (congrArg Value.int h381) ?_
        iterate 2 refine wp_step rfl rfl ?_
        rw [show nI cs.length + Int32.ofInt 1 = nI (cs.length + 1) from nI_add cs.length 1]
        refine wp_putg rfl h2 (by decide) rfl rfl ?_
        rw [mkG_i rfl]
        refine wp_step rfl rfl ?_
        refine wp_iret rfl rfl rfl ?_
        refine hyes (by omega) _ _ _ (fr_trans hf2 (fr_up (by simp))) (gf_up (gf_mono hg1 (fun j hj => by simp only [List.mem_cons, List.not_mem_nil, or_false] at hj ⊢; omega)) (by simp)) (am_get_self h2) ((pk_un (by decide)).trans k0) (pk_us.trans (by simp)) ((am_get_ne (by decide)).trans ht2) ?_
        intro i x hx
        rcases at_app hx with ⟨g1, g2⟩ | ⟨g1, g2⟩
        · rw [pk_un (by omega)]; exact hD i x g2
        · subst g1; subst g2; exact pk_us
      · replace c2 := n_le_f (a := c) (b := 126) (by omega) (by omega) c2
        refine wp_step rfl rfl ?_
        refine wp_iret rfl rfl rfl (hno (Or.inr (Or.inr c2)) S1 I1 hf1 hg1 h1 k0)
theorem q_mletterAt {cs : List Nat} {ty : Nat → Int32} {k : Nat} (h : am_get S 408 = some (moC I st li)) (h38 : I 38 = nI cs.length) (h40 : cs.length ≤ 40) (ht : am_get S 428 = some (iA 40 ty)) (hD : mFD ty cs) (hk : k < 2 ^ 31) (hq : Q (.inl (some (.int (nI (ltr cs k)))), S)) : ev X (d + 1) 144 [.ref 408, .int (nI k)] S Q := by
  refine ev_wp (L0 := [some (.ref 408), some (.int (nI k))]) (Nat.le_of_ble_eq_true rfl) rfl ?_
  iterate 2 refine wp_step rfl rfl ?_
  refine wp_getg (v := (.int (nI cs.length))) rfl h (by decide) (congrArg Value.int h38) ?_
  refine wp_icmp rfl (fun c0 => ?_) (fun c0 => ?_)
  · replace c0 := n_ge_t (a := k) (b := cs.length) (by omega) (by omega) c0
    refine wp_step rfl rfl ?_
    refine wp_iret rfl rfl rfl ?_
    rw [show ltr cs k = 0 by unfold ltr; rw [List.getElem?_eq_none (by omega)]] at hq
    exact hq
  · replace c0 := n_ge_f (a := k) (b := cs.length) (by omega) (by omega) c0
    refine wp_step rfl rfl ?_
    refine wp_getg rfl h (by decide) rfl ?_
    refine wp_step rfl rfl ?_
    refine wp_ald rfl (Or.inl ⟨rfl, rfl⟩) (by decide) ht (am_in_nI (by omega) (by decide)) ?_
    rw [nI_clamp (by omega)]
    obtain ⟨x, hx⟩ : ∃ x, cs[k]? = some x := ⟨_, List.getElem?_eq_getElem c0⟩
    rw [hD k x hx]
    rw [show ltr cs k = x by unfold ltr; rw [hx]] at hq
    refine wp_step rfl rfl ?_
    refine wp_iret rfl rfl rfl hq
theorem q_misDigit {c : Nat} (hc : c < 2 ^ 31) (hq : Q (.inl (some (.int (bI (mdg c)))), S)) : ev X (d + 1) 145 [.int (nI c)] S Q := by
  refine ev_wp (L0 := [some (.int (nI c))]) (Nat.le_of_ble_eq_true rfl) rfl ?_
  iterate 2 refine wp_step rfl rfl ?_
  refine wp_icmp rfl (fun c0 => ?_) (fun c0 => ?_)
  · replace c0 := n_lt_t (a := c) (b := 48) (by omega) (by omega) c0
    refine wp_step rfl rfl ?_
    refine wp_iret rfl rfl rfl ?_
    rw [show mdg c = false from decide_eq_false (by omega)] at hq
    exact hq
  · replace c0 := n_lt_f (a := c) (b := 48) (by omega) (by omega) c0
    iterate 2 refine wp_step rfl rfl ?_
    refine wp_icmp rfl (fun c1 => ?_) (fun c1 => ?_)
    · replace c1 := n_gt_t (a := c) (b := 57) (by omega) (by omega) c1
      refine wp_step rfl rfl ?_
      refine wp_iret rfl rfl rfl ?_
      rw [show mdg c = false from decide_eq_false (by omega)] at hq
      exact hq
    · replace c1 := n_gt_f (a := c) (b := 57) (by omega) (by omega) c1
      iterate 2 refine wp_step rfl rfl ?_
      refine wp_iret rfl rfl rfl ?_
      rw [show mdg c = true from decide_eq_true (by omega)] at hq
      exact hq
theorem q_misOp {c : Nat} (hc : c < 2 ^ 31) (hq : Q (.inl (some (.int (bI (mop c)))), S)) : ev X (d + 1) 147 [.int (nI c)] S Q := by
  refine ev_wp (L0 := [some (.int (nI c))]) (Nat.le_of_ble_eq_true rfl) rfl ?_
  iterate 2 refine wp_step rfl rfl ?_
  refine wp_icmp rfl (fun c0 => ?_) (fun c0 => ?_)
  · replace c0 := n_eq_t (a := c) (b := 61) (by omega) (by omega) c0
    iterate 2 refine wp_step rfl rfl ?_
    refine wp_iret rfl rfl rfl ?_
    rw [show mop c = true from decide_eq_true (by omega)] at hq
    exact hq
  · replace c0 := n_eq_f (a := c) (b := 61) (by omega) (by omega) c0
    iterate 2 refine wp_step rfl rfl ?_
    refine wp_icmp rfl (fun c1 => ?_) (fun c1 => ?_)
    · replace c1 := n_eq_t (a := c) (b := 35) (by omega) (by omega) c1
      iterate 2 refine wp_step rfl rfl ?_
      refine wp_iret rfl rfl rfl ?_
      rw [show mop c = true from decide_eq_true (by omega)] at hq
      exact hq
    · replace c1 := n_eq_f (a := c) (b := 35) (by omega) (by omega) c1
      iterate 2 refine wp_step rfl rfl ?_
      refine wp_icmp rfl (fun c2 => ?_) (fun c2 => ?_)
      · replace c2 := n_eq_t (a := c) (b := 60) (by omega) (by omega) c2
        iterate 2 refine wp_step rfl rfl ?_
        refine wp_iret rfl rfl rfl ?_
        rw [show mop c = true from decide_eq_true (by omega)] at hq
        exact hq
      · replace c2 := n_eq_f (a := c) (b := 60) (by omega) (by omega) c2
        iterate 2 refine wp_step rfl rfl ?_
        refine wp_icmp rfl (fun c3 => ?_) (fun c3 => ?_)
        · replace c3 := n_ne_t (a := c) (b := 62) (by omega) (by omega) c3
          refine wp_step rfl rfl ?_
          refine wp_iret rfl rfl rfl ?_
          rw [show mop c = false from decide_eq_false (by omega)] at hq
          exact hq
        · replace c3 := n_ne_f (a := c) (b := 62) (by omega) (by omega) c3
          iterate 2 refine wp_step rfl rfl ?_
          refine wp_iret rfl rfl rfl ?_
          rw [show mop c = true from decide_eq_true (by omega)] at hq
          exact hq
theorem q_misStep {c : Nat} (hc : c < 2 ^ 31) (hq : Q (.inl (some (.int (bI (msp c)))), S)) : ev X (d + 2) 146 [.int (nI c)] S Q := by
  refine ev_wp (L0 := [some (.int (nI c))]) (Nat.le_of_ble_eq_true rfl) rfl ?_
  have D : ¬ (97 ≤ c ∧ c ≤ 122) → wp X (d + 1) 146 12 [some (.int (nI c))] [] S Q := by
    intro hn
    refine wp_step rfl rfl ?_
    refine wp_c0 rfl rfl (by decide) rfl rfl rfl (q_misDigit hc ?_)
    have em : msp c = mdg c := by unfold msp; rw [decide_eq_false hn]; rfl
    rw [em] at hq
    cases ed : mdg c with
    | false =>
      rw [ed] at hq
      refine wp_if_t rfl rfl ?_
      refine wp_step rfl rfl ?_
      refine wp_iret rfl rfl rfl hq
    | true =>
      rw [ed] at hq
      refine wp_if_f rfl rfl ?_
      iterate 2 refine wp_step rfl rfl ?_
      refine wp_iret rfl rfl rfl hq
  iterate 2 refine wp_step rfl rfl ?_
  refine wp_icmp rfl (fun c0 => ?_) (fun c0 => ?_)
  · replace c0 := n_lt_t (a := c) (b := 97) (by omega) (by omega) c0
    exact D (by omega)
  · replace c0 := n_lt_f (a := c) (b := 97) (by omega) (by omega) c0
    iterate 2 refine wp_step rfl rfl ?_
    refine wp_icmp rfl (fun c1 => ?_) (fun c1 => ?_)
    · replace c1 := n_le_t (a := c) (b := 122) (by omega) (by omega) c1
      iterate 2 refine wp_step rfl rfl ?_
      refine wp_iret rfl rfl rfl ?_
      rw [show msp c = true by unfold msp; rw [decide_eq_true (by omega)]; rfl] at hq
      exact hq
    · replace c1 := n_le_f (a := c) (b := 122) (by omega) (by omega) c1
      exact D (by omega)
end MLETTERS
