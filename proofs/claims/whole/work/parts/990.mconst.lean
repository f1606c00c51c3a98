/-! THE MODEL: what is read again, and constant -/
def mWk (S : am_S) (I : Nat → Int32) (st li : Int64) (b : Nat → Nat) (v p lim sl : Nat) (M : jMT) (K : jMK) : Prop := mR S I st li b v p lim ∧ mSk S K ∧ I 20 = nI sl ∧ I 23 = 0 ∧ mTa S M
theorem mWk_up {S T : am_S} {I J : Nat → Int32} {st li st' li' : Int64} {b : Nat → Nat} {v p lim q lim2 sl : Nat} {M : jMT} {K : jMK} {ks : List Nat} (h : mWk S I st li b v p lim sl M K) (hf : fr [408] S T) (hg : gf ks I J) (h20 : 20 ∉ ks) (h23 : 23 ∉ ks) (hR : mR T J st' li' b v q lim2) : mWk T J st' li' b v q lim2 sl M K :=
  ⟨hR, mSk_fr h.2.1 hf (fun j hj => by simp only [List.mem_cons, List.not_mem_nil, or_false] at hj; omega), (hg 20 h20).trans h.2.2.1, (hg 23 h23).trans h.2.2.2.1, mTa_fr h.2.2.2.2 hf (fun j hj => by simp only [List.mem_cons, List.not_mem_nil, or_false] at hj; omega)⟩
theorem cst_cons {ty : Nat} {key : Int64} {k : jK} {L : List jK} : cst (k :: L) ty key = if k.1 = ty ∧ k.2.1 = key then some k else cst L ty key := by
  unfold cst
  rw [List.find?_cons]
  by_cases c : k.1 = ty ∧ k.2.1 = key
  · rw [if_pos c, decide_eq_true c]
  · rw [if_neg c, decide_eq_false c]
theorem cst_app {ty : Nat} {key : Int64} {L L2 : List jK} : cst (L ++ L2) ty key = (cst L ty key).or (cst L2 ty key) := List.find?_append
theorem cst_yes {ty : Nat} {key : Int64} {L L2 : List jK} {k : jK} (h : cst L ty key = some k) : cst (L ++ L2) ty key = some k := by rw [cst_app, h]; rfl
theorem cst_no {ty : Nat} {key : Int64} {L L2 : List jK} (h : cst L ty key = none) : cst (L ++ L2) ty key = cst L2 ty key := by rw [cst_app, h]; rfl
section MCONST
variable {X : Nat × (Nat → Int32)} {d : Nat} {Q : am_R → Prop} {st : Int64} {b : Nat → Nat} {v : Nat} {M : jMT}
theorem q_wsmall {S : am_S} {I : Nat → Int32} {li : Int64} {p lim sl n q : Nat} {K : jMK} (hb : ∀ j, b j < 256) (h : mWk S I st li b v p lim sl M K) (hc : cnt (Bn b) lim p = some (n, q)) (hq : ∀ T J, fr [408] S T → gf [21] I J → mWk T J st li b v q lim sl M K → Q (.inl (some (.int (nI n))), T)) : ev X (d + 3) 99 [.ref 408] S Q :=
  q_msmall hb h.1 (fun n2 q2 T J e hf hg hR => by rw [hc] at e; cases e; exact hq T J hf hg (mWk_up h hf hg (by decide) (by decide) hR)) (fun T J e _ _ _ _ => by rw [hc] at e; cases e)
theorem q_wcomp {S : am_S} {I : Nat → Int32} {li : Int64} {p lim sl q : Nat} {x : Int64} {K : jMK} (hb : ∀ j, b j < 256) (h : mWk S I st li b v p lim sl M K) (hc : num9 (Bn b) lim p = some (x, q)) (hq : ∀ T J, fr [408] S T → gf [21] I J → mWk T J st li b v q lim sl M K → Q (.inl (some (.long x)), T)) : ev X (d + 2) 98 [.ref 408] S Q :=
  q_mcomp hb h.1 (fun n2 q2 T J e hf hg hR => by rw [hc] at e; cases e; exact hq T J hf hg (mWk_up h hf hg (by decide) (by decide) hR)) (fun v T J e _ _ _ _ => by rw [hc] at e; cases e)
theorem q_wnext {S : am_S} {I : Nat → Int32} {li : Int64} {p lim sl : Nat} {K : jMK} (hb : ∀ j, b j < 256) (h : mWk S I st li b v p lim sl M K) (hc : p < lim) (hq : ∀ T J, fr [408] S T → gf [21] I J → mWk T J st li b v (p + 1) lim sl M K → Q (.inl (some (.int (nI (b p)))), T)) : ev X (d + 2) 97 [.ref 408] S Q :=
  q_mnext hb h.1 (fun T J _ hf hg hR => hq T J hf hg (mWk_up h hf hg (by decide) (by decide) hR)) (fun T J e _ _ _ _ => absurd e (by omega))
theorem q_wbegins {S : am_S} {I : Nat → Int32} {li : Int64} {p lim sl s e len id p1 p2 : Nat} {K : jMK} (hb : ∀ j, b j < 256) (h : mWk S I st li b v p lim sl M K) (hs : s ≤ e) (he : e ≤ 960) (hh : hd (Bn b) s e = .inr (len, id, p1, p2)) (hq : ∀ T J, fr [408] S T → gf [21, 22, 57] I J → mWk T J st (lN id) b v p2 (s + len) sl M K → Q (.inl (some (.int (nI (s + len)))), T)) : ev X (d + 4) 115 [.ref 408, .int (nI s), .int (nI e)] S Q :=
  q_mbegins hb h.1.1 h.1.2.1 h.1.2.2.1 h.1.2.2.2.2.2.1 h.1.2.2.2.2.2.2.1 hs he (fun len2 id2 p12 p22 T J e1 hf hg _ hR => by rw [hh] at e1; cases e1; exact hq T J hf hg (mWk_up h hf hg (by decide) (by decide) hR)) (fun k pl T J li2 e1 _ _ _ _ => by rw [hh] at e1; cases e1)
theorem q_wpass {S : am_S} {I : Nat → Int32} {li : Int64} {τ : jTT} {p p2 lim sl ty fl : Nat} {K : jMK} (hb : ∀ j, b j < 256) (hc : mckT τ) (hT : mTy M sl τ) (hsl : sl < 8) (hkn : knM τ ty) (hfl : fl ≤ 3) (hsf : sf τ 21 ty fl) (h : mWk S I st li b v p lim sl M K) (hr : ∀ n, ∃ n', rv τ b false lim 21 ty fl p n = .inr (p2, n')) (hq : ∀ T J K', fr [408, 425, 426, 427] S T → gf [21, 24, 29] I J → mWk T J st li b v p2 lim sl M K' → Q (.inl none, T)) : ev X (d + 8) 108 [.ref 408, .long (lN ty), .int (nI fl)] S Q := by
  obtain ⟨n', hr0⟩ := hr 0
  refine q_mpass (chk := false) (n := 0) hb hc.1 hc.2.1 hT hsl hkn hfl hsf h.1 h.2.1 ⟨fun h9 => (by cases h9), fun _ => h.2.2.2.1⟩ h.2.2.1 h.2.2.2.2 (fun p' n2 T J K' e hf hg hR hK hV => ?_) (fun k pl T J K' e _ _ _ _ _ => by rw [hr0] at e; cases e)
  rw [hr0] at e
  cases e
  exact hq T J K' hf hg ⟨hR, hK, (hg 20 (by decide)).trans h.2.2.1, hV.2 rfl, mTa_fr h.2.2.2.2 hf (fun j hj => by simp only [List.mem_cons, List.not_mem_nil, or_false] at hj; omega)⟩
theorem cn_in {τ : jTT} {li key : Int64} {ty s e q dl pools k id many lim sl : Nat} (hb : ∀ j, b j < 256) (hc : mckT τ) (hT : mTy M sl τ) (hsl : sl < 8) (hkn : knM τ id) (hsf : sf τ 21 id 0) (hid : id < 2 ^ 31) (hty : ty < 2 ^ 31) (hmany : many < 2 ^ 31) : ∀ (m c p : Nat) (L : List jK) (p3 : Nat) (S : am_S) (I : Nat → Int32) (K : jMK) (x14 x15 : Option Value), c + m = many → kW τ b lim id m p L p3 → mWk S I st li b v p lim sl M K → (∀ k9 T J K', cst L ty key = some k9 → fr [408, 425, 426, 427] S T → gf [21, 24, 29] I J → mWk T J st li b v k9.2.2.1 lim sl M K' → Q (.inl (some (.int (nI k9.2.2.1))), T)) → (∀ T J K' y14 y15, cst L ty key = none → fr [408, 425, 426, 427] S T → gf [21, 24, 29] I J → mWk T J st li b v p3 lim sl M K' → wp X (d + 8) 132 153 [some (.ref 408), some (.long (lN ty)), none, some (.long key), none, some (.int (nI s)), some (.int (nI e)), some (.int (nI q)), some (.int (nI dl)), some (.int (nI pools)), some (.int (nI k)), some (.int (nI id)), some (.int (nI many)), some (.int (nI many)), y14, y15] [] T Q) → wp X (d + 8) 132 106 [some (.ref 408), some (.long (lN ty)), none, some (.long key), none, some (.int (nI s)), some (.int (nI e)), some (.int (nI q)), some (.int (nI dl)), some (.int (nI pools)), some (.int (nI k)), some (.int (nI id)), some (.int (nI many)), some (.int (nI c)), x14, x15] [] S Q := by
  intro m
  induction m with
  | zero =>
    intro c p L p3 S I K x14 x15 hcm hk h hfound hgo
    have hce : c = many := by omega
    subst hce
    iterate 2 refine wp_step rfl rfl ?_
    refine wp_icmp rfl (fun c0 => ?_) (fun c0 => ?_)
    · replace c0 := n_ge_t (a := c) (b := c) (by omega) (by omega) c0
      obtain ⟨rfl, rfl⟩ := hk
      exact hgo S I K x14 x15 rfl (fr_refl _ _) (gf_refl _ _) h
    · replace c0 := n_ge_f (a := c) (b := c) (by omega) (by omega) c0
      omega
  | succ m ih =>
    intro c p L p3 S I K x14 x15 hcm hk h hfound hgo
    iterate 2 refine wp_step rfl rfl ?_
    refine wp_icmp rfl (fun c0 => ?_) (fun c0 => ?_)
    · replace c0 := n_ge_t (a := c) (b := many) (by omega) (by omega) c0
      omega
    · replace c0 := n_ge_f (a := c) (b := many) (by omega) (by omega) c0
      obtain ⟨kx, p1, nd, p2, L2, e1, e2, rfl, hk2⟩ := hk
      refine wp_step rfl rfl ?_
      refine wp_c0 rfl rfl (by decide) rfl (recv_ok h.1.1 rfl) rfl (q_wcomp hb h e1 (fun T J hf1 hg1 h1 => ?_))
      have go : ¬ (id = ty ∧ kx = key) → wp X (d + 8) 132 139 [some (.ref 408), some (.long (lN ty)), none, some (.long key), none, some (.int (nI s)), some (.int (nI e)), some (.int (nI q)), some (.int (nI dl)), some (.int (nI pools)), some (.int (nI k)), some (.int (nI id)), some (.int (nI many)), some (.int (nI c)), some (.long kx), none] [] T Q := by
        intro hno
        iterate 4 refine wp_step rfl rfl ?_
        rw [nI_l hid]
        refine wp_c0 rfl rfl (by decide) rfl (recv_ok h1.1.1 rfl) rfl (q_wpass hb hc hT hsl hkn (by decide) hsf h1 e2 (fun T2 J2 K2 hf2 hg2 h2 => ?_))
        iterate 2 refine wp_step rfl rfl ?_
        rw [show nI c + Int32.ofInt 1 = nI (c + 1) from nI_add c 1]
        have hf12 : fr [408, 425, 426, 427] S T2 := fr_trans (fr_mono hf1 (fun j hj => by simp only [List.mem_cons, List.not_mem_nil, or_false] at hj ⊢; omega)) hf2
        have hg12 : gf [21, 24, 29] I J2 := gf_trans (gf_mono hg1 (fun j hj => by simp only [List.mem_cons, List.not_mem_nil, or_false] at hj ⊢; omega)) hg2
        exact ih (c + 1) p2 L2 p3 T2 J2 K2 (some (.long kx)) none (by omega) hk2 h2 (fun k9 T3 J3 K3 e3 hf3 hg3 h3 => hfound k9 T3 J3 K3 (by rw [cst_cons, if_neg hno]; exact e3) (fr_trans hf12 hf3) (gf_trans hg12 hg3) h3) (fun T3 J3 K3 y14 y15 e3 hf3 hg3 h3 => hgo T3 J3 K3 y14 y15 (by rw [cst_cons, if_neg hno]; exact e3) (fr_trans hf12 hf3) (gf_trans hg12 hg3) h3)
      refine wp_step rfl rfl ?_
      show wp X (d + 8) 132 119 [some (.ref 408), some (.long (lN ty)), none, some (.long key), none, some (.int (nI s)), some (.int (nI e)), some (.int (nI q)), some (.int (nI dl)), some (.int (nI pools)), some (.int (nI k)), some (.int (nI id)), some (.int (nI many)), some (.int (nI c)), some (.long kx), none] [] T Q
      iterate 3 refine wp_step rfl rfl ?_
      rw [nI_l hid]
      refine wp_step rfl rfl ?_
      refine wp_if rfl (fun c1 => ?_) (fun c1 => ?_)
      · replace c1 := l_ne_t c1
        exact go (fun h9 => c1 (by rw [h9.1]))
      · replace c1 := l_ne_f c1
        replace c1 := (lN_eq (a := id) (b := ty) (by omega) (by omega)).mp c1
        iterate 3 refine wp_step rfl rfl ?_
        refine wp_if rfl (fun c2 => ?_) (fun c2 => ?_)
        · replace c2 := l_ne_t c2
          exact go (fun h9 => c2 h9.2)
        · replace c2 := l_ne_f c2
          refine wp_step rfl rfl ?_
          refine wp_getg (v := (.int (nI p1))) rfl h1.1.1 (by decide) (congrArg Value.int h1.1.2.2.2.1) ?_
          refine wp_iret rfl rfl rfl (hfound (id, kx, p1, nd) T J K (by rw [cst_cons, if_pos ⟨c1, c2⟩]) (fr_mono hf1 (fun j hj => by simp only [List.mem_cons, List.not_mem_nil, or_false] at hj ⊢; omega)) (gf_mono hg1 (fun j hj => by simp only [List.mem_cons, List.not_mem_nil, or_false] at hj ⊢; omega)) h1)
theorem cn_mid {τ : jTT} {li key : Int64} {ty s e q dl pools lim sl : Nat} (hb : ∀ j, b j < 256) (hc : mckT τ) (hT : mTy M sl τ) (hsl : sl < 8) (hty : ty < 2 ^ 31) (hpools : pools < 2 ^ 31) : ∀ (m k p : Nat) (L : List jK) (S : am_S) (I : Nat → Int32) (K : jMK) (x11 x12 x13 x14 x15 : Option Value), k + m = pools → pW τ b lim m p L → mWk S I st li b v p lim sl M K → (∀ k9 T J K', cst L ty key = some k9 → fr [408, 425, 426, 427] S T → gf [21, 24, 29] I J → mWk T J st li b v k9.2.2.1 lim sl M K' → Q (.inl (some (.int (nI k9.2.2.1))), T)) → (∀ T J K' p3 y11 y12 y13 y14 y15, cst L ty key = none → fr [408, 425, 426, 427] S T → gf [21, 24, 29] I J → mWk T J st li b v p3 lim sl M K' → wp X (d + 8) 132 159 [some (.ref 408), some (.long (lN ty)), none, some (.long key), none, some (.int (nI s)), some (.int (nI e)), some (.int (nI q)), some (.int (nI dl)), some (.int (nI pools)), some (.int (nI pools)), y11, y12, y13, y14, y15] [] T Q) → wp X (d + 8) 132 84 [some (.ref 408), some (.long (lN ty)), none, some (.long key), none, some (.int (nI s)), some (.int (nI e)), some (.int (nI q)), some (.int (nI dl)), some (.int (nI pools)), some (.int (nI k)), x11, x12, x13, x14, x15] [] S Q := by
  intro m
  induction m with
  | zero =>
    intro k p L S I K x11 x12 x13 x14 x15 hcm hk h hfound hgo
    have hce : k = pools := by omega
    subst hce
    iterate 2 refine wp_step rfl rfl ?_
    refine wp_icmp rfl (fun c0 => ?_) (fun c0 => ?_)
    · replace c0 := n_ge_t (a := k) (b := k) (by omega) (by omega) c0
      cases hk
      exact hgo S I K p x11 x12 x13 x14 x15 rfl (fr_refl _ _) (gf_refl _ _) h
    · replace c0 := n_ge_f (a := k) (b := k) (by omega) (by omega) c0
      omega
  | succ m ih =>
    intro k p L S I K x11 x12 x13 x14 x15 hcm hk h hfound hgo
    iterate 2 refine wp_step rfl rfl ?_
    refine wp_icmp rfl (fun c0 => ?_) (fun c0 => ?_)
    · replace c0 := n_ge_t (a := k) (b := pools) (by omega) (by omega) c0
      omega
    · replace c0 := n_ge_f (a := k) (b := pools) (by omega) (by omega) c0
      obtain ⟨id, p1, many, p2, L1, p3, L2, e1, e2, e3, e4, e5, rfl⟩ := hk
      have hc1 := cnt_lt e1
      have hc2 := cnt_lt e3
      refine wp_step rfl rfl ?_
      refine wp_c0 rfl rfl (by decide) rfl (recv_ok h.1.1 rfl) rfl (q_wsmall hb h e1 (fun T J hf1 hg1 h1 => ?_))
      iterate 2 refine wp_step rfl rfl ?_
      refine wp_c0 rfl rfl (by decide) rfl (recv_ok h1.1.1 rfl) rfl (q_wsmall hb h1 e3 (fun T2 J2 hf2 hg2 h2 => ?_))
      iterate 3 refine wp_step rfl rfl ?_
      show wp X (d + 8) 132 106 [some (.ref 408), some (.long (lN ty)), none, some (.long key), none, some (.int (nI s)), some (.int (nI e)), some (.int (nI q)), some (.int (nI dl)), some (.int (nI pools)), some (.int (nI k)), some (.int (nI id)), some (.int (nI many)), some (.int (nI 0)), x14, x15] [] T2 Q
      have hf02 : fr [408, 425, 426, 427] S T2 := fr_trans (fr_mono hf1 (fun j hj => by simp only [List.mem_cons, List.not_mem_nil, or_false] at hj ⊢; omega)) (fr_mono hf2 (fun j hj => by simp only [List.mem_cons, List.not_mem_nil, or_false] at hj ⊢; omega))
      have hg02 : gf [21, 24, 29] I J2 := gf_trans (gf_mono hg1 (fun j hj => by simp only [List.mem_cons, List.not_mem_nil, or_false] at hj ⊢; omega)) (gf_mono hg2 (fun j hj => by simp only [List.mem_cons, List.not_mem_nil, or_false] at hj ⊢; omega))
      have hkn := okK_knM hc.1 hc1.1 e2
      refine cn_in hb hc hT hsl hkn (sf_ty hc.1 hc.2.1 hc.2.2 hkn (by decide)) hc1.1 hty hc2.1 many 0 p2 L1 p3 T2 J2 K x14 x15 (by omega) e4 h2 (fun k9 T3 J3 K3 g1 hf3 hg3 h3 => hfound k9 T3 J3 K3 (cst_yes g1) (fr_trans hf02 hf3) (gf_trans hg02 hg3) h3) (fun T3 J3 K3 y14 y15 g1 hf3 hg3 h3 => ?_)
      have hf03 := fr_trans hf02 hf3
      have hg03 := gf_trans hg02 hg3
      iterate 2 refine wp_step rfl rfl ?_
      rw [show nI k + Int32.ofInt 1 = nI (k + 1) from nI_add k 1]
      exact ih (k + 1) p3 L2 T3 J3 K3 _ _ _ y14 y15 (by omega) e5 h3 (fun k9 T4 J4 K4 g2 hf4 hg4 h4 => hfound k9 T4 J4 K4 (by rw [cst_no g1]; exact g2) (fr_trans hf03 hf4) (gf_trans hg03 hg4) h4) (fun T4 J4 K4 p4 y11 y12 y13 y14 y15 g2 hf4 hg4 h4 => hgo T4 J4 K4 p4 y11 y12 y13 y14 y15 (by rw [cst_no g1]; exact g2) (fr_trans hf03 hf4) (gf_trans hg03 hg4) h4)
theorem cn_out {τ : jTT} {key : Int64} {ty s e sl : Nat} (hb : ∀ j, b j < 256) (hc : mckT τ) (hT : mTy M sl τ) (hsl : sl < 8) (hty : ty < 2 ^ 31) (he : e ≤ 960) : ∀ (f q : Nat) (L : List jK) (S : am_S) (I : Nat → Int32) (K : jMK) (li : Int64) (p lim : Nat) (x8 x9 x10 x11 x12 x13 x14 x15 : Option Value), q < 2 ^ 31 → cW τ b e f q L → mWk S I st li b v p lim sl M K → (∀ (k9 : jK) T J K' li' lim', cst L ty key = some k9 → fr [408, 425, 426, 427] S T → gf [21, 22, 24, 29, 57] I J → mWk T J st li' b v k9.2.2.1 lim' sl M K' → Q (.inl (some (.int (nI k9.2.2.1))), T)) → (∀ T J K' li' q' lim', cst L ty key = none → fr [408, 425, 426, 427] S T → gf [21, 22, 24, 29, 57] I J → mWk T J st li' b v q' lim' sl M K' → Q (.inl (some (.int (-1))), T)) → wp X (d + 8) 132 55 [some (.ref 408), some (.long (lN ty)), none, some (.long key), none, some (.int (nI s)), some (.int (nI e)), some (.int (nI q)), x8, x9, x10, x11, x12, x13, x14, x15] [] S Q := by
  intro f
  induction f with
  | zero => intro q L S I K li p lim x8 x9 x10 x11 x12 x13 x14 x15 _ hk; exact hk.elim
  | succ f ih =>
    intro q L S I K li p lim x8 x9 x10 x11 x12 x13 x14 x15 hq31 hk h hfound hgo
    have hq0 := hk.1
    refine wp_step rfl rfl ?_
    refine wp_if rfl (fun c0 => ?_) (fun c0 => ?_)
    · replace c0 := z_le_t (a := q) (by omega) c0
      omega
    · replace c0 := z_le_f (a := q) (by omega) c0
      obtain ⟨hq0, yc, Ls, rfl, ⟨hye, len, p1, p3, pools, p4, eh, e1, e2, e3⟩, hL⟩ := hk
      have hho := hd_ok eh
      have hc1 := cnt_lt e1
      have hc2 := cnt_lt e2
      iterate 3 refine wp_step rfl rfl ?_
      refine wp_c0 rfl rfl (by decide) rfl (recv_ok h.1.1 rfl) rfl (q_wbegins hb h (by omega) he eh (fun T J hf1 hg1 h1 => ?_))
      iterate 2 refine wp_step rfl rfl ?_
      refine wp_c0 rfl rfl (by decide) rfl (recv_ok h1.1.1 rfl) rfl (q_wsmall hb h1 e1 (fun T2 J2 hf2 hg2 h2 => ?_))
      iterate 2 refine wp_step rfl rfl ?_
      refine wp_c0 rfl rfl (by decide) rfl (recv_ok h2.1.1 rfl) rfl (q_wsmall hb h2 e2 (fun T3 J3 hf3 hg3 h3 => ?_))
      iterate 3 refine wp_step rfl rfl ?_
      show wp X (d + 8) 132 84 [some (.ref 408), some (.long (lN ty)), none, some (.long key), none, some (.int (nI s)), some (.int (nI e)), some (.int (nI yc.1)), some (.int (nI yc.2.1)), some (.int (nI pools)), some (.int (nI 0)), x11, x12, x13, x14, x15] [] T3 Q
      have hf03 : fr [408, 425, 426, 427] S T3 := fr_trans (fr_mono hf1 (fun j hj => by simp only [List.mem_cons, List.not_mem_nil, or_false] at hj ⊢; omega)) (fr_trans (fr_mono hf2 (fun j hj => by simp only [List.mem_cons, List.not_mem_nil, or_false] at hj ⊢; omega)) (fr_mono hf3 (fun j hj => by simp only [List.mem_cons, List.not_mem_nil, or_false] at hj ⊢; omega)))
      have hg03 : gf [21, 22, 24, 29, 57] I J3 := gf_trans (gf_mono hg1 (fun j hj => by simp only [List.mem_cons, List.not_mem_nil, or_false] at hj ⊢; omega)) (gf_trans (gf_mono hg2 (fun j hj => by simp only [List.mem_cons, List.not_mem_nil, or_false] at hj ⊢; omega)) (gf_mono hg3 (fun j hj => by simp only [List.mem_cons, List.not_mem_nil, or_false] at hj ⊢; omega)))
      refine cn_mid hb hc hT hsl hty hc2.1 pools 0 p4 Ls T3 J3 K x11 x12 x13 x14 x15 (by omega) e3 h3 (fun k9 T4 J4 K4 g1 hf4 hg4 h4 => ?_) (fun T4 J4 K4 p5 y11 y12 y13 y14 y15 g1 hf4 hg4 h4 => ?_)
      · refine hfound k9 T4 J4 K4 _ _ ?_ (fr_trans hf03 hf4) (gf_trans hg03 (gf_mono hg4 (fun j hj => by simp only [List.mem_cons, List.not_mem_nil, or_false] at hj ⊢; omega))) h4
        rcases hL with ⟨_, g⟩ | ⟨_, _, L', g, _⟩
        · rw [g]; exact g1
        · rw [g]; exact cst_yes g1
      have hf04 := fr_trans hf03 hf4
      have hg04 : gf [21, 22, 24, 29, 57] I J4 := gf_trans hg03 (gf_mono hg4 (fun j hj => by simp only [List.mem_cons, List.not_mem_nil, or_false] at hj ⊢; omega))
      rcases hL with ⟨hd0, hLe⟩ | ⟨hd0, hdq, L', hLe, hcw⟩
      · subst hLe
        refine wp_step rfl rfl ?_
        refine wp_if rfl (fun c1 => ?_) (fun c1 => ?_)
        · replace c1 := z_ne_t (a := yc.2.1) (by omega) c1
          omega
        · replace c1 := z_ne_f (a := yc.2.1) (by omega) c1
          iterate 4 refine wp_step rfl rfl ?_
          show wp X (d + 8) 132 55 [some (.ref 408), some (.long (lN ty)), none, some (.long key), none, some (.int (nI s)), some (.int (nI e)), some (.int (nI 0)), some (.int (nI yc.2.1)), some (.int (nI pools)), some (.int (nI pools)), y11, y12, y13, y14, y15] [] T4 Q
          refine wp_step rfl rfl ?_
          refine wp_if rfl (fun c2 => ?_) (fun c2 => ?_)
          · replace c2 := z_le_t (a := 0) (by omega) c2
            refine wp_step rfl rfl ?_
            refine wp_iret rfl rfl rfl (hgo T4 J4 K4 _ _ _ g1 hf04 hg04 h4)
          · replace c2 := z_le_f (a := 0) (by omega) c2
            omega
      · refine wp_step rfl rfl ?_
        refine wp_if rfl (fun c1 => ?_) (fun c1 => ?_)
        · replace c1 := z_ne_t (a := yc.2.1) (by omega) c1
          iterate 3 refine wp_step rfl rfl ?_
          rw [pk_sub (by omega)]
          iterate 2 refine wp_step rfl rfl ?_
          show wp X (d + 8) 132 55 [some (.ref 408), some (.long (lN ty)), none, some (.long key), none, some (.int (nI s)), some (.int (nI e)), some (.int (nI (yc.1 - yc.2.1))), some (.int (nI yc.2.1)), some (.int (nI pools)), some (.int (nI pools)), y11, y12, y13, y14, y15] [] T4 Q
          refine ih (yc.1 - yc.2.1) L' T4 J4 K4 _ _ _ _ _ _ _ _ _ _ _ (by omega) hcw h4 (fun k9 T5 J5 K5 li5 lim5 g2 hf5 hg5 h5 => hfound k9 T5 J5 K5 li5 lim5 (by rw [hLe, cst_no g1]; exact g2) (fr_trans hf04 hf5) (gf_trans hg04 hg5) h5) (fun T5 J5 K5 li5 q5 lim5 g2 hf5 hg5 h5 => hgo T5 J5 K5 li5 q5 lim5 (by rw [hLe, cst_no g1]; exact g2) (fr_trans hf04 hf5) (gf_trans hg04 hg5) h5)
        · replace c1 := z_ne_f (a := yc.2.1) (by omega) c1
          omega
end MCONST
