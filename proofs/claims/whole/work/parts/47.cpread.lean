/-! Checkpoints.read -/
def cpG (n m : Int32) : Nat → Value := fun k => match k with
  | 0 => .int n
  | 1 => .ref 4
  | 2 => .ref 5
  | 3 => .ref 6
  | 4 => .ref 7
  | 5 => .int m
  | 6 => .ref 8
  | 7 => .ref 9
  | 8 => .ref 10
  | _ => .null
abbrev cpC (n m : Int32) : am_C := ob 0 9 (cpG n m)
theorem cpG_0 {n m z : Int32} : va_up (cpG n m) 0 (.int z) = cpG z m := by
  funext k
  match k with
  | 0 => rfl
  | 1 => rfl
  | 2 => rfl
  | 3 => rfl
  | 4 => rfl
  | 5 => rfl
  | 6 => rfl
  | 7 => rfl
  | 8 => rfl
  | k + 9 => simp [va_up, cpG]
theorem cpG_5 {n m z : Int32} : va_up (cpG n m) 5 (.int z) = cpG n z := by
  funext k
  match k with
  | 0 => rfl
  | 1 => rfl
  | 2 => rfl
  | 3 => rfl
  | 4 => rfl
  | 5 => rfl
  | 6 => rfl
  | 7 => rfl
  | 8 => rfl
  | k + 9 => simp [va_up, cpG]
/-- places, deltas, their places, first constants, types, keys, nodes -/
abbrev jCA : Type := (Nat → Int32) × (Nat → Int32) × (Nat → Int32) × (Nat → Int32) × (Nat → Int32) × (Nat → Int64) × (Nat → Int32)
def cpS (S : am_S) (n m : Nat) (B : jCA) : Prop := am_get S 3 = some (cpC (nI n) (nI m)) ∧ am_get S 4 = some (iA 240 B.1) ∧ am_get S 5 = some (iA 240 B.2.1) ∧ am_get S 6 = some (iA 240 B.2.2.1) ∧ am_get S 7 = some (iA 241 B.2.2.2.1) ∧ am_get S 8 = some (iA 40 B.2.2.2.2.1) ∧ am_get S 9 = some (lA 40 B.2.2.2.2.2.1) ∧ am_get S 10 = some (iA 40 B.2.2.2.2.2.2) ∧ B.2.2.2.1 0 = nI 0
def cpSh (S : am_S) : Prop := ∃ n m B, cpS S n m B
theorem cpS_fr {js : List Nat} {S T : am_S} {n m : Nat} {B : jCA} (h : cpS S n m B) (hf : fr js S T) (hj : ∀ j, j ∈ js → j < 3 ∨ 11 ≤ j) : cpS T n m B := by
  obtain ⟨h0, h1, h2, h3, h4, h5, h6, h7, h8⟩ := h
  have nm : ∀ q, 3 ≤ q → q < 11 → q ∉ js := fun q h1 h2 h9 => by have := hj _ h9; omega
  exact ⟨by rw [fr_get hf (nm 3 (by omega) (by omega))]; exact h0, by rw [fr_get hf (nm 4 (by omega) (by omega))]; exact h1, by rw [fr_get hf (nm 5 (by omega) (by omega))]; exact h2, by rw [fr_get hf (nm 6 (by omega) (by omega))]; exact h3, by rw [fr_get hf (nm 7 (by omega) (by omega))]; exact h4, by rw [fr_get hf (nm 8 (by omega) (by omega))]; exact h5, by rw [fr_get hf (nm 9 (by omega) (by omega))]; exact h6, by rw [fr_get hf (nm 10 (by omega) (by omega))]; exact h7, h8⟩
theorem cpS_4 {S : am_S} {n m : Nat} {B : jCA} (h : cpS S n m B) (f : Nat → Int32) : cpS (am_upd S 4 (iA 240 f)) n m (f, B.2.1, B.2.2.1, B.2.2.2.1, B.2.2.2.2.1, B.2.2.2.2.2.1, B.2.2.2.2.2.2) := by
  obtain ⟨h0, h1, h2, h3, h4, h5, h6, h7, h8⟩ := h
  exact ⟨by rw [am_get_ne (by decide)]; exact h0, am_get_self h1, by rw [am_get_ne (by decide)]; exact h2, by rw [am_get_ne (by decide)]; exact h3, by rw [am_get_ne (by decide)]; exact h4, by rw [am_get_ne (by decide)]; exact h5, by rw [am_get_ne (by decide)]; exact h6, by rw [am_get_ne (by decide)]; exact h7, h8⟩
theorem cpS_5 {S : am_S} {n m : Nat} {B : jCA} (h : cpS S n m B) (f : Nat → Int32) : cpS (am_upd S 5 (iA 240 f)) n m (B.1, f, B.2.2.1, B.2.2.2.1, B.2.2.2.2.1, B.2.2.2.2.2.1, B.2.2.2.2.2.2) := by
  obtain ⟨h0, h1, h2, h3, h4, h5, h6, h7, h8⟩ := h
  exact ⟨by rw [am_get_ne (by decide)]; exact h0, by rw [am_get_ne (by decide)]; exact h1, am_get_self h2, by rw [am_get_ne (by decide)]; exact h3, by rw [am_get_ne (by decide)]; exact h4, by rw [am_get_ne (by decide)]; exact h5, by rw [am_get_ne (by decide)]; exact h6, by rw [am_get_ne (by decide)]; exact h7, h8⟩
theorem cpS_6 {S : am_S} {n m : Nat} {B : jCA} (h : cpS S n m B) (f : Nat → Int32) : cpS (am_upd S 6 (iA 240 f)) n m (B.1, B.2.1, f, B.2.2.2.1, B.2.2.2.2.1, B.2.2.2.2.2.1, B.2.2.2.2.2.2) := by
  obtain ⟨h0, h1, h2, h3, h4, h5, h6, h7, h8⟩ := h
  exact ⟨by rw [am_get_ne (by decide)]; exact h0, by rw [am_get_ne (by decide)]; exact h1, by rw [am_get_ne (by decide)]; exact h2, am_get_self h3, by rw [am_get_ne (by decide)]; exact h4, by rw [am_get_ne (by decide)]; exact h5, by rw [am_get_ne (by decide)]; exact h6, by rw [am_get_ne (by decide)]; exact h7, h8⟩
theorem cpS_7 {S : am_S} {n m : Nat} {B : jCA} (h : cpS S n m B) (f : Nat → Int32) (hz : f 0 = nI 0) : cpS (am_upd S 7 (iA 241 f)) n m (B.1, B.2.1, B.2.2.1, f, B.2.2.2.2.1, B.2.2.2.2.2.1, B.2.2.2.2.2.2) := by
  obtain ⟨h0, h1, h2, h3, h4, h5, h6, h7, h8⟩ := h
  exact ⟨by rw [am_get_ne (by decide)]; exact h0, by rw [am_get_ne (by decide)]; exact h1, by rw [am_get_ne (by decide)]; exact h2, by rw [am_get_ne (by decide)]; exact h3, am_get_self h4, by rw [am_get_ne (by decide)]; exact h5, by rw [am_get_ne (by decide)]; exact h6, by rw [am_get_ne (by decide)]; exact h7, hz⟩
theorem cpS_8 {S : am_S} {n m : Nat} {B : jCA} (h : cpS S n m B) (f : Nat → Int32) : cpS (am_upd S 8 (iA 40 f)) n m (B.1, B.2.1, B.2.2.1, B.2.2.2.1, f, B.2.2.2.2.2.1, B.2.2.2.2.2.2) := by
  obtain ⟨h0, h1, h2, h3, h4, h5, h6, h7, h8⟩ := h
  exact ⟨by rw [am_get_ne (by decide)]; exact h0, by rw [am_get_ne (by decide)]; exact h1, by rw [am_get_ne (by decide)]; exact h2, by rw [am_get_ne (by decide)]; exact h3, by rw [am_get_ne (by decide)]; exact h4, am_get_self h5, by rw [am_get_ne (by decide)]; exact h6, by rw [am_get_ne (by decide)]; exact h7, h8⟩
theorem cpS_9 {S : am_S} {n m : Nat} {B : jCA} (h : cpS S n m B) (f : Nat → Int64) : cpS (am_upd S 9 (lA 40 f)) n m (B.1, B.2.1, B.2.2.1, B.2.2.2.1, B.2.2.2.2.1, f, B.2.2.2.2.2.2) := by
  obtain ⟨h0, h1, h2, h3, h4, h5, h6, h7, h8⟩ := h
  exact ⟨by rw [am_get_ne (by decide)]; exact h0, by rw [am_get_ne (by decide)]; exact h1, by rw [am_get_ne (by decide)]; exact h2, by rw [am_get_ne (by decide)]; exact h3, by rw [am_get_ne (by decide)]; exact h4, by rw [am_get_ne (by decide)]; exact h5, am_get_self h6, by rw [am_get_ne (by decide)]; exact h7, h8⟩
theorem cpS_10 {S : am_S} {n m : Nat} {B : jCA} (h : cpS S n m B) (f : Nat → Int32) : cpS (am_upd S 10 (iA 40 f)) n m (B.1, B.2.1, B.2.2.1, B.2.2.2.1, B.2.2.2.2.1, B.2.2.2.2.2.1, f) := by
  obtain ⟨h0, h1, h2, h3, h4, h5, h6, h7, h8⟩ := h
  exact ⟨by rw [am_get_ne (by decide)]; exact h0, by rw [am_get_ne (by decide)]; exact h1, by rw [am_get_ne (by decide)]; exact h2, by rw [am_get_ne (by decide)]; exact h3, by rw [am_get_ne (by decide)]; exact h4, by rw [am_get_ne (by decide)]; exact h5, by rw [am_get_ne (by decide)]; exact h6, am_get_self h7, h8⟩
theorem cpS_3 {S : am_S} {n m : Nat} {B : jCA} (h : cpS S n m B) (n' m' : Nat) : cpS (am_upd S 3 (cpC (nI n') (nI m'))) n' m' B := by
  obtain ⟨h0, h1, h2, h3, h4, h5, h6, h7, h8⟩ := h
  exact ⟨am_get_self h0, by rw [am_get_ne (by decide)]; exact h1, by rw [am_get_ne (by decide)]; exact h2, by rw [am_get_ne (by decide)]; exact h3, by rw [am_get_ne (by decide)]; exact h4, by rw [am_get_ne (by decide)]; exact h5, by rw [am_get_ne (by decide)]; exact h6, by rw [am_get_ne (by decide)]; exact h7, h8⟩
def cpD (B : jCA) (cps : List jCp) (ks : List jK) : Prop := (∀ (i : Nat) (y : jCp), cps[i]? = some y → B.1 i = nI y.1 ∧ B.2.1 i = nI y.2.1 ∧ B.2.2.1 i = nI y.2.2.1 ∧ B.2.2.2.1 (i + 1) = nI y.2.2.2) ∧ ∀ (i : Nat) (k : jK), ks[i]? = some k → B.2.2.2.2.1 i = nI k.1 ∧ B.2.2.2.2.2.1 i = k.2.1 ∧ B.2.2.2.2.2.2 i = nI k.2.2.2
theorem at_app {α : Type} {l : List α} {x y : α} {i : Nat} (h : (l ++ [x])[i]? = some y) : (i < l.length ∧ l[i]? = some y) ∨ (i = l.length ∧ y = x) := by
  rcases Nat.lt_or_ge i l.length with hi | hi
  · rw [List.getElem?_append_left hi] at h; exact Or.inl ⟨hi, h⟩
  · rw [List.getElem?_append_right hi] at h
    rcases Nat.eq_or_lt_of_le hi with e | e
    · refine Or.inr ⟨e.symm, ?_⟩
      rw [← e, Nat.sub_self] at h
      simp at h
      exact h.symm
    · rw [List.getElem?_eq_none (by simp; omega)] at h; cases h
theorem cpD_addK {B : jCA} {cps : List jCp} {ks : List jK} (h : cpD B cps ks) (k : jK) : cpD (B.1, B.2.1, B.2.2.1, B.2.2.2.1, upd B.2.2.2.2.1 ks.length (nI k.1), vp_updL B.2.2.2.2.2.1 ks.length k.2.1, upd B.2.2.2.2.2.2 ks.length (nI k.2.2.2)) cps (ks ++ [k]) := by
  refine ⟨h.1, fun i y hy => ?_⟩
  rcases at_app hy with ⟨h1, h2⟩ | ⟨h1, h2⟩
  · obtain ⟨a1, a2, a3⟩ := h.2 i y h2
    exact ⟨(pk_un (by omega)).trans a1, (pk_uLn (by omega)).trans a2, (pk_un (by omega)).trans a3⟩
  · subst h1; subst h2; exact ⟨pk_us, pk_uLs, pk_us⟩
section CPREAD
variable {X : Nat × (Nat → Int32)} {d : Nat} {Q : am_R → Prop} {b : Nat → Nat} {tot lim idp v c : Nat} {τ : jTT}
def ckI (S : am_S) (b : Nat → Nat) (tot p lim idp v c n l : Nat) (A : jVA) (B : jCA) (τ : jTT) (nc : Nat) (cps : List jCp) (ks : List jK) : Prop := sK S b tot p lim idp ∧ vS S v n l A ∧ ckO S c τ ∧ cpS S nc ks.length B ∧ cpD B cps ks ∧ ks.length ≤ 40 ∧ ksG τ b tot A n l ks ∧ n ≤ 1201 ∧ l ≤ p
def ckN (A A' : jVA) (n l n' l' : Nat) (B B' : jCA) : Prop := agr A A' n l ∧ n ≤ n' ∧ l ≤ l' ∧ B'.1 = B.1 ∧ B'.2.1 = B.2.1 ∧ B'.2.2.1 = B.2.2.1 ∧ B'.2.2.2.1 = B.2.2.2.1
theorem ckN_refl (A : jVA) (n l : Nat) (B : jCA) : ckN A A n l n l B B := ⟨agr_refl _ _ _, Nat.le_refl _, Nat.le_refl _, rfl, rfl, rfl, rfl⟩
theorem ckN_trans {A A1 A2 : jVA} {n l n1 l1 n2 l2 : Nat} {B B1 B2 : jCA} (h : ckN A A1 n l n1 l1 B B1) (h2 : ckN A1 A2 n1 l1 n2 l2 B1 B2) : ckN A A2 n l n2 l2 B B2 := by
  obtain ⟨a1, a2, a3, a4, a5, a6, a7⟩ := h
  obtain ⟨b1, b2, b3, b4, b5, b6, b7⟩ := h2
  exact ⟨agr_trans a1 b1 a2 a3, by omega, by omega, b4.trans a4, b5.trans a5, b6.trans a6, b7.trans a7⟩
def cxS (S : am_S) (v tot : Nat) (k : Int32) (pl : Nat) : Prop := sX S tot k pl ∧ vSx S v ∧ cpSh S
theorem vSx_fr {js : List Nat} {S T : am_S} {v : Nat} (h : vSx S v) (hf : fr js S T) (hj : ∀ j, j ∈ js → j < v ∨ v + 6 ≤ j) : vSx T v := by
  obtain ⟨n, l, A, h1⟩ := h
  exact ⟨n, l, A, vS_fr h1 hf hj⟩
set_option maxHeartbeats 2000000 in
theorem cp_in {pl0 pools pi ty tp many nc : Nat} {cps : List jCp} (hb : ∀ j, b j < 256) (hwf : wfT τ) (hfh : fht τ) (hvc : v + 6 ≤ c) (hv3 : 11 ≤ v) (hc9 : c < 800000) (hkn : kn τ ty) (hok : okK τ ty = true) (hmany : many < 2 ^ 31) :
    ∀ (m i p n l : Nat) (A : jVA) (B : jCA) (ks : List jK) (S : am_S), i + m = many → ckI S b tot p lim idp v c n l A B τ nc cps ks →
      (∀ p' n' l' A' B' ks' T, rdKs τ b lim ty m p n ks = .inr (p', n', ks') → fr [1, 3, 4, 5, 6, 7, 8, 9, 10, v, v + 1, v + 2, v + 3, v + 4, v + 5] S T → ckI T b tot p' lim idp v c n' l' A' B' τ nc cps ks' → ckN A A' n l n' l' B B' → wp X (d + 26) 2 202 [some (.ref 3), some (.ref 1), some (.ref c), some (.ref v), some (.int (nI pl0)), some (.int (nI pools)), some (.int (nI pi)), some (.int (nI tp)), some (.int (nI ty)), some (.int (nI many)), some (.int (nI many))] [] T Q) →
      (∀ k pl T, rdKs τ b lim ty m p n ks = .inl (k, pl) → fr [1, 3, 4, 5, 6, 7, 8, 9, 10, v, v + 1, v + 2, v + 3, v + 4, v + 5] S T → cxS T v tot k pl → Q (.inr IAE, am_thrown T)) →
      wp X (d + 26) 2 117 [some (.ref 3), some (.ref 1), some (.ref c), some (.ref v), some (.int (nI pl0)), some (.int (nI pools)), some (.int (nI pi)), some (.int (nI tp)), some (.int (nI ty)), some (.int (nI many)), some (.int (nI i))] [] S Q := by
  have hty : ty < 2 ^ 31 := by unfold kn at hkn; omega
  intro m
  induction m with
  | zero =>
    intro i p n l A B ks S hi hI hret hthr
    obtain ⟨hk, hv, hO, hc, hD, h40, hG, hn, hl⟩ := hI
    have e9 : i = many := by omega
    subst e9
    iterate 2 refine wp_step rfl rfl ?_
    refine wp_icmp rfl (fun c0 => ?_) (fun c0 => ?_)
    · replace c0 := n_ge_t (a := i) (b := i) (by omega) (by omega) c0
      exact hret p n l A B ks S rfl (fr_refl _ _) ⟨hk, hv, hO, hc, hD, h40, hG, hn, hl⟩ (ckN_refl _ _ _ _)
    · replace c0 := n_ge_f (a := i) (b := i) (by omega) (by omega) c0
      omega
  | succ m ihm =>
    intro i p n l A B ks S hi hI hret hthr
    obtain ⟨hk, hv, hO, hc, hD, h40, hG, hn, hl⟩ := hI
    have hk9 := hk.2.2
    iterate 2 refine wp_step rfl rfl ?_
    refine wp_icmp rfl (fun c0 => ?_) (fun c0 => ?_)
    · replace c0 := n_ge_t (a := i) (b := many) (by omega) (by omega) c0
      omega
    · replace c0 := n_ge_f (a := i) (b := many) (by omega) (by omega) c0
      refine wp_step rfl rfl ?_
      refine wp_getg rfl hc.1 (by decide) rfl ?_
      refine wp_step rfl rfl ?_
      refine wp_icmp rfl (fun c1 => ?_) (fun c1 => ?_)
      · replace c1 := n_ne_t (a := ks.length) (b := 40) (by omega) (by omega) c1
        refine wp_step rfl rfl ?_
        refine wp_getg rfl hc.1 (by decide) rfl ?_
        refine wp_step rfl rfl ?_
        refine wp_getg rfl hc.1 (by decide) rfl ?_
        refine wp_step rfl rfl ?_
        refine wp_ast rfl (Or.inl ⟨rfl, rfl⟩) hc.2.2.2.2.2.1 (am_in_nI (by omega) (by decide)) ?_
        rw [nI_clamp (by omega)]
        rw [show vp_nar (am_ty 0) (nI ty) = nI ty from rfl]
        have hc1 := cpS_8 hc (upd B.2.2.2.2.1 ks.length (nI ty))
        have hf1 : fr [8] S (am_upd S 8 (iA 40 (upd B.2.2.2.2.1 ks.length (nI ty)))) := fr_up (by simp)
        generalize am_upd S 8 (iA 40 (upd B.2.2.2.2.1 ks.length (nI ty))) = S1 at hc1 hf1 ⊢
        have hk1 := sK_fr hk hf1 (by decide) (by decide)
        have hv1 := vS_fr hv hf1 (fun j hj => by simp only [List.mem_cons, List.not_mem_nil, or_false] at hj; omega)
        have hO1 := ckO_fr hO hwf.1 hf1 (fun j hj => by simp only [List.mem_cons, List.not_mem_nil, or_false] at hj; omega)
        refine wp_step rfl rfl ?_
        refine wp_getg rfl hc1.1 (by decide) rfl ?_
        refine wp_step rfl rfl ?_
        refine wp_getg rfl hc1.1 (by decide) rfl ?_
        refine wp_step rfl rfl ?_
        refine wp_c0 rfl rfl (by decide) rfl (recv_ok hk1.1 rfl) rfl (q_number hk1 (fun key p1 T ec hf2 hk2 => ?_) (fun T ec hf2 hx2 => ?_))
        · have hnp := num9_pos ec
          have hc2 := cpS_fr hc1 hf2 (fun j hj => by simp only [List.mem_cons, List.not_mem_nil, or_false] at hj; omega)
          have hv2 := vS_fr hv1 hf2 (fun j hj => by simp only [List.mem_cons, List.not_mem_nil, or_false] at hj; omega)
          have hO2 := ckO_fr hO1 hwf.1 hf2 (fun j hj => by simp only [List.mem_cons, List.not_mem_nil, or_false] at hj; omega)
          refine wp_last rfl hc2.2.2.2.2.2.2.1 (am_in_nI (by omega) (by decide)) ?_
          rw [nI_clamp (by omega)]
          have hc3 := cpS_9 hc2 (vp_updL B.2.2.2.2.2.1 ks.length key)
          have hf3 : fr [9] T (am_upd T 9 (lA 40 (vp_updL B.2.2.2.2.2.1 ks.length key))) := fr_up (by simp)
          generalize am_upd T 9 (lA 40 (vp_updL B.2.2.2.2.2.1 ks.length key)) = S3 at hc3 hf3 ⊢
          have hk3 := sK_fr hk2 hf3 (by decide) (by decide)
          have hv3 := vS_fr hv2 hf3 (fun j hj => by simp only [List.mem_cons, List.not_mem_nil, or_false] at hj; omega)
          have hO3 := ckO_fr hO2 hwf.1 hf3 (fun j hj => by simp only [List.mem_cons, List.not_mem_nil, or_false] at hj; omega)
          have hfA : fr [1, 3, 4, 5, 6, 7, 8, 9, 10, v, v + 1, v + 2, v + 3, v + 4, v + 5] S S3 := fr_trans (fr_mono hf1 (fun j hj => by simp only [List.mem_cons, List.not_mem_nil, or_false, List.mem_range'_1] at hj ⊢; omega)) (fr_trans (fr_mono hf2 (fun j hj => by simp only [List.mem_cons, List.not_mem_nil, or_false, List.mem_range'_1] at hj ⊢; omega)) (fr_mono hf3 (fun j hj => by simp only [List.mem_cons, List.not_mem_nil, or_false, List.mem_range'_1] at hj ⊢; omega)))
          refine wp_step rfl rfl ?_
          refine wp_getg rfl hc3.1 (by decide) rfl ?_
          refine wp_step rfl rfl ?_
          refine wp_getg rfl hc3.1 (by decide) rfl ?_
          iterate 6 refine wp_step rfl rfl ?_
          refine wp_c0 rfl rfl (by decide) rfl (recv_ok hv3.1 rfl) rfl (q_readV (d := d) hb hwf hfh hvc (by omega) hc9 21 (Nat.le_refl _) ty 0 p1 n l A S3 _ hkn (by decide) hk3 hv3 hO3 hn (by omega) (fun p2 n2 l2 A2 T2 e2 hf4 hk4 hv4 ha4 hl4 hd4 => ?_) (fun k pl T2 e2 hf4 hx4 hs4 => ?_))
          · have hle := DV_le _ _ _ _ _ _ _ _ _ hd4
            have htop := (DV_top hd4).1
            have hc4 := cpS_fr hc3 hf4 (fun j hj => by simp only [List.mem_cons, List.not_mem_nil, or_false] at hj; omega)
            have hO4 := ckO_fr hO3 hwf.1 hf4 (fun j hj => by simp only [List.mem_cons, List.not_mem_nil, or_false] at hj; omega)
            refine wp_ast rfl (Or.inl ⟨rfl, rfl⟩) hc4.2.2.2.2.2.2.2.1 (am_in_nI (by omega) (by decide)) ?_
            rw [nI_clamp (by omega)]
            rw [show vp_nar (am_ty 0) (nI n) = nI n from rfl]
            have hc5 := cpS_10 hc4 (upd B.2.2.2.2.2.2 ks.length (nI n))
            have hf5 : fr [10] T2 (am_upd T2 10 (iA 40 (upd B.2.2.2.2.2.2 ks.length (nI n)))) := fr_up (by simp)
            generalize am_upd T2 10 (iA 40 (upd B.2.2.2.2.2.2 ks.length (nI n))) = S5 at hc5 hf5 ⊢
            iterate 2 refine wp_step rfl rfl ?_
            refine wp_getg rfl hc5.1 (by decide) rfl ?_
            iterate 2 refine wp_step rfl rfl ?_
            rw [show nI ks.length + Int32.ofInt 1 = nI (ks.length + 1) from nI_add ks.length 1]
            refine wp_putg rfl hc5.1 (by decide) rfl rfl ?_
            rw [show va_up (cpG (nI nc) (nI ks.length)) 5 (.int (nI (ks.length + 1))) = cpG (nI nc) (nI (ks.length + 1)) from cpG_5]
            have hc6 := cpS_3 hc5 nc (ks.length + 1)
            have hf6 : fr [3] S5 (am_upd S5 3 (cpC (nI nc) (nI (ks.length + 1)))) := fr_up (by simp)
            generalize am_upd S5 3 (cpC (nI nc) (nI (ks.length + 1))) = S6 at hc6 hf6 ⊢
            have hf7 : fr [3, 10] T2 S6 := fr_trans (fr_mono hf5 (fun j hj => by simp only [List.mem_cons, List.not_mem_nil, or_false, List.mem_range'_1] at hj ⊢; omega)) (fr_mono hf6 (fun j hj => by simp only [List.mem_cons, List.not_mem_nil, or_false, List.mem_range'_1] at hj ⊢; omega))
            have hfB : fr [1, 3, 4, 5, 6, 7, 8, 9, 10, v, v + 1, v + 2, v + 3, v + 4, v + 5] S S6 := fr_trans hfA (fr_trans (fr_mono hf4 (fun j hj => by simp only [List.mem_cons, List.not_mem_nil, or_false, List.mem_range'_1] at hj ⊢; omega)) (fr_mono hf7 (fun j hj => by simp only [List.mem_cons, List.not_mem_nil, or_false, List.mem_range'_1] at hj ⊢; omega)))
            iterate 2 refine wp_step rfl rfl ?_
            rw [show nI i + Int32.ofInt 1 = nI (i + 1) from nI_add i 1]
            have hlen : (ks ++ [((ty, key, p1, n) : jK)]).length = ks.length + 1 := by simp
            refine ihm (i + 1) p2 n2 l2 A2 _ (ks ++ [(ty, key, p1, n)]) S6 (by omega) ⟨sK_fr hk4 hf7 (by decide) (by decide), vS_fr hv4 hf7 (fun j hj => by simp only [List.mem_cons, List.not_mem_nil, or_false] at hj; omega), ckO_fr hO4 hwf.1 hf7 (fun j hj => by simp only [List.mem_cons, List.not_mem_nil, or_false] at hj; omega), by rw [hlen]; exact hc6, cpD_addK hD (ty, key, p1, n), by rw [hlen]; omega, ?_, htop, hl4⟩ (fun p' n' l' A' B' ks' T3 e3 hf8 hI hN => ?_) (fun k pl T3 e3 hf8 hx3 => ?_)
            · intro k hk9
              rcases List.mem_append.mp hk9 with h9 | h9
              · exact ksG_agr hG ha4 (by omega) hle.2 k h9
              · rw [List.mem_singleton] at h9
                subst h9
                exact ⟨⟨lim, l, p2, n2, l2, hk.2.2.2.1, Nat.le_refl _, Nat.le_refl _, hd4⟩, hok⟩
            · exact hret p' n' l' A' B' ks' T3 (by unfold rdKs; rw [if_neg c1, ec]; dsimp only; rw [e2]; exact e3) (fr_trans hfB hf8) hI (ckN_trans ⟨ha4, by omega, hle.2, rfl, rfl, rfl, rfl⟩ hN)
            · exact hthr k pl T3 (by unfold rdKs; rw [if_neg c1, ec]; dsimp only; rw [e2]; exact e3) (fr_trans hfB hf8) hx3
          · exact hthr k pl T2 (by unfold rdKs; rw [if_neg c1, ec]; dsimp only; rw [e2]) (fr_trans hfA (fr_mono hf4 (fun j hj => by simp only [List.mem_cons, List.not_mem_nil, or_false, List.mem_range'_1] at hj ⊢; omega))) ⟨hx4, hs4, ⟨_, _, _, cpS_fr hc3 hf4 (fun j hj => by simp only [List.mem_cons, List.not_mem_nil, or_false] at hj; omega)⟩⟩
        · exact hthr 2 p T (by unfold rdKs; rw [if_neg c1, ec]) (fr_trans (fr_mono hf1 (fun j hj => by simp only [List.mem_cons, List.not_mem_nil, or_false, List.mem_range'_1] at hj ⊢; omega)) (fr_mono hf2 (fun j hj => by simp only [List.mem_cons, List.not_mem_nil, or_false, List.mem_range'_1] at hj ⊢; omega))) ⟨hx2, ⟨_, _, _, vS_fr hv1 hf2 (fun j hj => by simp only [List.mem_cons, List.not_mem_nil, or_false] at hj; omega)⟩, ⟨_, _, _, cpS_fr hc1 hf2 (fun j hj => by simp only [List.mem_cons, List.not_mem_nil, or_false] at hj; omega)⟩⟩
      · replace c1 := n_ne_f (a := ks.length) (b := 40) (by omega) (by omega) c1
        iterate 3 refine wp_step rfl rfl ?_
        refine wp_getg rfl hk.1 (by decide) rfl ?_
        exact wp_fl rfl rfl hk (fun T hf hx => hthr 8 p T (by unfold rdKs; rw [if_pos c1]) (fr_mono hf (fun j hj => by simp only [List.mem_cons, List.not_mem_nil, or_false, List.mem_range'_1] at hj ⊢; omega)) ⟨hx, ⟨_, _, _, vS_fr hv hf (fun j hj => by simp only [List.mem_cons, List.not_mem_nil, or_false] at hj; omega)⟩, ⟨_, _, _, cpS_fr hc hf (fun j hj => by simp only [List.mem_cons, List.not_mem_nil, or_false] at hj; omega)⟩⟩)
set_option maxHeartbeats 2000000 in
theorem cp_out {pl0 pools nc : Nat} {cps : List jCp} (hb : ∀ j, b j < 256) (hwf : wfT τ) (hfh : fht τ) (hvc : v + 6 ≤ c) (hv3 : 11 ≤ v) (hc9 : c < 800000) (hpools : pools < 2 ^ 31) :
    ∀ (m i p n l : Nat) (A : jVA) (B : jCA) (ks : List jK) (S : am_S) (x7 x8 x9 x10 : Option Value), i + m = pools → ckI S b tot p lim idp v c n l A B τ nc cps ks →
      (∀ p' n' l' A' B' ks' T y7 y8 y9 y10, rdPs τ b lim m p n ks = .inr (p', n', ks') → fr [1, 3, 4, 5, 6, 7, 8, 9, 10, v, v + 1, v + 2, v + 3, v + 4, v + 5] S T → ckI T b tot p' lim idp v c n' l' A' B' τ nc cps ks' → ckN A A' n l n' l' B B' → wp X (d + 26) 2 208 [some (.ref 3), some (.ref 1), some (.ref c), some (.ref v), some (.int (nI pl0)), some (.int (nI pools)), some (.int (nI pools)), y7, y8, y9, y10] [] T Q) →
      (∀ k pl T, rdPs τ b lim m p n ks = .inl (k, pl) → fr [1, 3, 4, 5, 6, 7, 8, 9, 10, v, v + 1, v + 2, v + 3, v + 4, v + 5] S T → cxS T v tot k pl → Q (.inr IAE, am_thrown T)) →
      wp X (d + 26) 2 64 [some (.ref 3), some (.ref 1), some (.ref c), some (.ref v), some (.int (nI pl0)), some (.int (nI pools)), some (.int (nI i)), x7, x8, x9, x10] [] S Q := by
  intro m
  induction m with
  | zero =>
    intro i p n l A B ks S x7 x8 x9 x10 hi hI hret hthr
    have e9 : i = pools := by omega
    subst e9
    iterate 2 refine wp_step rfl rfl ?_
    refine wp_icmp rfl (fun c0 => ?_) (fun c0 => ?_)
    · replace c0 := n_ge_t (a := i) (b := i) (by omega) (by omega) c0
      exact hret p n l A B ks S x7 x8 x9 x10 rfl (fr_refl _ _) hI (ckN_refl _ _ _ _)
    · replace c0 := n_ge_f (a := i) (b := i) (by omega) (by omega) c0
      omega
  | succ m ihm =>
    intro i p n l A B ks S x7 x8 x9 x10 hi hI hret hthr
    obtain ⟨hk, hv, hO, hc, hD, h40, hG, hn, hl⟩ := hI
    have hk9 := hk.2.2
    iterate 2 refine wp_step rfl rfl ?_
    refine wp_icmp rfl (fun c0 => ?_) (fun c0 => ?_)
    · replace c0 := n_ge_t (a := i) (b := pools) (by omega) (by omega) c0
      omega
    · replace c0 := n_ge_f (a := i) (b := pools) (by omega) (by omega) c0
      refine wp_step rfl rfl ?_
      refine wp_getg rfl hk.1 (by decide) rfl ?_
      iterate 2 refine wp_step rfl rfl ?_
      show wp X _ 2 78 [some (.ref 3), some (.ref 1), some (.ref c), some (.ref v), some (.int (nI pl0)), some (.int (nI pools)), some (.int (nI i)), some (.int (nI p)), x8, x9, x10] [.ref 1] S Q
      refine wp_c0 rfl rfl (by decide) rfl (recv_ok hk.1 rfl) rfl (q_count hk (fun ty p1 T ec hf1 hk1 => ?_) (fun T ec hf1 hx1 => ?_))
      · have hcl := cnt_lt ec
        have hty := hcl.1
        have hv1 := vS_fr hv hf1 (fun j hj => by simp only [List.mem_cons, List.not_mem_nil, or_false] at hj; omega)
        have hc1 := cpS_fr hc hf1 (fun j hj => by simp only [List.mem_cons, List.not_mem_nil, or_false] at hj; omega)
        have hO1 := ckO_fr hO hwf.1 hf1 (fun j hj => by simp only [List.mem_cons, List.not_mem_nil, or_false] at hj; omega)
        have hf1J := fr_mono (ks := [1, 3, 4, 5, 6, 7, 8, 9, 10, v, v + 1, v + 2, v + 3, v + 4, v + 5]) hf1 (fun j hj => by simp only [List.mem_cons, List.not_mem_nil, or_false, List.mem_range'_1] at hj ⊢; omega)
        obtain ⟨⟨st, en, tk, fq, nc9, g0⟩, gR, gT⟩ := id hO1
        have K : okK τ ty = true → wp X (d + 26) 2 108 [some (.ref 3), some (.ref 1), some (.ref c), some (.ref v), some (.int (nI pl0)), some (.int (nI pools)), some (.int (nI i)), some (.int (nI p)), some (.int (nI ty)), x9, x10] [] T Q := by
          intro hok
          refine wp_step rfl rfl ?_
          refine wp_c0 rfl rfl (by decide) rfl (recv_ok hk1.1 rfl) rfl (q_count hk1 (fun many p2 T2 ec2 hf2 hk2 => ?_) (fun T2 ec2 hf2 hx2 => ?_))
          · have hcl2 := cnt_lt ec2
            iterate 3 refine wp_step rfl rfl ?_
            show wp X _ 2 117 [some (.ref 3), some (.ref 1), some (.ref c), some (.ref v), some (.int (nI pl0)), some (.int (nI pools)), some (.int (nI i)), some (.int (nI p)), some (.int (nI ty)), some (.int (nI many)), some (.int (nI 0))] [] T2 Q
            refine cp_in hb hwf hfh hvc hv3 hc9 (okK_kn hwf hty hok) hok hcl2.1 many 0 p2 n l A B ks T2 (by omega) ⟨hk2, vS_fr hv1 hf2 (fun j hj => by simp only [List.mem_cons, List.not_mem_nil, or_false] at hj; omega), ckO_fr hO1 hwf.1 hf2 (fun j hj => by simp only [List.mem_cons, List.not_mem_nil, or_false] at hj; omega), cpS_fr hc1 hf2 (fun j hj => by simp only [List.mem_cons, List.not_mem_nil, or_false] at hj; omega), hD, h40, hG, hn, by omega⟩ (fun p3 n3 l3 A3 B3 ks3 T3 e3 hf3 hI3 hN3 => ?_) (fun k pl T3 e3 hf3 hx3 => ?_)
            · iterate 2 refine wp_step rfl rfl ?_
              rw [show nI i + Int32.ofInt 1 = nI (i + 1) from nI_add i 1]
              exact ihm (i + 1) p3 n3 l3 A3 B3 ks3 T3 _ _ _ _ (by omega) hI3 (fun p' n' l' A' B' ks' T4 y7 y8 y9 y10 e4 hf4 hI4 hN4 => hret p' n' l' A' B' ks' T4 y7 y8 y9 y10 (by unfold rdPs; rw [ec]; dsimp only; rw [if_neg (by rw [hok]; decide)]; rw [ec2]; dsimp only; rw [e3]; exact e4) (fr_trans hf1J (fr_trans (fr_mono hf2 (fun j hj => by simp only [List.mem_cons, List.not_mem_nil, or_false, List.mem_range'_1] at hj ⊢; omega)) (fr_trans hf3 hf4))) hI4 (ckN_trans hN3 hN4)) (fun k pl T4 e4 hf4 hx4 => hthr k pl T4 (by unfold rdPs; rw [ec]; dsimp only; rw [if_neg (by rw [hok]; decide)]; rw [ec2]; dsimp only; rw [e3]; exact e4) (fr_trans hf1J (fr_trans (fr_mono hf2 (fun j hj => by simp only [List.mem_cons, List.not_mem_nil, or_false, List.mem_range'_1] at hj ⊢; omega)) (fr_trans hf3 hf4))) hx4)
            · exact hthr k pl T3 (by unfold rdPs; rw [ec]; dsimp only; rw [if_neg (by rw [hok]; decide)]; rw [ec2]; dsimp only; rw [e3]) (fr_trans hf1J (fr_trans (fr_mono hf2 (fun j hj => by simp only [List.mem_cons, List.not_mem_nil, or_false, List.mem_range'_1] at hj ⊢; omega)) hf3)) hx3
          · exact hthr 2 p1 T2 (by unfold rdPs; rw [ec]; dsimp only; rw [if_neg (by rw [hok]; decide)]; rw [ec2]) (fr_trans hf1J (fr_mono hf2 (fun j hj => by simp only [List.mem_cons, List.not_mem_nil, or_false, List.mem_range'_1] at hj ⊢; omega))) ⟨hx2, ⟨_, _, _, vS_fr hv1 hf2 (fun j hj => by simp only [List.mem_cons, List.not_mem_nil, or_false] at hj; omega)⟩, ⟨_, _, _, cpS_fr hc1 hf2 (fun j hj => by simp only [List.mem_cons, List.not_mem_nil, or_false] at hj; omega)⟩⟩
        iterate 3 refine wp_step rfl rfl ?_
        refine wp_c0 rfl rfl (by decide) rfl (recv_ok g0 rfl) rfl (q_isPlain hty (fun c5 => ?_) (fun c5 => ?_))
        · refine wp_if_t rfl rfl ?_
          exact K (by unfold okK; rw [decide_eq_true c5]; rfl)
        · refine wp_if_f rfl rfl ?_
          iterate 2 refine wp_step rfl rfl ?_
          refine wp_c0 rfl rfl (by decide) rfl (recv_ok g0 rfl) rfl (q_isStructure hwf hO1 (by omega) hty (fun c6 => ?_) (fun c6 => ?_))
          · refine wp_if_t rfl rfl ?_
            exact K (by unfold okK; rw [kdb_iff.mpr c6]; simp)
          · refine wp_if_f rfl rfl ?_
            iterate 3 refine wp_step rfl rfl ?_
            have hok : okK τ ty = false := by
              unfold okK
              rw [decide_eq_false c5]
              cases e9 : kdb τ ty 0 with
              | true => exact absurd (kdb_iff.mp e9) c6
              | false => rfl
            exact wp_fl rfl rfl hk1 (fun T2 hf2 hx2 => hthr 3 p T2 (by unfold rdPs; rw [ec]; dsimp only; rw [if_pos hok]) (fr_trans hf1J (fr_mono hf2 (fun j hj => by simp only [List.mem_cons, List.not_mem_nil, or_false, List.mem_range'_1] at hj ⊢; omega))) ⟨hx2, ⟨_, _, _, vS_fr hv1 hf2 (fun j hj => by simp only [List.mem_cons, List.not_mem_nil, or_false] at hj; omega)⟩, ⟨_, _, _, cpS_fr hc1 hf2 (fun j hj => by simp only [List.mem_cons, List.not_mem_nil, or_false] at hj; omega)⟩⟩)
      · exact hthr 2 p T (by unfold rdPs; rw [ec]) (fr_mono hf1 (fun j hj => by simp only [List.mem_cons, List.not_mem_nil, or_false, List.mem_range'_1] at hj ⊢; omega)) ⟨hx1, ⟨_, _, _, vS_fr hv hf1 (fun j hj => by simp only [List.mem_cons, List.not_mem_nil, or_false] at hj; omega)⟩, ⟨_, _, _, cpS_fr hc hf1 (fun j hj => by simp only [List.mem_cons, List.not_mem_nil, or_false] at hj; omega)⟩⟩
set_option maxHeartbeats 2000000 in
theorem q_cpRead {q p n l : Nat} {A : jVA} {B : jCA} {cps : List jCp} {ks : List jK} {S : am_S} (hb : ∀ j, b j < 256) (hwf : wfT τ) (hfh : fht τ) (hvc : v + 6 ≤ c) (hv3 : 11 ≤ v) (hc9 : c < 800000) (hcn : cps.length < 240) (hI : ckI S b tot p lim idp v c n l A B τ cps.length cps ks)
    (hret : ∀ dl p' n' l' A' B' ks' T, rdCp τ b lim p n ks = .inr (dl, p', n', ks') → fr [1, 3, 4, 5, 6, 7, 8, 9, 10, v, v + 1, v + 2, v + 3, v + 4, v + 5] S T → ckI T b tot p' lim idp v c n' l' A' B' τ (cps ++ [((q, dl, p, ks'.length) : jCp)]).length (cps ++ [(q, dl, p, ks'.length)]) ks' → agr A A' n l → n ≤ n' → l ≤ l' → Q (.inl none, T))
    (hthr : ∀ k pl T, rdCp τ b lim p n ks = .inl (k, pl) → fr [1, 3, 4, 5, 6, 7, 8, 9, 10, v, v + 1, v + 2, v + 3, v + 4, v + 5] S T → cxS T v tot k pl → Q (.inr IAE, am_thrown T)) :
    ev X (d + 27) 2 [.ref 3, .ref 1, .ref c, .ref v, .int (nI q)] S Q := by
  refine ev_wp (L0 := [some (.ref 3), some (.ref 1), some (.ref c), some (.ref v), some (.int (nI q)), none, none, none, none, none, none]) (Nat.le_of_ble_eq_true rfl) rfl ?_
  obtain ⟨hk, hv, hO, hc, hD, h40, hG, hn, hl⟩ := hI
  have hk9 := hk.2.2
  refine wp_step rfl rfl ?_
  refine wp_getg rfl hc.1 (by decide) rfl ?_
  refine wp_step rfl rfl ?_
  refine wp_icmp rfl (fun c0 => ?_) (fun c0 => ?_)
  · replace c0 := n_ne_t (a := cps.length) (b := 240) (by omega) (by omega) c0
    refine wp_step rfl rfl ?_
    refine wp_getg rfl hc.1 (by decide) rfl ?_
    refine wp_step rfl rfl ?_
    refine wp_getg rfl hc.1 (by decide) rfl ?_
    refine wp_step rfl rfl ?_
    refine wp_ast rfl (Or.inl ⟨rfl, rfl⟩) hc.2.1 (am_in_nI (by omega) (by decide)) ?_
    rw [nI_clamp (by omega)]
    rw [show vp_nar (am_ty 0) (nI q) = nI q from rfl]
    have hc1 := cpS_4 hc (upd B.1 cps.length (nI q))
    have hf1 : fr [4] S (am_upd S 4 (iA 240 (upd B.1 cps.length (nI q)))) := fr_up (by simp)
    generalize am_upd S 4 (iA 240 (upd B.1 cps.length (nI q))) = S1 at hc1 hf1 ⊢
    have hk1 := sK_fr hk hf1 (by decide) (by decide)
    refine wp_step rfl rfl ?_
    refine wp_getg rfl hc1.1 (by decide) rfl ?_
    refine wp_step rfl rfl ?_
    refine wp_getg rfl hc1.1 (by decide) rfl ?_
    refine wp_step rfl rfl ?_
    refine wp_getg rfl hk1.1 (by decide) rfl ?_
    refine wp_ast rfl (Or.inl ⟨rfl, rfl⟩) hc1.2.2.2.1 (am_in_nI (by omega) (by decide)) ?_
    rw [nI_clamp (by omega)]
    rw [show vp_nar (am_ty 0) (nI p) = nI p from rfl]
    have hc2 := cpS_6 hc1 (upd B.2.2.1 cps.length (nI p))
    have hf2 : fr [6] S1 (am_upd S1 6 (iA 240 (upd B.2.2.1 cps.length (nI p)))) := fr_up (by simp)
    generalize am_upd S1 6 (iA 240 (upd B.2.2.1 cps.length (nI p))) = S2 at hc2 hf2 ⊢
    have hf12 : fr [4, 6] S S2 := fr_trans (fr_mono hf1 (fun j hj => by simp only [List.mem_cons, List.not_mem_nil, or_false, List.mem_range'_1] at hj ⊢; omega)) (fr_mono hf2 (fun j hj => by simp only [List.mem_cons, List.not_mem_nil, or_false, List.mem_range'_1] at hj ⊢; omega))
    have hk2 := sK_fr hk hf12 (by decide) (by decide)
    have hv2 := vS_fr hv hf12 (fun j hj => by simp only [List.mem_cons, List.not_mem_nil, or_false] at hj; omega)
    have hO2 := ckO_fr hO hwf.1 hf12 (fun j hj => by simp only [List.mem_cons, List.not_mem_nil, or_false] at hj; omega)
    refine wp_step rfl rfl ?_
    refine wp_getg rfl hc2.1 (by decide) rfl ?_
    refine wp_step rfl rfl ?_
    refine wp_getg rfl hc2.1 (by decide) rfl ?_
    refine wp_step rfl rfl ?_
    refine wp_c0 rfl rfl (by decide) rfl (recv_ok hk2.1 rfl) rfl (q_count hk2 (fun dl p1 T ec hf3 hk3 => ?_) (fun T ec hf3 hx3 => ?_))
    · have hcl := cnt_lt ec
      have hc3 := cpS_fr hc2 hf3 (fun j hj => by simp only [List.mem_cons, List.not_mem_nil, or_false] at hj; omega)
      have hv3' := vS_fr hv2 hf3 (fun j hj => by simp only [List.mem_cons, List.not_mem_nil, or_false] at hj; omega)
      have hO3 := ckO_fr hO2 hwf.1 hf3 (fun j hj => by simp only [List.mem_cons, List.not_mem_nil, or_false] at hj; omega)
      refine wp_ast rfl (Or.inl ⟨rfl, rfl⟩) hc3.2.2.1 (am_in_nI (by omega) (by decide)) ?_
      rw [nI_clamp (by omega)]
      rw [show vp_nar (am_ty 0) (nI dl) = nI dl from rfl]
      have hc4 := cpS_5 hc3 (upd B.2.1 cps.length (nI dl))
      have hf4 : fr [5] T (am_upd T 5 (iA 240 (upd B.2.1 cps.length (nI dl)))) := fr_up (by simp)
      generalize am_upd T 5 (iA 240 (upd B.2.1 cps.length (nI dl))) = S4 at hc4 hf4 ⊢
      have hk4 := sK_fr hk3 hf4 (by decide) (by decide)
      have hv4 := vS_fr hv3' hf4 (fun j hj => by simp only [List.mem_cons, List.not_mem_nil, or_false] at hj; omega)
      have hO4 := ckO_fr hO3 hwf.1 hf4 (fun j hj => by simp only [List.mem_cons, List.not_mem_nil, or_false] at hj; omega)
      have hfA : fr [1, 3, 4, 5, 6, 7, 8, 9, 10, v, v + 1, v + 2, v + 3, v + 4, v + 5] S S4 := fr_trans (fr_mono hf12 (fun j hj => by simp only [List.mem_cons, List.not_mem_nil, or_false, List.mem_range'_1] at hj ⊢; omega)) (fr_trans (fr_mono hf3 (fun j hj => by simp only [List.mem_cons, List.not_mem_nil, or_false, List.mem_range'_1] at hj ⊢; omega)) (fr_mono hf4 (fun j hj => by simp only [List.mem_cons, List.not_mem_nil, or_false, List.mem_range'_1] at hj ⊢; omega)))
      refine wp_step rfl rfl ?_
      refine wp_c0 rfl rfl (by decide) rfl (recv_ok hk4.1 rfl) rfl (q_count hk4 (fun pools p2 T2 ec2 hf5 hk5 => ?_) (fun T2 ec2 hf5 hx5 => ?_))
      · have hcl2 := cnt_lt ec2
        iterate 3 refine wp_step rfl rfl ?_
        show wp X _ 2 64 [some (.ref 3), some (.ref 1), some (.ref c), some (.ref v), some (.int (nI q)), some (.int (nI pools)), some (.int (nI 0)), none, none, none, none] [] T2 Q
        have hD4 : cpD (upd B.1 cps.length (nI q), upd B.2.1 cps.length (nI dl), upd B.2.2.1 cps.length (nI p), B.2.2.2.1, B.2.2.2.2.1, B.2.2.2.2.2.1, B.2.2.2.2.2.2) cps ks := by
          refine ⟨fun i y hy => ?_, hD.2⟩
          have hi := (List.getElem?_eq_some_iff.mp hy).1
          obtain ⟨a1, a2, a3, a4⟩ := hD.1 i y hy
          exact ⟨(pk_un (by omega)).trans a1, (pk_un (by omega)).trans a2, (pk_un (by omega)).trans a3, a4⟩
        refine cp_out hb hwf hfh hvc hv3 hc9 hcl2.1 pools 0 p2 n l A _ ks T2 none none none none (by omega) ⟨hk5, vS_fr hv4 hf5 (fun j hj => by simp only [List.mem_cons, List.not_mem_nil, or_false] at hj; omega), ckO_fr hO4 hwf.1 hf5 (fun j hj => by simp only [List.mem_cons, List.not_mem_nil, or_false] at hj; omega), cpS_fr hc4 hf5 (fun j hj => by simp only [List.mem_cons, List.not_mem_nil, or_false] at hj; omega), hD4, h40, hG, hn, by omega⟩ (fun p' n' l' A' B' ks' T3 y7 y8 y9 y10 e3 hf6 hI hN => ?_) (fun k pl T3 e3 hf6 hx6 => ?_)
        · obtain ⟨gk, gv, gO, gc, gD, g40, gG, gn, gl⟩ := hI
          obtain ⟨m1, m2, m3, m4, m5, m6, m7⟩ := hN
          iterate 2 refine wp_step rfl rfl ?_
          refine wp_getg rfl gc.1 (by decide) rfl ?_
          iterate 2 refine wp_step rfl rfl ?_
          rw [show nI cps.length + Int32.ofInt 1 = nI (cps.length + 1) from nI_add cps.length 1]
          refine wp_putg rfl gc.1 (by decide) rfl rfl ?_
          rw [show va_up (cpG (nI cps.length) (nI ks'.length)) 0 (.int (nI (cps.length + 1))) = cpG (nI (cps.length + 1)) (nI ks'.length) from cpG_0]
          have hc7 := cpS_3 gc (cps.length + 1) ks'.length
          have hf7 : fr [3] T3 (am_upd T3 3 (cpC (nI (cps.length + 1)) (nI ks'.length))) := fr_up (by simp)
          generalize am_upd T3 3 (cpC (nI (cps.length + 1)) (nI ks'.length)) = S7 at hc7 hf7 ⊢
          refine wp_step rfl rfl ?_
          refine wp_getg rfl hc7.1 (by decide) rfl ?_
          refine wp_step rfl rfl ?_
          refine wp_getg rfl hc7.1 (by decide) rfl ?_
          refine wp_step rfl rfl ?_
          refine wp_getg rfl hc7.1 (by decide) rfl ?_
          refine wp_ast rfl (Or.inl ⟨rfl, rfl⟩) hc7.2.2.2.2.1 (am_in_nI (by omega) (by decide)) ?_
          rw [nI_clamp (by omega)]
          rw [show vp_nar (am_ty 0) (nI ks'.length) = nI ks'.length from rfl]
          have hc8 := cpS_7 hc7 (upd B'.2.2.2.1 (cps.length + 1) (nI ks'.length)) ((pk_un (by omega)).trans hc7.2.2.2.2.2.2.2.2)
          have hf8 : fr [7] S7 (am_upd S7 7 (iA 241 (upd B'.2.2.2.1 (cps.length + 1) (nI ks'.length)))) := fr_up (by simp)
          generalize am_upd S7 7 (iA 241 (upd B'.2.2.2.1 (cps.length + 1) (nI ks'.length))) = S8 at hc8 hf8 ⊢
          have hf9 : fr [3, 7] T3 S8 := fr_trans (fr_mono hf7 (fun j hj => by simp only [List.mem_cons, List.not_mem_nil, or_false, List.mem_range'_1] at hj ⊢; omega)) (fr_mono hf8 (fun j hj => by simp only [List.mem_cons, List.not_mem_nil, or_false, List.mem_range'_1] at hj ⊢; omega))
          refine wp_vret rfl rfl (hret dl p' n' l' A' _ ks' S8 (by unfold rdCp; rw [ec]; dsimp only; rw [ec2]; dsimp only; rw [e3]) (fr_trans hfA (fr_trans (fr_mono hf5 (fun j hj => by simp only [List.mem_cons, List.not_mem_nil, or_false, List.mem_range'_1] at hj ⊢; omega)) (fr_trans hf6 (fr_mono hf9 (fun j hj => by simp only [List.mem_cons, List.not_mem_nil, or_false, List.mem_range'_1] at hj ⊢; omega))))) ⟨sK_fr gk hf9 (by decide) (by decide), vS_fr gv hf9 (fun j hj => by simp only [List.mem_cons, List.not_mem_nil, or_false] at hj; omega), ckO_fr gO hwf.1 hf9 (fun j hj => by simp only [List.mem_cons, List.not_mem_nil, or_false] at hj; omega), by rw [List.length_append]; exact hc8, ?_, g40, gG, gn, gl⟩ m1 m2 m3)
          refine ⟨fun i y hy => ?_, gD.2⟩
          rcases at_app hy with ⟨h1, h2⟩ | ⟨h1, h2⟩
          · obtain ⟨a1, a2, a3, a4⟩ := gD.1 i y h2
            exact ⟨a1, a2, a3, (pk_un (by omega)).trans a4⟩
          · subst h1; subst h2
            exact ⟨(congrFun m4 _).trans pk_us, (congrFun m5 _).trans pk_us, (congrFun m6 _).trans pk_us, pk_us⟩
        · exact hthr k pl T3 (by unfold rdCp; rw [ec]; dsimp only; rw [ec2]; dsimp only; rw [e3]) (fr_trans hfA (fr_trans (fr_mono hf5 (fun j hj => by simp only [List.mem_cons, List.not_mem_nil, or_false, List.mem_range'_1] at hj ⊢; omega)) hf6)) hx6
      · exact hthr 2 p1 T2 (by unfold rdCp; rw [ec]; dsimp only; rw [ec2]) (fr_trans hfA (fr_mono hf5 (fun j hj => by simp only [List.mem_cons, List.not_mem_nil, or_false, List.mem_range'_1] at hj ⊢; omega))) ⟨hx5, ⟨_, _, _, vS_fr hv4 hf5 (fun j hj => by simp only [List.mem_cons, List.not_mem_nil, or_false] at hj; omega)⟩, ⟨_, _, _, cpS_fr hc4 hf5 (fun j hj => by simp only [List.mem_cons, List.not_mem_nil, or_false] at hj; omega)⟩⟩
    · exact hthr 2 p T (by unfold rdCp; rw [ec]) (fr_trans (fr_mono hf12 (fun j hj => by simp only [List.mem_cons, List.not_mem_nil, or_false, List.mem_range'_1] at hj ⊢; omega)) (fr_mono hf3 (fun j hj => by simp only [List.mem_cons, List.not_mem_nil, or_false, List.mem_range'_1] at hj ⊢; omega))) ⟨hx3, ⟨_, _, _, vS_fr hv2 hf3 (fun j hj => by simp only [List.mem_cons, List.not_mem_nil, or_false] at hj; omega)⟩, ⟨_, _, _, cpS_fr hc2 hf3 (fun j hj => by simp only [List.mem_cons, List.not_mem_nil, or_false] at hj; omega)⟩⟩
  · replace c0 := n_ne_f (a := cps.length) (b := 240) (by omega) (by omega) c0
    omega
end CPREAD
