/-! Checkpoints.link -/
theorem nI_inj {a b : Nat} (ha : a < 2 ^ 32) (hb : b < 2 ^ 32) (h : nI a = nI b) : a = b := by
  have h1 : (nI a).toBitVec.toNat = (nI b).toBitVec.toNat := by rw [h]
  have e : ∀ n, n < 2 ^ 32 → (nI n).toBitVec.toNat = n := fun n hn => by
    show (BitVec.ofNat 32 n).toNat = n
    rw [BitVec.toNat_ofNat]
    exact Nat.mod_eq_of_lt hn
  rw [e a ha, e b hb] at h1
  exact h1
theorem nI_subne {a q dl : Nat} (ha : a < 2 ^ 31) (hd : dl < 2 ^ 31) (hq : q < dl) : nI a ≠ nI q - nI dl := by
  intro h
  have h1 : nI a + nI dl = nI q := by rw [h]; exact Int32.sub_add_cancel ..
  rw [nI_add] at h1
  have := nI_inj (by omega) (by omega) h1
  omega
/-- a chunk's constants -/
abbrev jKA : Type := (Nat → Int32) × (Nat → Int64) × (Nat → Int32)
def ckK (S : am_S) (c : Nat) (K : jKA) : Prop := am_get S (c + 2) = some (iA 40 K.1) ∧ am_get S (c + 3) = some (lA 40 K.2.1) ∧ am_get S (c + 4) = some (iA 40 K.2.2)
def ckKs (S : am_S) (c : Nat) : Prop := ∃ K, ckK S c K
def ckKD (K : jKA) (L : List jK) : Prop := ∀ (i : Nat) (k : jK), L[i]? = some k → K.1 i = nI k.1 ∧ K.2.1 i = k.2.1 ∧ K.2.2 i = nI k.2.2.2
theorem ckK_fr {js : List Nat} {S T : am_S} {c : Nat} {K : jKA} (h : ckK S c K) (hf : fr js S T) (hj : ∀ j, j ∈ js → j < c + 2 ∨ c + 5 ≤ j) : ckK T c K := by
  obtain ⟨h0, h1, h2⟩ := h
  have nm : ∀ q, 2 ≤ q → q < 5 → c + q ∉ js := fun q h1 h2 h9 => by have := hj _ h9; omega
  exact ⟨by rw [fr_get hf (nm 2 (by omega) (by omega))]; exact h0, by rw [fr_get hf (nm 3 (by omega) (by omega))]; exact h1, by rw [fr_get hf (nm 4 (by omega) (by omega))]; exact h2⟩
theorem ckKD_add {K : jKA} {L : List jK} (h : ckKD K L) (k : jK) : ckKD (upd K.1 L.length (nI k.1), vp_updL K.2.1 L.length k.2.1, upd K.2.2 L.length (nI k.2.2.2)) (L ++ [k]) := by
  intro i y hy
  rcases at_app hy with ⟨h1, h2⟩ | ⟨h1, h2⟩
  · obtain ⟨a1, a2, a3⟩ := h i y h2
    exact ⟨(pk_un (by omega)).trans a1, (pk_uLn (by omega)).trans a2, (pk_un (by omega)).trans a3⟩
  · subst h1; subst h2; exact ⟨pk_us, pk_uLs, pk_us⟩
section LINK
variable {X : Nat × (Nat → Int32)} {d : Nat} {Q : am_R → Prop} {c : Nat} {st en nt : Int32} {tk fq : Int64}
theorem q_addConst {S : am_S} {m : Nat} {K : jKA} {ty nd : Int32} {key : Int64} (h : am_get S c = some (ckC c st en tk fq nt (nI m))) (hK : ckK S c K) (hm : m < 40) (hc9 : c < 800000) (hq : ∀ T, fr [c, c + 2, c + 3, c + 4] S T → am_get T c = some (ckC c st en tk fq nt (nI (m + 1))) → ckK T c (upd K.1 m ty, vp_updL K.2.1 m key, upd K.2.2 m nd) → Q (.inl none, T)) : ev X (d + 1) 15 [.ref c, .int ty, .long key, .int nd] S Q := by
  refine ev_wp (L0 := [some (.ref c), some (.int ty), some (.long key), none, some (.int nd)]) (Nat.le_of_ble_eq_true rfl) rfl ?_
  refine wp_step rfl rfl ?_
  refine wp_getg rfl h (by decide) rfl ?_
  refine wp_step rfl rfl ?_
  refine wp_icmp rfl (fun c0 => ?_) (fun c0 => ?_)
  · replace c0 := n_ge_t (a := m) (b := 40) (by omega) (by omega) c0
    omega
  · replace c0 := n_ge_f (a := m) (b := 40) (by omega) (by omega) c0
    refine wp_step rfl rfl ?_
    refine wp_getg rfl h (by decide) rfl ?_
    refine wp_step rfl rfl ?_
    refine wp_getg rfl h (by decide) rfl ?_
    refine wp_step rfl rfl ?_
    refine wp_ast rfl (Or.inl ⟨rfl, rfl⟩) hK.1 (am_in_nI (by omega) (by decide)) ?_
    rw [nI_clamp (by omega)]
    rw [show vp_nar (am_ty 0) (ty) = ty from rfl]
    have h1 : am_get (am_upd S (c + 2) (iA 40 (upd K.1 m ty))) c = some (ckC c st en tk fq nt (nI m)) := by rw [am_get_ne (by omega)]; exact h
    have hK1 : ckK (am_upd S (c + 2) (iA 40 (upd K.1 m ty))) c (upd K.1 m ty, K.2.1, K.2.2) := ⟨am_get_self hK.1, by rw [am_get_ne (by omega)]; exact hK.2.1, by rw [am_get_ne (by omega)]; exact hK.2.2⟩
    have hf1 : fr [c, c + 2, c + 3, c + 4] S (am_upd S (c + 2) (iA 40 (upd K.1 m ty))) := fr_up (by simp)
    generalize am_upd S (c + 2) (iA 40 (upd K.1 m ty)) = S1 at h1 hK1 hf1 ⊢
    refine wp_step rfl rfl ?_
    refine wp_getg rfl h1 (by decide) rfl ?_
    refine wp_step rfl rfl ?_
    refine wp_getg rfl h1 (by decide) rfl ?_
    refine wp_step rfl rfl ?_
    refine wp_last rfl hK1.2.1 (am_in_nI (by omega) (by decide)) ?_
    rw [nI_clamp (by omega)]
    have h2 : am_get (am_upd S1 (c + 3) (lA 40 (vp_updL K.2.1 m key))) c = some (ckC c st en tk fq nt (nI m)) := by rw [am_get_ne (by omega)]; exact h1
    have hK2 : ckK (am_upd S1 (c + 3) (lA 40 (vp_updL K.2.1 m key))) c (upd K.1 m ty, vp_updL K.2.1 m key, K.2.2) := ⟨by rw [am_get_ne (by omega)]; exact hK1.1, am_get_self hK1.2.1, by rw [am_get_ne (by omega)]; exact hK1.2.2⟩
    have hf2 : fr [c, c + 2, c + 3, c + 4] S (am_upd S1 (c + 3) (lA 40 (vp_updL K.2.1 m key))) := fr_upd hf1 (by simp)
    generalize am_upd S1 (c + 3) (lA 40 (vp_updL K.2.1 m key)) = S2 at h2 hK2 hf2 ⊢
    refine wp_step rfl rfl ?_
    refine wp_getg rfl h2 (by decide) rfl ?_
    refine wp_step rfl rfl ?_
    refine wp_getg rfl h2 (by decide) rfl ?_
    refine wp_step rfl rfl ?_
    refine wp_ast rfl (Or.inl ⟨rfl, rfl⟩) hK2.2.2 (am_in_nI (by omega) (by decide)) ?_
    rw [nI_clamp (by omega)]
    rw [show vp_nar (am_ty 0) (nd) = nd from rfl]
    have h3 : am_get (am_upd S2 (c + 4) (iA 40 (upd K.2.2 m nd))) c = some (ckC c st en tk fq nt (nI m)) := by rw [am_get_ne (by omega)]; exact h2
    have hK3 : ckK (am_upd S2 (c + 4) (iA 40 (upd K.2.2 m nd))) c (upd K.1 m ty, vp_updL K.2.1 m key, upd K.2.2 m nd) := ⟨by rw [am_get_ne (by omega)]; exact hK2.1, by rw [am_get_ne (by omega)]; exact hK2.2.1, am_get_self hK2.2.2⟩
    have hf3 : fr [c, c + 2, c + 3, c + 4] S (am_upd S2 (c + 4) (iA 40 (upd K.2.2 m nd))) := fr_upd hf2 (by simp)
    generalize am_upd S2 (c + 4) (iA 40 (upd K.2.2 m nd)) = S3 at h3 hK3 hf3 ⊢
    iterate 2 refine wp_step rfl rfl ?_
    refine wp_getg rfl h3 (by decide) rfl ?_
    iterate 2 refine wp_step rfl rfl ?_
    rw [show nI m + Int32.ofInt 1 = nI (m + 1) from nI_add m 1]
    refine wp_putg rfl h3 (by decide) rfl rfl ?_
    rw [show va_up (ckG c st en tk fq nt (nI m)) 6 (.int (nI (m + 1))) = ckG c st en tk fq nt (nI (m + 1)) from ckG_6]
    refine wp_vret rfl rfl (hq _ (fr_upd hf3 (by simp)) (am_get_self h3) ⟨by rw [am_get_ne (by omega)]; exact hK3.1, by rw [am_get_ne (by omega)]; exact hK3.2.1, by rw [am_get_ne (by omega)]; exact hK3.2.2⟩)
theorem sa_loop {S : am_S} {n m : Nat} {B : jCA} {x : Int32} (h : cpS S n m B) (hn : n ≤ 240) : ∀ (k i : Nat), i + k = n → Q (.inl (some (.int (oI (fsti (fun i => decide (B.1 i = x)) k i)))), S) → wp X d 4 2 [some (.ref 3), some (.int x), some (.int (nI i))] [] S Q := by
  intro k
  induction k with
  | zero =>
    intro i hi hq
    iterate 2 refine wp_step rfl rfl ?_
    refine wp_getg rfl h.1 (by decide) rfl ?_
    refine wp_icmp rfl (fun c => ?_) (fun c => ?_)
    · replace c := n_ge_t (a := i) (b := n) (by omega) (by omega) c
      refine wp_step rfl rfl ?_
      refine wp_iret rfl rfl rfl hq
    · replace c := n_ge_f (a := i) (b := n) (by omega) (by omega) c
      omega
  | succ k ih =>
    intro i hi hq
    iterate 2 refine wp_step rfl rfl ?_
    refine wp_getg rfl h.1 (by decide) rfl ?_
    refine wp_icmp rfl (fun c0 => ?_) (fun c0 => ?_)
    · replace c0 := n_ge_t (a := i) (b := n) (by omega) (by omega) c0
      omega
    · replace c0 := n_ge_f (a := i) (b := n) (by omega) (by omega) c0
      refine wp_step rfl rfl ?_
      refine wp_getg rfl h.1 (by decide) rfl ?_
      refine wp_step rfl rfl ?_
      refine wp_ald rfl (Or.inl ⟨rfl, rfl⟩) (by decide) h.2.1 (am_in_nI (by omega) (by decide)) ?_
      rw [nI_clamp (by omega)]
      unfold fsti at hq
      refine wp_step rfl rfl ?_
      refine wp_icmp rfl (fun c1 => ?_) (fun c1 => ?_)
      · rw [if_neg (by rw [decide_eq_true_iff]; exact of_decide_eq_true c1)] at hq
        iterate 2 refine wp_step rfl rfl ?_
        rw [show nI i + Int32.ofInt 1 = nI (i + 1) from nI_add i 1]
        exact ih (i + 1) (by omega) hq
      · rw [if_pos (by rw [decide_eq_true_iff]; exact Decidable.of_not_not (of_decide_eq_false c1))] at hq
        refine wp_step rfl rfl ?_
        refine wp_iret rfl rfl rfl hq
theorem q_startAt {S : am_S} {n m : Nat} {B : jCA} {x : Int32} (h : cpS S n m B) (hn : n ≤ 240) (hq : Q (.inl (some (.int (oI (fsti (fun i => decide (B.1 i = x)) n 0)))), S)) : ev X (d + 1) 4 [.ref 3, .int x] S Q := by
  refine ev_wp (L0 := [some (.ref 3), some (.int x), none]) (Nat.le_of_ble_eq_true rfl) rfl ?_
  iterate 2 refine wp_step rfl rfl ?_
  exact sa_loop h hn n 0 (by omega) hq
/-- what is true of the checkpoints that were read -/
def cpOK (cps : List jCp) (ks : List jK) : Prop := cps.length < 240 ∧ ks.length ≤ 40 ∧ (∀ (i : Nat) (y : jCp), cps[i]? = some y → y.1 < 960 ∧ y.2.1 < 2 ^ 31 ∧ y.2.2.1 ≤ 960 ∧ y.2.2.2 ≤ ks.length) ∧ ∀ (i j : Nat) (x y : jCp), i < j → cps[i]? = some x → cps[j]? = some y → x.1 < y.1 ∧ x.2.2.2 ≤ y.2.2.2
theorem cpx_some {cps : List jCp} {q i : Nat} (h : cpx cps q = some i) : ∃ y, cps[i]? = some y ∧ y.1 = q ∧ i < cps.length := by
  obtain ⟨h1, h2, h3, h4⟩ := fsti_some h
  have h5 : i < cps.length := by omega
  refine ⟨cps[i], List.getElem?_eq_getElem h5, ?_, h5⟩
  have h6 := of_decide_eq_true h3
  rw [List.getElem?_eq_getElem h5] at h6
  simpa using h6
theorem sa_cpx {B : jCA} {cps : List jCp} {ks : List jK} (hD : cpD B cps ks) (hO : cpOK cps ks) {w : Nat} (hw : w < 2 ^ 31) : fsti (fun i => decide (B.1 i = nI w)) cps.length 0 = cpx cps w := by
  refine fsti_congr (fun k _ hk => ?_)
  have hk2 : k < cps.length := by omega
  have e := List.getElem?_eq_getElem hk2
  have h1 := (hD.1 k _ e).1
  have h2 := (hO.2.2.1 k _ e).1
  rw [e, h1]
  rw [decide_eq_decide, nI_eq (by omega) hw]
  simp
theorem sa_none {B : jCA} {cps : List jCp} {ks : List jK} (hD : cpD B cps ks) (hO : cpOK cps ks) {q dl : Nat} (hd : dl < 2 ^ 31) (hq : q < dl) : fsti (fun i => decide (B.1 i = nI q - nI dl)) cps.length 0 = none := by
  refine fsti_mkN (fun k _ hk => ?_)
  have hk2 : k < cps.length := by omega
  have e := List.getElem?_eq_getElem hk2
  have h1 := (hD.1 k _ e).1
  have h2 := (hO.2.2.1 k _ e).1
  rw [h1]
  exact decide_eq_false (nI_subne (by omega) hd hq)
theorem ceA_at {cps : List jCp} {i : Nat} {y : jCp} (h : cps[i]? = some y) : ceA cps (i + 1) = y.2.2.2 := by
  show (match cps[i]? with
    | none => 0
    | some y => y.2.2.2) = _
  rw [h]
theorem ceA_le {cps : List jCp} {ks : List jK} (hO : cpOK cps ks) {i j : Nat} (hij : i ≤ j) (hj : j ≤ cps.length) : ceA cps i ≤ ceA cps j ∧ ceA cps j ≤ ks.length := by
  have up : ∀ i, i ≤ cps.length → ceA cps i ≤ ks.length := by
    intro i hi
    cases i with
    | zero => exact Nat.zero_le _
    | succ i =>
      have e := List.getElem?_eq_getElem (show i < cps.length by omega)
      rw [ceA_at e]
      exact (hO.2.2.1 i _ e).2.2.2
  refine ⟨?_, up j hj⟩
  cases i with
  | zero => exact Nat.zero_le _
  | succ i =>
    cases j with
    | zero => omega
    | succ j =>
      have e := List.getElem?_eq_getElem (show i < cps.length by omega)
      have e2 := List.getElem?_eq_getElem (show j < cps.length by omega)
      rw [ceA_at e, ceA_at e2]
      rcases Nat.eq_or_lt_of_le (show i ≤ j by omega) with h | h
      · subst h; exact Nat.le_refl _
      · exact (hO.2.2.2 i j _ _ h e e2).2
theorem fc_ce {S : am_S} {n m : Nat} {B : jCA} {cps : List jCp} {ks : List jK} (hc : cpS S n m B) (hD : cpD B cps ks) {i : Nat} (hi : i ≤ cps.length) : B.2.2.2.1 i = nI (ceA cps i) := by
  cases i with
  | zero => exact hc.2.2.2.2.2.2.2.2
  | succ i =>
    have e := List.getElem?_eq_getElem (show i < cps.length by omega)
    rw [ceA_at e]
    exact (hD.1 i _ e).2.2.2
theorem lk_in {n m last j i : Nat} {B : jCA} {cps : List jCp} {ks : List jK} (hc11 : 11 ≤ c) (hc9 : c < 800000) (hD : cpD B cps ks) (hO : cpOK cps ks) (hj : j < cps.length) :
    ∀ (k x : Nat) (L0 : List jK) (K : jKA) (S : am_S), x + k = ceA cps (j + 1) → ceA cps (j + 1) ≤ ks.length → L0.length + k ≤ 40 → cpS S n m B → am_get S c = some (ckC c st en tk fq nt (nI L0.length)) → ckK S c K → ckKD K L0 →
      (∀ K' T, fr [c, c + 2, c + 3, c + 4] S T → am_get T c = some (ckC c st en tk fq nt (nI (L0 ++ (ks.take (ceA cps (j + 1))).drop x).length)) → ckK T c K' → ckKD K' (L0 ++ (ks.take (ceA cps (j + 1))).drop x) → wp X (d + 1) 3 121 [some (.ref 3), some (.ref 1), some (.ref c), some (.int (nI last)), some (.int (nI j)), some (.int (nI i)), some (.int (nI (ceA cps (j + 1))))] [] T Q) →
      wp X (d + 1) 3 76 [some (.ref 3), some (.ref 1), some (.ref c), some (.int (nI last)), some (.int (nI j)), some (.int (nI i)), some (.int (nI x))] [] S Q := by
  have h40 := hO.2.1
  have h240 := hO.1
  intro k
  induction k with
  | zero =>
    intro x L0 K S hi hce hL hc h hK hKD hq
    have e9 : x = ceA cps (j + 1) := by omega
    subst e9
    iterate 2 refine wp_step rfl rfl ?_
    refine wp_getg rfl hc.1 (by decide) rfl ?_
    iterate 3 refine wp_step rfl rfl ?_
    rw [show nI j + Int32.ofInt 1 = nI (j + 1) from nI_add j 1]
    refine wp_ald rfl (Or.inl ⟨rfl, rfl⟩) (by decide) hc.2.2.2.2.1 (am_in_nI (by omega) (by decide)) ?_
    rw [nI_clamp (by omega)]
    rw [fc_ce hc hD (by omega)]
    refine wp_icmp rfl (fun c0 => ?_) (fun c0 => ?_)
    · replace c0 := n_ge_t (a := ceA cps (j + 1)) (b := ceA cps (j + 1)) (by omega) (by omega) c0
      rw [show (ks.take (ceA cps (j + 1))).drop (ceA cps (j + 1)) = [] from by rw [List.drop_eq_nil_iff, List.length_take]; omega] at hq
      exact hq K S (fr_refl _ _) (by rw [List.append_nil]; exact h) hK (by rw [List.append_nil]; exact hKD)
    · replace c0 := n_ge_f (a := ceA cps (j + 1)) (b := ceA cps (j + 1)) (by omega) (by omega) c0
      omega
  | succ k ih =>
    intro x L0 K S hi hce hL hc h hK hKD hq
    iterate 2 refine wp_step rfl rfl ?_
    refine wp_getg rfl hc.1 (by decide) rfl ?_
    iterate 3 refine wp_step rfl rfl ?_
    rw [show nI j + Int32.ofInt 1 = nI (j + 1) from nI_add j 1]
    refine wp_ald rfl (Or.inl ⟨rfl, rfl⟩) (by decide) hc.2.2.2.2.1 (am_in_nI (by omega) (by decide)) ?_
    rw [nI_clamp (by omega)]
    rw [fc_ce hc hD (by omega)]
    refine wp_icmp rfl (fun c0 => ?_) (fun c0 => ?_)
    · replace c0 := n_ge_t (a := x) (b := ceA cps (j + 1)) (by omega) (by omega) c0
      omega
    · replace c0 := n_ge_f (a := x) (b := ceA cps (j + 1)) (by omega) (by omega) c0
      have hx : x < ks.length := by omega
      have ex := List.getElem?_eq_getElem hx
      obtain ⟨a1, a2, a3⟩ := hD.2 x _ ex
      have hdr : (ks.take (ceA cps (j + 1))).drop x = ks[x] :: (ks.take (ceA cps (j + 1))).drop (x + 1) := by
        rw [List.drop_eq_getElem_cons (by rw [List.length_take]; omega), List.getElem_take]
      rw [hdr] at hq
      iterate 2 refine wp_step rfl rfl ?_
      refine wp_getg rfl hc.1 (by decide) rfl ?_
      refine wp_step rfl rfl ?_
      refine wp_ald rfl (Or.inl ⟨rfl, rfl⟩) (by decide) hc.2.2.2.2.2.1 (am_in_nI (by omega) (by decide)) ?_
      rw [nI_clamp (by omega)]
      refine wp_step rfl rfl ?_
      refine wp_getg rfl hc.1 (by decide) rfl ?_
      refine wp_step rfl rfl ?_
      refine wp_lald rfl (by decide) hc.2.2.2.2.2.2.1 (am_in_nI (by omega) (by decide)) ?_
      rw [nI_clamp (by omega)]
      refine wp_step rfl rfl ?_
      refine wp_getg rfl hc.1 (by decide) rfl ?_
      refine wp_step rfl rfl ?_
      refine wp_ald rfl (Or.inl ⟨rfl, rfl⟩) (by decide) hc.2.2.2.2.2.2.2.1 (am_in_nI (by omega) (by decide)) ?_
      rw [nI_clamp (by omega)]
      rw [a1, a2, a3]
      refine wp_c0 rfl rfl (by decide) rfl (recv_ok h rfl) rfl (q_addConst h hK (by omega) hc9 (fun T hf1 h1 hK1 => ?_))
      iterate 2 refine wp_step rfl rfl ?_
      rw [show nI x + Int32.ofInt 1 = nI (x + 1) from nI_add x 1]
      have hlen : (L0 ++ [ks[x]]).length = L0.length + 1 := by simp
      exact ih (x + 1) (L0 ++ [ks[x]]) _ T (by omega) (by omega) (by omega) (cpS_fr hc hf1 (fun j hj => by simp only [List.mem_cons, List.not_mem_nil, or_false] at hj; omega)) (by rw [hlen]; exact h1) hK1 (ckKD_add hKD _) (fun K' T2 hf2 g1 g2 g3 => hq K' T2 (fr_trans hf1 hf2) (by rw [List.append_assoc] at g1; exact g1) g2 (by rw [List.append_assoc] at g3; exact g3))
theorem nI_ne1 {a : Nat} (h : a < 2 ^ 31) : nI a ≠ -1 := by
  intro e
  have h1 : nI a = nI 4294967295 := e
  have := nI_inj (by omega) (by decide) h1
  omega
/-- the chunk at c, whatever its constants are -/
def ckX (S : am_S) (c : Nat) (st en : Int32) (tk fq : Int64) (nt : Int32) : Prop := ∃ nc K, am_get S c = some (ckC c st en tk fq nt nc) ∧ ckK S c K
set_option maxHeartbeats 1000000 in
theorem lk_out {b : Nat → Nat} {tot p lim idp last m : Nat} {B : jCA} {cps : List jCp} {ks : List jK} (hc11 : 11 ≤ c) (hc9 : c < 800000) (hD : cpD B cps ks) (hO : cpOK cps ks) :
    ∀ (f i j : Nat) (x6 : Option Value) (L0 : List jK) (K : jKA) (S : am_S), i + f = cps.length → j < cps.length → j + i < cps.length → L0.length + ceA cps (j + 1) ≤ ks.length → sK S b tot p lim idp → cpS S cps.length m B → am_get S c = some (ckC c st en tk fq nt (nI L0.length)) → ckK S c K → ckKD K L0 →
      (∀ L K' T, chn cps ks f j = .inr L → fr [c, c + 2, c + 3, c + 4] S T → am_get T c = some (ckC c st en tk fq nt (nI (L0 ++ L).length)) → ckK T c K' → ckKD K' (L0 ++ L) → (L0 ++ L).length ≤ 40 → Q (.inl none, T)) →
      (∀ k pl T, chn cps ks f j = .inl (k, pl) → fr [1, c, c + 2, c + 3, c + 4] S T → sX T tot k pl → ckX T c st en tk fq nt → Q (.inr IAE, am_thrown T)) →
      wp X (d + 1) 3 58 [some (.ref 3), some (.ref 1), some (.ref c), some (.int (nI last)), some (.int (nI j)), some (.int (nI i)), x6] [] S Q := by
  have h40 := hO.2.1
  have h240 := hO.1
  intro f
  induction f with
  | zero => intro i j x6 L0 K S hi hj hji; omega
  | succ f ih =>
    intro i j x6 L0 K S hi hj hji hL hk hc h hK hKD hret hthr
    iterate 2 refine wp_step rfl rfl ?_
    refine wp_getg rfl hc.1 (by decide) rfl ?_
    refine wp_icmp rfl (fun c0 => ?_) (fun c0 => ?_)
    · replace c0 := n_ge_t (a := i) (b := cps.length) (by omega) (by omega) c0
      omega
    · replace c0 := n_ge_f (a := i) (b := cps.length) (by omega) (by omega) c0
      refine wp_step rfl rfl ?_
      refine wp_getg rfl hc.1 (by decide) rfl ?_
      refine wp_step rfl rfl ?_
      refine wp_ald rfl (Or.inl ⟨rfl, rfl⟩) (by decide) hc.2.2.2.2.1 (am_in_nI (by omega) (by decide)) ?_
      rw [nI_clamp (by omega)]
      rw [fc_ce hc hD (by omega)]
      have hce := ceA_le hO (show j ≤ j + 1 by omega) (by omega)
      obtain ⟨⟨q, dl, dp, ce⟩, ey⟩ : ∃ y, cps[j]? = some y := ⟨_, List.getElem?_eq_getElem hj⟩
      obtain ⟨a1, a2, a3, a4⟩ := hD.1 j _ ey
      obtain ⟨o1, o2, o3, o4⟩ := hO.2.2.1 j _ ey
      dsimp only at a1 a2 a3 a4 o1 o2 o3 o4
      have hseg : (seg cps ks j).length = ceA cps (j + 1) - ceA cps j := by
        unfold seg
        rw [List.length_drop, List.length_take]
        omega
      refine wp_step rfl rfl ?_
      show wp X _ 3 76 [some (.ref 3), some (.ref 1), some (.ref c), some (.int (nI last)), some (.int (nI j)), some (.int (nI i)), some (.int (nI (ceA cps j)))] [] S Q
      refine lk_in hc11 hc9 hD hO hj (ceA cps (j + 1) - ceA cps j) (ceA cps j) L0 K S (by omega) hce.2 (by omega) hc h hK hKD (fun K1 T hf1 h1 hK1 hKD1 => ?_)
      rw [show (ks.take (ceA cps (j + 1))).drop (ceA cps j) = seg cps ks j from rfl] at h1 hKD1
      have hc1 := cpS_fr hc hf1 (fun j hj => by simp only [List.mem_cons, List.not_mem_nil, or_false] at hj; omega)
      have hk1 := sK_fr hk hf1 (by simp only [List.mem_cons, List.not_mem_nil, or_false, List.mem_range'_1]; omega) (by simp only [List.mem_cons, List.not_mem_nil, or_false, List.mem_range'_1]; omega)
      refine wp_step rfl rfl ?_
      refine wp_getg rfl hc1.1 (by decide) rfl ?_
      refine wp_step rfl rfl ?_
      refine wp_ald rfl (Or.inl ⟨rfl, rfl⟩) (by decide) hc1.2.2.1 (am_in_nI (by omega) (by decide)) ?_
      rw [nI_clamp (by omega)]
      rw [a2]
      refine wp_if rfl (fun c1 => ?_) (fun c1 => ?_)
      · replace c1 := z_ne_t (a := dl) (by omega) c1
        iterate 2 refine wp_step rfl rfl ?_
        refine wp_getg rfl hc1.1 (by decide) rfl ?_
        refine wp_step rfl rfl ?_
        refine wp_ald rfl (Or.inl ⟨rfl, rfl⟩) (by decide) hc1.2.1 (am_in_nI (by omega) (by decide)) ?_
        rw [nI_clamp (by omega)]
        rw [a1]
        refine wp_step rfl rfl ?_
        refine wp_getg rfl hc1.1 (by decide) rfl ?_
        refine wp_step rfl rfl ?_
        refine wp_ald rfl (Or.inl ⟨rfl, rfl⟩) (by decide) hc1.2.2.1 (am_in_nI (by omega) (by decide)) ?_
        rw [nI_clamp (by omega)]
        rw [a2]
        refine wp_step rfl rfl ?_
        refine wp_c0 rfl rfl (by decide) rfl (recv_ok hc1.1 rfl) rfl (q_startAt hc1 (by omega) ?_)
        have bad : chn cps ks (f + 1) j = .inl (7, dp) → wp X (d + 1) 3 151 [some (.ref 3), some (.ref 1), some (.ref c), some (.int (nI last)), some (.int (nI j)), some (.int (nI i)), some (.int (nI (ceA cps (j + 1))))] [.int (-1)] T Q := by
          intro hE
          refine wp_step rfl rfl ?_
          show wp X _ 3 153 [some (.ref 3), some (.ref 1), some (.ref c), some (.int (nI last)), some (.int (nI j)), some (.int (nI i)), some (.int (-1))] [] T Q
          iterate 2 refine wp_step rfl rfl ?_
          refine wp_icmp_f rfl rfl ?_
          iterate 3 refine wp_step rfl rfl ?_
          refine wp_getg rfl hc1.1 (by decide) rfl ?_
          refine wp_step rfl rfl ?_
          refine wp_ald rfl (Or.inl ⟨rfl, rfl⟩) (by decide) hc1.2.2.2.1 (am_in_nI (by omega) (by decide)) ?_
          rw [nI_clamp (by omega)]
          rw [a3]
          exact wp_fl rfl rfl hk1 (fun T2 hf2 hx2 => hthr 7 dp T2 hE (fr_trans (fr_mono hf1 (fun j hj => by simp only [List.mem_cons, List.not_mem_nil, or_false, List.mem_range'_1] at hj ⊢; omega)) (fr_mono hf2 (fun j hj => by simp only [List.mem_cons, List.not_mem_nil, or_false, List.mem_range'_1] at hj ⊢; omega))) hx2 ⟨_, _, by rw [fr_get hf2 (by simp; omega)]; exact h1, ckK_fr hK1 hf2 (fun j hj => by simp only [List.mem_cons, List.not_mem_nil, or_false] at hj; omega)⟩)
        by_cases c2 : q < dl
        · rw [sa_none hD hO o2 c2]
          exact bad (by unfold chn; rw [ey]; dsimp only; rw [if_neg c1, if_pos c2])
        · rw [pk_sub (by omega), sa_cpx hD hO (by omega)]
          cases e2 : cpx cps (q - dl) with
          | none => exact bad (by unfold chn; rw [ey]; dsimp only; rw [if_neg c1, if_neg c2, e2])
          | some j' =>
            obtain ⟨y', ey', eq', hj'⟩ := cpx_some e2
            have hjj : j' < j := by
              rcases Nat.lt_or_ge j' j with h9 | h9
              · exact h9
              · rcases Nat.eq_or_lt_of_le h9 with h8 | h8
                · subst h8; rw [ey] at ey'; cases ey'; dsimp only at eq'; omega
                · have := (hO.2.2.2 j j' _ _ h8 ey ey').1; dsimp only at this; omega
            have hce2 := (ceA_le hO (show j' + 1 ≤ j by omega) (by omega)).1
            unfold oI
            dsimp only
            refine wp_step rfl rfl ?_
            show wp X _ 3 153 [some (.ref 3), some (.ref 1), some (.ref c), some (.int (nI last)), some (.int (nI j)), some (.int (nI i)), some (.int (nI j'))] [] T Q
            iterate 2 refine wp_step rfl rfl ?_
            refine wp_icmp_t rfl (by show am_c2 .ne (nI j') (-1) = true; exact decide_eq_true (nI_ne1 (by omega))) ?_
            iterate 4 refine wp_step rfl rfl ?_
            rw [show nI i + Int32.ofInt 1 = nI (i + 1) from nI_add i 1]
            refine ih (i + 1) j' _ (L0 ++ seg cps ks j) K1 T (by omega) hj' (by omega) (by rw [List.length_append, hseg]; omega) hk1 hc1 h1 hK1 hKD1 (fun L K2 T2 e3 hf2 h2 hK2 hKD2 hL2 => ?_) (fun k pl T2 e3 hf2 hx2 hs2 => ?_)
            · exact hret (seg cps ks j ++ L) K2 T2 (by unfold chn; rw [ey]; dsimp only; rw [if_neg c1, if_neg c2, e2]; dsimp only; rw [e3]) (fr_trans hf1 hf2) (by rw [← List.append_assoc]; exact h2) hK2 (by rw [← List.append_assoc]; exact hKD2) (by rw [← List.append_assoc]; exact hL2)
            · exact hthr k pl T2 (by unfold chn; rw [ey]; dsimp only; rw [if_neg c1, if_neg c2, e2]; dsimp only; rw [e3]) (fr_trans (fr_mono hf1 (fun j hj => by simp only [List.mem_cons, List.not_mem_nil, or_false, List.mem_range'_1] at hj ⊢; omega)) hf2) hx2 hs2
      · replace c1 := z_ne_f (a := dl) (by omega) c1
        refine wp_vret rfl rfl (hret (seg cps ks j) K1 T (by unfold chn; rw [ey]; dsimp only; rw [if_pos c1]) hf1 h1 hK1 hKD1 (by rw [List.length_append, hseg]; omega))
set_option maxHeartbeats 1000000 in
theorem q_link {b : Nat → Nat} {tot p lim idp s : Nat} {nc : Int32} {B : jCA} {cps : List jCp} {ks : List jK} {K : jKA} {S : am_S} (hb : ∀ j, b j < 256) (hc11 : 11 ≤ c) (hc9 : c < 800000) (hD : cpD B cps ks) (hO : cpOK cps ks) (hs : s + 20 ≤ tot) (hk : sK S b tot p lim idp) (hc : cpS S cps.length ks.length B) (h : am_get S c = some (ckC c (nI s) en tk fq nt nc)) (hK : ckK S c K)
    (hret : ∀ L K' T, lnk b s cps ks = .inr L → fr [c, c + 2, c + 3, c + 4] S T → am_get T c = some (ckC c (nI s) en tk fq nt (nI L.length)) → ckK T c K' → ckKD K' L → L.length ≤ 40 → Q (.inl none, T))
    (hthr : ∀ k pl T, lnk b s cps ks = .inl (k, pl) → fr [1, c, c + 2, c + 3, c + 4] S T → sX T tot k pl → ckX T c (nI s) en tk fq nt → Q (.inr IAE, am_thrown T)) : ev X (d + 2) 3 [.ref 3, .ref 1, .ref c] S Q := by
  refine ev_wp (L0 := [some (.ref 3), some (.ref 1), some (.ref c), none, none, none, none]) (Nat.le_of_ble_eq_true rfl) rfl ?_
  have hk9 := hk.2.2
  have hw2 : w2 b (s + 10) < 65536 := fxN_lt hb (p := s + 10) 2
  have h240 := hO.1
  iterate 2 refine wp_step rfl rfl ?_
  refine wp_putg rfl h (by decide) rfl rfl ?_
  rw [show va_up (ckG c (nI s) en tk fq nt nc) 6 (.int (Int32.ofInt 0)) = ckG c (nI s) en tk fq nt (nI 0) from ckG_6]
  have h1 : am_get (am_upd S c (ckC c (nI s) en tk fq nt (nI 0))) c = some (ckC c (nI s) en tk fq nt (nI 0)) := am_get_self h
  have hf1 : fr [c] S (am_upd S c (ckC c (nI s) en tk fq nt (nI 0))) := fr_up (by simp)
  generalize am_upd S c (ckC c (nI s) en tk fq nt (nI 0)) = S1 at h1 hf1 ⊢
  have hk1 := sK_fr hk hf1 (by simp only [List.mem_cons, List.not_mem_nil, or_false, List.mem_range'_1]; omega) (by simp only [List.mem_cons, List.not_mem_nil, or_false, List.mem_range'_1]; omega)
  have hc1 := cpS_fr hc hf1 (fun j hj => by simp only [List.mem_cons, List.not_mem_nil, or_false] at hj; omega)
  have hK1 := ckK_fr hK hf1 (fun j hj => by simp only [List.mem_cons, List.not_mem_nil, or_false] at hj; omega)
  iterate 2 refine wp_step rfl rfl ?_
  refine wp_getg rfl h1 (by decide) rfl ?_
  refine wp_step rfl rfl ?_
  iterate 2 refine wp_step rfl rfl ?_
  rw [show nI s + (Int8.ofInt 10).toInt32 = nI (s + 10) from nI_add s 10]
  refine wp_c0 rfl rfl (by decide) rfl (recv_ok hk1.1 rfl) rfl (q_fixedAt (n := 2) hk1 (by omega) ?_)
  rw [show fx (Bn b) (s + 10) 2 = lN (w2 b (s + 10)) from fx_N hb 2 (by decide)]
  refine wp_step rfl rfl ?_
  rw [lN_i]
  refine wp_step rfl rfl ?_
  show wp X _ 3 19 [some (.ref 3), some (.ref 1), some (.ref c), some (.int (nI (w2 b (s + 10)))), none, none, none] [] S1 Q
  refine wp_step rfl rfl ?_
  refine wp_if rfl (fun c0 => ?_) (fun c0 => ?_)
  · replace c0 := z_ne_t (a := w2 b (s + 10)) (by omega) c0
    iterate 2 refine wp_step rfl rfl ?_
    refine wp_getg rfl h1 (by decide) rfl ?_
    iterate 2 refine wp_step rfl rfl ?_
    rw [nI_add]
    refine wp_c0 rfl rfl (by decide) rfl (recv_ok hc1.1 rfl) rfl (q_startAt hc1 (by omega) ?_)
    rw [sa_cpx hD hO (by omega)]
    cases e2 : cpx cps (s + w2 b (s + 10)) with
    | none =>
      refine wp_step rfl rfl ?_
      show wp X _ 3 36 [some (.ref 3), some (.ref 1), some (.ref c), some (.int (nI (w2 b (s + 10)))), some (.int (-1)), none, none] [] S1 Q
      iterate 2 refine wp_step rfl rfl ?_
      refine wp_icmp_f rfl rfl ?_
      iterate 3 refine wp_step rfl rfl ?_
      refine wp_getg rfl h1 (by decide) rfl ?_
      iterate 2 refine wp_step rfl rfl ?_
      rw [show nI s + (Int8.ofInt 10).toInt32 = nI (s + 10) from nI_add s 10]
      exact wp_fl rfl rfl hk1 (fun T2 hf2 hx2 => hthr 7 (s + 10) T2 (by unfold lnk; rw [if_neg c0, e2]) (fr_trans (fr_mono hf1 (fun j hj => by simp only [List.mem_cons, List.not_mem_nil, or_false, List.mem_range'_1] at hj ⊢; omega)) (fr_mono hf2 (fun j hj => by simp only [List.mem_cons, List.not_mem_nil, or_false, List.mem_range'_1] at hj ⊢; omega))) hx2 ⟨_, _, by rw [fr_get hf2 (by simp; omega)]; exact h1, ckK_fr hK1 hf2 (fun j hj => by simp only [List.mem_cons, List.not_mem_nil, or_false] at hj; omega)⟩)
    | some i0 =>
      obtain ⟨y', ey', eq', hj'⟩ := cpx_some e2
      have hce := ceA_le hO (show 0 ≤ i0 + 1 by omega) (by omega)
      unfold oI
      dsimp only
      refine wp_step rfl rfl ?_
      show wp X _ 3 36 [some (.ref 3), some (.ref 1), some (.ref c), some (.int (nI (w2 b (s + 10)))), some (.int (nI i0)), none, none] [] S1 Q
      iterate 2 refine wp_step rfl rfl ?_
      refine wp_icmp_t rfl (by show am_c2 .ne (nI i0) (-1) = true; exact decide_eq_true (nI_ne1 (by omega))) ?_
      iterate 2 refine wp_step rfl rfl ?_
      show wp X _ 3 58 [some (.ref 3), some (.ref 1), some (.ref c), some (.int (nI (w2 b (s + 10)))), some (.int (nI i0)), some (.int (nI 0)), none] [] S1 Q
      refine lk_out hc11 hc9 hD hO cps.length 0 i0 none [] K S1 (by omega) hj' (by omega) (by simp; omega) hk1 hc1 h1 hK1 (fun i k hk => by simp at hk) (fun L K' T e3 hf2 g1 g2 g3 g4 => ?_) (fun k pl T e3 hf2 hx2 hs2 => ?_)
      · exact hret L K' T (by unfold lnk; rw [if_neg c0, e2]; exact e3) (fr_trans (fr_mono hf1 (fun j hj => by simp only [List.mem_cons, List.not_mem_nil, or_false, List.mem_range'_1] at hj ⊢; omega)) hf2) g1 g2 g3 g4
      · exact hthr k pl T (by unfold lnk; rw [if_neg c0, e2]; exact e3) (fr_trans (fr_mono hf1 (fun j hj => by simp only [List.mem_cons, List.not_mem_nil, or_false, List.mem_range'_1] at hj ⊢; omega)) hf2) hx2 hs2
  · replace c0 := z_ne_f (a := w2 b (s + 10)) (by omega) c0
    refine wp_vret rfl rfl (hret [] K S1 (by unfold lnk; rw [if_pos c0]) (fr_mono hf1 (fun j hj => by simp only [List.mem_cons, List.not_mem_nil, or_false, List.mem_range'_1] at hj ⊢; omega)) h1 hK1 (fun i k hk => by simp at hk) (by simp))
end LINK
