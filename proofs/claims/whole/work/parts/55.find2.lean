/-! Recording.find -/
section FIND2
variable {X : Nat × (Nat → Int32)} {d : Nat} {Q : am_R → Prop} {b : Nat → Nat} {tot R c n0 l0 : Nat} {τ : jTT} {A : jVA} {S : am_S} {L : List jK}
def cstN (L : List jK) (ty : Nat) (key : Int64) : Nat := match cst L ty key with
  | none => 0
  | some k => k.2.2.2
theorem cn_loop {st en nt : Int32} {tk fq : Int64} {K : jKA} {ty : Nat} {key : Int64} (h : am_get S c = some (ckC c st en tk fq nt (nI L.length))) (hK : ckK S c K) (hD : ckKD K L) (h40 : L.length ≤ 40) (hc9 : c < 800000) (hb : ∀ k, k ∈ L → k.1 < 2 ^ 31) (hty : ty < 2 ^ 31) : ∀ (m i : Nat), i + m = L.length → Q (.inl (some (.int (nI (cstN (L.drop i) ty key)))), S) → wp X d 16 3 [some (.ref c), some (.int (nI ty)), some (.long key), none, some (.int (nI i))] [] S Q := by
  intro m
  induction m with
  | zero =>
    intro i hi hq
    have e9 : i = L.length := by omega
    subst e9
    iterate 2 refine wp_step rfl rfl ?_
    refine wp_getg rfl h (by decide) rfl ?_
    refine wp_icmp rfl (fun c0 => ?_) (fun c0 => ?_)
    · replace c0 := n_ge_t (a := L.length) (b := L.length) (by omega) (by omega) c0
      refine wp_step rfl rfl ?_
      refine wp_iret rfl rfl rfl (by rw [List.drop_length] at hq; exact hq)
    · replace c0 := n_ge_f (a := L.length) (b := L.length) (by omega) (by omega) c0
      omega
  | succ m ih =>
    intro i hi hq
    iterate 2 refine wp_step rfl rfl ?_
    refine wp_getg rfl h (by decide) rfl ?_
    refine wp_icmp rfl (fun c0 => ?_) (fun c0 => ?_)
    · replace c0 := n_ge_t (a := i) (b := L.length) (by omega) (by omega) c0
      omega
    · replace c0 := n_ge_f (a := i) (b := L.length) (by omega) (by omega) c0
      obtain ⟨k, hk⟩ : ∃ k, L[i]? = some k := ⟨_, List.getElem?_eq_getElem c0⟩
      obtain ⟨a1, a2, a3⟩ := hD i k hk
      have hkb := hb k (mem_at hk)
      have hdr : L.drop i = k :: L.drop (i + 1) := by
        rw [List.drop_eq_getElem_cons c0]
        rw [List.getElem?_eq_getElem c0] at hk
        cases hk
        rfl
      have nx : (¬ (k.1 = ty ∧ k.2.1 = key)) → wp X d 16 43 [some (.ref c), some (.int (nI ty)), some (.long key), none, some (.int (nI i))] [] S Q := by
        intro h9
        have hq2 : Q (.inl (some (.int (nI (cstN (L.drop (i + 1)) ty key)))), S) := by
          unfold cstN cst at hq ⊢
          rw [hdr, List.find?_cons_of_neg (by simpa using h9)] at hq
          exact hq
        iterate 2 refine wp_step rfl rfl ?_
        rw [show nI i + Int32.ofInt 1 = nI (i + 1) from nI_add i 1]
        exact ih (i + 1) (by omega) hq2
      refine wp_step rfl rfl ?_
      refine wp_getg rfl h (by decide) rfl ?_
      refine wp_step rfl rfl ?_
      refine wp_ald rfl (Or.inl ⟨rfl, rfl⟩) (by omega) hK.1 (am_in_nI (by omega) (by decide)) ?_
      rw [nI_clamp (by omega)]
      rw [a1]
      refine wp_step rfl rfl ?_
      refine wp_icmp rfl (fun c1 => ?_) (fun c1 => ?_)
      · replace c1 := n_ne_t (a := k.1) (b := ty) (by omega) (by omega) c1
        exact nx (fun h9 => c1 h9.1)
      · replace c1 := n_ne_f (a := k.1) (b := ty) (by omega) (by omega) c1
        refine wp_step rfl rfl ?_
        refine wp_getg rfl h (by decide) rfl ?_
        refine wp_step rfl rfl ?_
        refine wp_lald rfl (by omega) hK.2.1 (am_in_nI (by omega) (by decide)) ?_
        rw [nI_clamp (by omega)]
        rw [a2]
        iterate 2 refine wp_step rfl rfl ?_
        refine wp_if rfl (fun c2 => ?_) (fun c2 => ?_)
        · replace c2 := l_ne_t c2
          exact nx (fun h9 => c2 h9.2)
        · replace c2 := l_ne_f c2
          refine wp_step rfl rfl ?_
          refine wp_getg rfl h (by decide) rfl ?_
          refine wp_step rfl rfl ?_
          refine wp_ald rfl (Or.inl ⟨rfl, rfl⟩) (by omega) hK.2.2 (am_in_nI (by omega) (by decide)) ?_
          rw [nI_clamp (by omega)]
          rw [a3]
          refine wp_iret rfl rfl rfl (by unfold cstN cst at hq; rw [hdr, List.find?_cons_of_pos (by simp [c1, c2])] at hq; exact hq)
theorem q_constant {st en nt : Int32} {tk fq : Int64} {K : jKA} {ty : Nat} {key : Int64} (h : am_get S c = some (ckC c st en tk fq nt (nI L.length))) (hK : ckK S c K) (hD : ckKD K L) (h40 : L.length ≤ 40) (hc9 : c < 800000) (hb : ∀ k, k ∈ L → k.1 < 2 ^ 31) (hty : ty < 2 ^ 31) (hq : Q (.inl (some (.int (nI (cstN L ty key)))), S)) : ev X (d + 1) 16 [.ref c, .int (nI ty), .long key] S Q := by
  refine ev_wp (L0 := [some (.ref c), some (.int (nI ty)), some (.long key), none, none]) (Nat.le_of_ble_eq_true rfl) rfl ?_
  iterate 2 refine wp_step rfl rfl ?_
  exact cn_loop h hK hD h40 hc9 hb hty L.length 0 (by omega) hq
theorem q_isKey {nd : Nat} {ci ne : Int32} (hr : am_get S R = some (reC R ci ne)) (hv : vS S (R + 2) n0 l0 A) (hR9 : R < 700000) (hnd : nd < 1201) (h1 : A.1 nd = 13 → Q (.inl (some (.int 1)), S)) (h0 : A.1 nd ≠ 13 → Q (.inl (some (.int 0)), S)) : ev X (d + 1) 40 [.ref R, .int (nI nd)] S Q := by
  refine ev_wp (L0 := [some (.ref R), some (.int (nI nd))]) (Nat.le_of_ble_eq_true rfl) rfl ?_
  iterate 2 refine wp_step rfl rfl ?_
  refine wp_icmp_f rfl (by show am_c2 .eq (nI nd) (-1) = false; exact decide_eq_false (nI_ne1 (by omega))) ?_
  refine wp_step rfl rfl ?_
  refine wp_getg rfl hr (by decide) rfl ?_
  refine wp_getg rfl hv.1 (by decide) rfl ?_
  refine wp_step rfl rfl ?_
  refine wp_ald rfl (Or.inl ⟨rfl, rfl⟩) (by omega) hv.2.1 (am_in_nI (by omega) (by decide)) ?_
  rw [nI_clamp (by omega)]
  refine wp_step rfl rfl ?_
  refine wp_icmp rfl (fun c0 => ?_) (fun c0 => ?_)
  · refine wp_step rfl rfl ?_
    refine wp_iret rfl rfl rfl (h0 (i_ne_t c0))
  · iterate 2 refine wp_step rfl rfl ?_
    refine wp_iret rfl rfl rfl (h1 (i_ne_f c0))
theorem q_isKeyN (h0 : Q (.inl (some (.int 0)), S)) : ev X (d + 1) 40 [.ref R, .int (-1)] S Q := by
  refine ev_wp (L0 := [some (.ref R), some (.int (-1))]) (Nat.le_of_ble_eq_true rfl) rfl ?_
  iterate 2 refine wp_step rfl rfl ?_
  refine wp_icmp_t rfl rfl ?_
  refine wp_step rfl rfl ?_
  refine wp_iret rfl rfl rfl h0
/-- what a followed value is -/
def rsC (τ : jTT) (b : Nat → Nat) (tot : Nat) (A : jVA) (r : Int32) (o : Option jV) : Prop := match o with
  | none => r = nI 0
  | some w => ∃ nd, r = nI nd ∧ nv τ b tot A nd w ∧ kdOf b w ≠ 13
def rsF (τ : jTT) (b : Nat → Nat) (tot : Nat) (A : jVA) (r : Int32) (o : Option (Option jV)) : Prop := match o with
  | none => r = -1
  | some o => rsC τ b tot A r o
/-- the chunk that a lookup uses -/
def ckL (S : am_S) (b : Nat → Nat) (tot c : Nat) (τ : jTT) (L : List jK) (A : jVA) : Prop := wfT τ ∧ ckO S c τ ∧ (∃ st en tk fq nt K, am_get S c = some (ckC c st en tk fq nt (nI L.length)) ∧ ckK S c K ∧ ckKD K L) ∧ L.length ≤ 40 ∧ ∀ k, k ∈ L → k.1 < 2 ^ 31 ∧ nv τ b tot A k.2.2.2 (k.1, 0, k.2.2.1)
theorem cf_null {x ci ne : Int32} {i : Nat} (hr : am_get S R = some (reC R ci ne)) (hv : vS S (R + 2) n0 l0 A) (hR9 : R < 700000) (hi : i < 2 ^ 31) (hq : Q (.inl (some (.int (nI 0))), S)) : wp X (d + 1) 39 5 [some (.ref R), some (.ref c), some (.int x), some (.int (nI 0)), some (.int (nI i))] [] S Q := by
  have tl : wp X (d + 1) 39 49 [some (.ref R), some (.ref c), some (.int x), some (.int (nI 0)), some (.int (nI i))] [] S Q := by
    iterate 2 refine wp_step rfl rfl ?_
    refine wp_c0 rfl rfl (by decide) rfl (recv_ok hr rfl) rfl (q_isKey hr hv hR9 (by omega) (fun k => ?_) (fun k => ?_))
    · rw [hv.2.2.2.2.2.2.2.1] at k
      exact absurd k (by decide)
    · refine wp_if_t rfl rfl ?_
      refine wp_step rfl rfl ?_
      refine wp_iret rfl rfl rfl hq
  iterate 2 refine wp_step rfl rfl ?_
  refine wp_icmp rfl (fun c0 => ?_) (fun c0 => ?_)
  · replace c0 := n_ge_t (a := i) (b := 6) (by omega) (by omega) c0
    exact tl
  · replace c0 := n_ge_f (a := i) (b := 6) (by omega) (by omega) c0
    iterate 2 refine wp_step rfl rfl ?_
    refine wp_c0 rfl rfl (by decide) rfl (recv_ok hr rfl) rfl (q_isKey hr hv hR9 (by omega) (fun k => ?_) (fun k => ?_))
    · rw [hv.2.2.2.2.2.2.2.1] at k
      exact absurd k (by decide)
    · refine wp_if_t rfl rfl ?_
      exact tl
set_option maxHeartbeats 1000000 in
theorem cf_loop {x ci ne : Int32} (hr : am_get S R = some (reC R ci ne)) (hv : vS S (R + 2) n0 l0 A) (hR9 : R < 700000) (hc9 : c < 800000) (hC : ckL S b tot c τ L A) : ∀ (f i : Nat) (w : jV) (nd : Nat), i + f = 6 → w.1 < 2 ^ 31 → nv τ b tot A nd w → (∀ r, rsC τ b tot A r (stl b tot L f w) → Q (.inl (some (.int r)), S)) → wp X (d + 1) 39 5 [some (.ref R), some (.ref c), some (.int x), some (.int (nI nd)), some (.int (nI i))] [] S Q := by
  intro f
  induction f with
  | zero =>
    intro i w nd hi hwty hn hq
    obtain ⟨hkd, hnd, hk13⟩ := nv_kd hn
    have k13 : A.1 nd = 13 → kdOf b w = 13 := fun h9 => by
      rw [hkd] at h9
      exact (nI_eq (by omega) (by decide)).mp h9
    have k13' : A.1 nd ≠ 13 → kdOf b w ≠ 13 := fun h9 e => h9 (by rw [hkd, e]; rfl)
    iterate 2 refine wp_step rfl rfl ?_
    refine wp_icmp rfl (fun c0 => ?_) (fun c0 => ?_)
    · replace c0 := n_ge_t (a := i) (b := 6) (by omega) (by omega) c0
      iterate 2 refine wp_step rfl rfl ?_
      refine wp_c0 rfl rfl (by decide) rfl (recv_ok hr rfl) rfl (q_isKey hr hv hR9 (by omega) (fun k => ?_) (fun k => ?_))
      · refine wp_if_f rfl rfl ?_
        iterate 2 refine wp_step rfl rfl ?_
        refine wp_iret rfl rfl rfl (hq (nI 0) (by
          rcases nv_key hn with ⟨g1, g2, g3⟩ | ⟨g1, g2⟩
          · unfold stl; rw [g2]; exact rfl
          · exact absurd (k13 k) g1))
      · refine wp_if_t rfl rfl ?_
        refine wp_step rfl rfl ?_
        refine wp_iret rfl rfl rfl (hq (nI nd) (by
          rcases nv_key hn with ⟨g1, g2, g3⟩ | ⟨g1, g2⟩
          · exact absurd g1 (k13' k)
          · unfold stl; rw [g2]; exact ⟨nd, rfl, hn, g1⟩))
    · replace c0 := n_ge_f (a := i) (b := 6) (by omega) (by omega) c0
      omega
  | succ f ih =>
    intro i w nd hi hwty hn hq
    obtain ⟨hkd, hnd, hk13⟩ := nv_kd hn
    have k13 : A.1 nd = 13 → kdOf b w = 13 := fun h9 => by
      rw [hkd] at h9
      exact (nI_eq (by omega) (by decide)).mp h9
    have k13' : A.1 nd ≠ 13 → kdOf b w ≠ 13 := fun h9 e => h9 (by rw [hkd, e]; rfl)
    iterate 2 refine wp_step rfl rfl ?_
    refine wp_icmp rfl (fun c0 => ?_) (fun c0 => ?_)
    · replace c0 := n_ge_t (a := i) (b := 6) (by omega) (by omega) c0
      omega
    · replace c0 := n_ge_f (a := i) (b := 6) (by omega) (by omega) c0
      iterate 2 refine wp_step rfl rfl ?_
      refine wp_c0 rfl rfl (by decide) rfl (recv_ok hr rfl) rfl (q_isKey hr hv hR9 (by omega) (fun k => ?_) (fun k => ?_))
      · refine wp_if_f rfl rfl ?_
        obtain ⟨g1, g2, g3⟩ : kdOf b w = 13 ∧ kyOf b tot w = some (A.2.1 nd) ∧ A.2.2.1 nd = nI w.1 := by
          rcases nv_key hn with h9 | ⟨h9, _⟩
          · exact h9
          · exact absurd (k13 k) h9
        obtain ⟨st, en, tk, fq, nt, K, hcc, hK, hKD⟩ := hC.2.2.1
        iterate 2 refine wp_step rfl rfl ?_
        refine wp_getg rfl hr (by decide) rfl ?_
        refine wp_getg rfl hv.1 (by decide) rfl ?_
        refine wp_step rfl rfl ?_
        refine wp_ald rfl (Or.inl ⟨rfl, rfl⟩) (by omega) hv.2.2.2.1 (am_in_nI (by omega) (by decide)) ?_
        rw [nI_clamp (by omega)]
        rw [g3]
        refine wp_step rfl rfl ?_
        refine wp_getg rfl hr (by decide) rfl ?_
        refine wp_getg rfl hv.1 (by decide) rfl ?_
        refine wp_step rfl rfl ?_
        refine wp_lald rfl (by omega) hv.2.2.1 (am_in_nI (by omega) (by decide)) ?_
        rw [nI_clamp (by omega)]
        refine wp_c0 rfl rfl (by decide) rfl (recv_ok hcc rfl) rfl (q_constant hcc hK hKD hC.2.2.2.1 hc9 (fun k hk => (hC.2.2.2.2 k hk).1) hwty ?_)
        iterate 3 refine wp_step rfl rfl ?_
        rw [show nI i + Int32.ofInt 1 = nI (i + 1) from nI_add i 1]
        show wp X (d + 1) 39 5 [some (.ref R), some (.ref c), some (.int x), some (.int (nI (cstN L w.1 (A.2.1 nd)))), some (.int (nI (i + 1)))] [] S Q
        cases ec : cst L w.1 (A.2.1 nd) with
        | none =>
          rw [show cstN L w.1 (A.2.1 nd) = 0 from by unfold cstN; rw [ec]]
          exact cf_null hr hv hR9 (by omega) (hq (nI 0) (by unfold stl; rw [g2]; dsimp only; rw [ec]; exact rfl))
        | some k =>
          rw [show cstN L w.1 (A.2.1 nd) = k.2.2.2 from by unfold cstN; rw [ec]]
          have hm := hC.2.2.2.2 k (List.mem_of_find?_eq_some ec)
          exact ih (i + 1) (k.1, 0, k.2.2.1) k.2.2.2 (by omega) hm.1 hm.2 (fun r hr => hq r (by unfold stl; rw [g2]; dsimp only; rw [ec]; exact hr))
      · refine wp_if_t rfl rfl ?_
        iterate 2 refine wp_step rfl rfl ?_
        refine wp_c0 rfl rfl (by decide) rfl (recv_ok hr rfl) rfl (q_isKey hr hv hR9 (by omega) (fun k => ?_) (fun k => ?_))
        · rename_i kk
          exact absurd k kk
        · refine wp_if_t rfl rfl ?_
          refine wp_step rfl rfl ?_
          refine wp_iret rfl rfl rfl (hq (nI nd) (by
            rcases nv_key hn with ⟨g1, g2, g3⟩ | ⟨g1, g2⟩
            · exact absurd g1 (k13' k)
            · unfold stl; rw [g2]; exact ⟨nd, rfl, hn, g1⟩))
theorem q_constFor {ci ne : Int32} {w : jV} {nd : Nat} (hr : am_get S R = some (reC R ci ne)) (hv : vS S (R + 2) n0 l0 A) (hR9 : R < 700000) (hc9 : c < 800000) (hC : ckL S b tot c τ L A) (hwty : w.1 < 2 ^ 31) (hn : nv τ b tot A nd w) (hq : ∀ r, rsC τ b tot A r (stl b tot L 6 w) → Q (.inl (some (.int r)), S)) : ev X (d + 2) 39 [.ref R, .ref c, .int (nI nd)] S Q := by
  refine ev_wp (L0 := [some (.ref R), some (.ref c), some (.int (nI nd)), none, none]) (Nat.le_of_ble_eq_true rfl) rfl ?_
  iterate 4 refine wp_step rfl rfl ?_
  show wp X (d + 1) 39 5 [some (.ref R), some (.ref c), some (.int (nI nd)), some (.int (nI nd)), some (.int (nI 0))] [] S Q
  exact cf_loop hr hv hR9 hc9 hC 6 0 w nd (by omega) hwty hn hq
theorem q_constForN {ci ne : Int32} (hr : am_get S R = some (reC R ci ne)) (hq : Q (.inl (some (.int (-1))), S)) : ev X (d + 2) 39 [.ref R, .ref c, .int (-1)] S Q := by
  refine ev_wp (L0 := [some (.ref R), some (.ref c), some (.int (-1)), none, none]) (Nat.le_of_ble_eq_true rfl) rfl ?_
  iterate 4 refine wp_step rfl rfl ?_
  show wp X (d + 1) 39 5 [some (.ref R), some (.ref c), some (.int (-1)), some (.int (-1)), some (.int (nI 0))] [] S Q
  iterate 2 refine wp_step rfl rfl ?_
  refine wp_icmp rfl (fun c0 => ?_) (fun c0 => ?_)
  · replace c0 := n_ge_t (a := 0) (b := 6) (by omega) (by omega) c0
    omega
  · replace c0 := n_ge_f (a := 0) (b := 6) (by omega) (by omega) c0
    iterate 2 refine wp_step rfl rfl ?_
    refine wp_c0 rfl rfl (by decide) rfl (recv_ok hr rfl) rfl (q_isKeyN ?_)
    refine wp_if_t rfl rfl ?_
    iterate 2 refine wp_step rfl rfl ?_
    refine wp_c0 rfl rfl (by decide) rfl (recv_ok hr rfl) rfl (q_isKeyN ?_)
    refine wp_if_t rfl rfl ?_
    refine wp_step rfl rfl ?_
    refine wp_iret rfl rfl rfl hq
theorem q_partNull {v step : Nat} (hv : vS S v n0 l0 A) (hv9 : v < 800000) (hq : Q (.inl (some (.int (-1))), S)) : ev X (d + 1) 71 [.ref v, .ref c, .int (nI 0), .int (nI step)] S Q := by
  refine ev_wp (L0 := [some (.ref v), some (.ref c), some (.int (nI 0)), some (.int (nI step)), none, none, none]) (Nat.le_of_ble_eq_true rfl) rfl ?_
  iterate 2 refine wp_step rfl rfl ?_
  show wp X d 71 3 [some (.ref v), some (.ref c), some (.int (nI 0)), some (.int (nI step)), some (.int (-1)), none, none] [] S Q
  refine wp_step rfl rfl ?_
  refine wp_getg rfl hv.1 (by decide) rfl ?_
  refine wp_step rfl rfl ?_
  refine wp_ald rfl (Or.inl ⟨rfl, rfl⟩) (by omega) hv.2.1 (am_in_nI (by omega) (by decide)) ?_
  rw [nI_clamp (by omega)]
  rw [hv.2.2.2.2.2.2.2.1]
  refine wp_step rfl rfl ?_
  refine wp_icmp_t rfl rfl ?_
  refine wp_step rfl rfl ?_
  refine wp_getg rfl hv.1 (by decide) rfl ?_
  refine wp_step rfl rfl ?_
  refine wp_ald rfl (Or.inl ⟨rfl, rfl⟩) (by omega) hv.2.1 (am_in_nI (by omega) (by decide)) ?_
  rw [nI_clamp (by omega)]
  rw [hv.2.2.2.2.2.2.2.1]
  refine wp_step rfl rfl ?_
  refine wp_icmp_t rfl rfl ?_
  iterate 2 refine wp_step rfl rfl ?_
  refine wp_icmp_f rfl rfl ?_
  refine wp_step rfl rfl ?_
  refine wp_iret rfl rfl rfl hq
end FIND2
