/-! Type.read -/
theorem rdFs_ok {b : Nat → Nat} {lim : Nat} : ∀ {n p p' : Nat} {fs fs' : List jFd}, rdFs b lim n fs p = .inr (fs', p') → (∀ y, y ∈ fs → fdOK y) → fs'.length = fs.length + n ∧ (∀ y, y ∈ fs' → fdOK y) ∧ p ≤ p' ∧ (p ≤ lim → p' ≤ lim) := by
  intro n
  induction n with
  | zero => intro p p' fs fs' h hy; cases h; exact ⟨rfl, hy, Nat.le_refl _, fun h => h⟩
  | succ n ih =>
    intro p p' fs fs' h hy
    unfold rdFs at h
    split at h
    · cases h
    · rename_i y q e
      obtain ⟨h1, h2, h3, -⟩ := rdF1_ok e
      obtain ⟨h4, h5, h6, h7⟩ := ih h (fun z hz => by
        rcases List.mem_append.mp hz with h9 | h9
        · exact hy z h9
        · rw [List.mem_singleton.mp h9]; exact h1)
      refine ⟨by rw [h4, List.length_append]; simp; omega, h5, by omega, fun _ => h7 h3⟩
theorem rdT1_ok {b : Nat → Nat} {lim id p p' : Nat} {x : jTy} (h : rdT1 b lim id p = .inr (x, p')) (h16 : 16 ≤ id) (hid : id < 2 ^ 31) : tyOK x ∧ x.1 = id ∧ p < p' ∧ p' ≤ lim := by
  unfold rdT1 at h
  split at h
  · cases h
  · split at h
    · cases h
    · split at h
      · cases h
      · split at h
        · cases h
        · split at h
          · cases h
          · rename_i n p1 hc
            have hcl := cnt_lt hc
            split at h
            · cases h
            · split at h
              · cases h
              · rename_i fs q e
                obtain ⟨h1, h2, h3, h4⟩ := rdFs_ok e (fun y hy => by cases hy)
                cases h
                have h5 := h4 hcl.2.2
                exact ⟨⟨h16, hid, by dsimp only; omega, by dsimp only; omega, by dsimp only; omega, by dsimp only; simp at h1; omega, h2⟩, rfl, by omega, h5⟩
section TYPE
variable {X : Nat × (Nat → Int32)} {d : Nat} {Q : am_R → Prop} {b : Nat → Nat} {tot lim idp o : Nat} {id nm kd : Int32}
theorem tyE_s {S : am_S} {fs : List jFd} (h : tyE S o id nm kd fs) : cTs S o := by
  obtain ⟨h0, f1, f2, f3, h1, h2, h3, -⟩ := h
  exact ⟨_, _, _, _, f1, f2, f3, h0, h1, h2, h3⟩
theorem tr_loop (hb : ∀ j, b j < 256) (ho : 3 ≤ o) (ho2 : o < 900000) {n : Nat} (hn : n ≤ 8) {x2 x3 x4 : Value} :
    ∀ (m i : Nat) (fs : List jFd) (p : Nat) (S : am_S), i + m = n → fs.length = i → (∀ y, y ∈ fs → fdOK y) → sK S b tot p lim idp → tyE S o id nm kd fs →
      (∀ fs' p' T, rdFs b lim m fs p = .inr (fs', p') → fr [1, o, o + 1, o + 2, o + 3] S T → sK T b tot p' lim idp → tyE T o id nm kd fs' → Q (.inl none, T)) →
      (∀ k pl T, rdFs b lim m fs p = .inl (k, pl) → fr [1, o, o + 1, o + 2, o + 3] S T → sX T tot k pl → cTs T o → Q (.inr IAE, am_thrown T)) →
      wp X (d + 4) 60 111 [some (.ref o), some (.ref 1), some x2, some x3, some x4, some (.int (nI n)), some (.int (nI i))] [] S Q := by
  intro m
  induction m with
  | zero =>
    intro i fs p S hi hil hfs h he hret hthr
    iterate 2 refine wp_step rfl rfl ?_
    refine wp_icmp rfl (fun c => ?_) (fun c => ?_)
    · replace c := n_ge_t (a := i) (b := n) (by omega) (by omega) c
      refine wp_vret rfl rfl (hret fs p S rfl (fr_refl _ _) h he)
    · replace c := n_ge_f (a := i) (b := n) (by omega) (by omega) c
      omega
  | succ m ih =>
    intro i fs p S hi hil hfs h he hret hthr
    iterate 2 refine wp_step rfl rfl ?_
    refine wp_icmp rfl (fun c => ?_) (fun c => ?_)
    · replace c := n_ge_t (a := i) (b := n) (by omega) (by omega) c
      omega
    · replace c := n_ge_f (a := i) (b := n) (by omega) (by omega) c
      iterate 2 refine wp_step rfl rfl ?_
      refine wp_c0 rfl rfl (by decide) rfl (recv_ok he.1 rfl) rfl (q_readField hb h he hfs (by omega) ho ho2 (fun y p1 T e1 hf hk he2 => ?_) (fun k pl T e1 hf hx => ?_))
      · iterate 2 refine wp_step rfl rfl ?_
        rw [show nI i + Int32.ofInt 1 = nI (i + 1) from nI_add i 1]
        have hy := rdF1_ok e1
        refine ih (i + 1) (fs ++ [y]) p1 T (by omega) (by simp; omega) (fun z hz => ?_) hk he2 (fun fs' p' T2 e2 hf2 hk2 he3 => hret fs' p' T2 (by unfold rdFs; rw [e1]; exact e2) (fr_trans hf hf2) hk2 he3) (fun k pl T2 e2 hf2 hx2 hs2 => hthr k pl T2 (by unfold rdFs; rw [e1]; exact e2) (fr_trans hf hf2) hx2 hs2)
        rcases List.mem_append.mp hz with h9 | h9
        · exact hfs z h9
        · rw [List.mem_singleton.mp h9]; exact hy.1
      · exact hthr k pl T (by unfold rdFs; rw [e1]) (fr_mono hf (fun j hj => by simp only [List.mem_cons, List.not_mem_nil, or_false] at hj ⊢; omega)) hx (tyE_s (tyE_fr he hf ⟨(by simp only [List.mem_cons, List.not_mem_nil, or_false]; omega), (by simp only [List.mem_cons, List.not_mem_nil, or_false]; omega), (by simp only [List.mem_cons, List.not_mem_nil, or_false]; omega), (by simp only [List.mem_cons, List.not_mem_nil, or_false]; omega)⟩))
set_option maxHeartbeats 1000000 in
theorem q_typeRead {S : am_S} {p id0 : Nat} (hb : ∀ j, b j < 256) (h : sK S b tot p lim idp) (hs : cTs S o) (ho : 3 ≤ o) (ho2 : o < 900000)
    (hret : ∀ x p' T, rdT1 b lim id0 p = .inr (x, p') → fr [1, o, o + 1, o + 2, o + 3] S T → sK T b tot p' lim idp → cT T o x → Q (.inl none, T))
    (hthr : ∀ k pl T, rdT1 b lim id0 p = .inl (k, pl) → fr [1, o, o + 1, o + 2, o + 3] S T → sX T tot k pl → cTs T o → Q (.inr IAE, am_thrown T)) : ev X (d + 5) 60 [.ref o, .ref 1, .int (nI id0)] S Q := by
  obtain ⟨id9, nm9, kd9, n9, f1, f2, f3, g0, g1, g2, g3⟩ := hs
  refine ev_wp (L0 := [some (.ref o), some (.ref 1), some (.int (nI id0)), none, none, none, none]) (Nat.le_of_ble_eq_true rfl) rfl ?_
  iterate 2 refine wp_step rfl rfl ?_
  refine wp_putg rfl g0 (by decide) rfl rfl ?_
  rw [tyG_0]
  iterate 2 refine wp_step rfl rfl ?_
  refine wp_putg rfl (am_get_self g0) (by decide) rfl rfl ?_
  rw [am_upd_upd, tyG_3, show Int32.ofInt 0 = nI 0 from rfl]
  have hf0 : fr [1, o, o + 1, o + 2, o + 3] S (am_upd S o (tyC o (nI id0) nm9 kd9 (nI 0))) := fr_up (by simp)
  have hk0 : sK (am_upd S o (tyC o (nI id0) nm9 kd9 (nI 0))) b tot p lim idp := sK_fr h (fr_up (js := [o]) (by simp)) (by simp only [List.mem_cons, List.not_mem_nil, or_false]; omega) (by simp only [List.mem_cons, List.not_mem_nil, or_false]; omega)
  have he0 : tyE (am_upd S o (tyC o (nI id0) nm9 kd9 (nI 0))) o (nI id0) nm9 kd9 [] := ⟨am_get_self g0, f1, f2, f3, by rw [am_get_ne (by omega)]; exact g1, by rw [am_get_ne (by omega)]; exact g2, by rw [am_get_ne (by omega)]; exact g3, fun i y hy => by simp at hy⟩
  generalize am_upd S o (tyC o (nI id0) nm9 kd9 (nI 0)) = S1 at hf0 hk0 he0 ⊢
  iterate 2 refine wp_step rfl rfl ?_
  refine wp_c0 rfl rfl (by decide) rfl (recv_ok hk0.1 rfl) rfl (q_oneByte hk0 (fun T hlt hf hk => ?_) (fun T hlt hf hx => ?_))
  · have hn1 : ¬ lim ≤ p := by omega
    have he1 := tyE_fr he0 hf ⟨(by simp only [List.mem_cons, List.not_mem_nil, or_false]; omega), (by simp only [List.mem_cons, List.not_mem_nil, or_false]; omega), (by simp only [List.mem_cons, List.not_mem_nil, or_false]; omega), (by simp only [List.mem_cons, List.not_mem_nil, or_false]; omega)⟩
    refine wp_putg rfl he1.1 (by decide) rfl rfl ?_
    rw [tyG_1]
    have hf1 : fr [1, o, o + 1, o + 2, o + 3] S (am_upd T o (tyC o (nI id0) (nI (b p)) kd9 (nI ([] : List jFd).length))) := fr_upd (fr_trans hf0 (fr_mono hf (fun j hj => by simp only [List.mem_cons, List.not_mem_nil, or_false] at hj ⊢; omega))) (by simp)
    have hk1 : sK (am_upd T o (tyC o (nI id0) (nI (b p)) kd9 (nI ([] : List jFd).length))) b tot (p + 1) lim idp := sK_fr hk (fr_up (js := [o]) (by simp)) (by simp only [List.mem_cons, List.not_mem_nil, or_false]; omega) (by simp only [List.mem_cons, List.not_mem_nil, or_false]; omega)
    have he2 : tyE (am_upd T o (tyC o (nI id0) (nI (b p)) kd9 (nI ([] : List jFd).length))) o (nI id0) (nI (b p)) kd9 [] := by
      obtain ⟨a0, f1, f2, f3, a1, a2, a3, a4⟩ := he1
      exact ⟨am_get_self a0, f1, f2, f3, by rw [am_get_ne (by omega)]; exact a1, by rw [am_get_ne (by omega)]; exact a2, by rw [am_get_ne (by omega)]; exact a3, a4⟩
    generalize am_upd T o (tyC o (nI id0) (nI (b p)) kd9 (nI ([] : List jFd).length)) = S2 at hf1 hk1 he2 ⊢
    have bad : (b p < 65 ∨ 90 < b p) → wp X (d + 4) 60 36 [some (.ref o), some (.ref 1), some (.int (nI id0)), none, none, none, none] [] S2 Q := by
      intro hbad
      iterate 3 refine wp_step rfl rfl ?_
      refine wp_getg rfl hk1.1 (by decide) rfl ?_
      iterate 2 refine wp_step rfl rfl ?_
      rw [show nI (p + 1) - Int32.ofInt 1 = nI p from nI_pred p]
      refine wp_fl rfl rfl hk1 (fun T2 hf2 hx => hthr 4 _ _ ?_ (fr_trans hf1 (fr_mono hf2 (fun j hj => by simp only [List.mem_cons, List.not_mem_nil, or_false] at hj ⊢; omega))) hx (tyE_s (tyE_fr he2 hf2 ⟨(by simp only [List.mem_cons, List.not_mem_nil, or_false]; omega), (by simp only [List.mem_cons, List.not_mem_nil, or_false]; omega), (by simp only [List.mem_cons, List.not_mem_nil, or_false]; omega), (by simp only [List.mem_cons, List.not_mem_nil, or_false]; omega)⟩)))
      unfold rdT1; rw [if_neg hn1, if_pos hbad]
    have hbp := hb p
    refine wp_step rfl rfl ?_
    refine wp_getg (v := .int (nI (b p))) rfl he2.1 (by decide) rfl ?_
    refine wp_step rfl rfl ?_
    refine wp_icmp rfl (fun c => ?_) (fun c => ?_)
    · replace c := n_lt_t (a := b p) (b := 65) (by omega) (by omega) c
      exact bad (Or.inl c)
    · replace c := n_lt_f (a := b p) (b := 65) (by omega) (by omega) c
      refine wp_step rfl rfl ?_
      refine wp_getg (v := .int (nI (b p))) rfl he2.1 (by decide) rfl ?_
      refine wp_step rfl rfl ?_
      refine wp_icmp rfl (fun c2 => ?_) (fun c2 => ?_)
      · replace c2 := n_le_t (a := b p) (b := 90) (by omega) (by omega) c2
        have hn2 : ¬ (b p < 65 ∨ 90 < b p) := by omega
        refine wp_step rfl rfl ?_
        refine wp_c0 rfl rfl (by decide) rfl (recv_ok hk1.1 rfl) rfl (q_oneByte hk1 (fun T2 hlt2 hf2 hk2 => ?_) (fun T2 hlt2 hf2 hx2 => ?_))
        · have hn3 : ¬ lim ≤ p + 1 := by omega
          have he3 := tyE_fr he2 hf2 ⟨(by simp only [List.mem_cons, List.not_mem_nil, or_false]; omega), (by simp only [List.mem_cons, List.not_mem_nil, or_false]; omega), (by simp only [List.mem_cons, List.not_mem_nil, or_false]; omega), (by simp only [List.mem_cons, List.not_mem_nil, or_false]; omega)⟩
          have hf3 := fr_trans hf1 (fr_mono (ks := [1, o, o + 1, o + 2, o + 3]) hf2 (fun j hj => by simp only [List.mem_cons, List.not_mem_nil, or_false] at hj ⊢; omega))
          have hbp1 := hb (p + 1)
          iterate 3 refine wp_step rfl rfl ?_
          refine wp_icmp rfl (fun c3 => ?_) (fun c3 => ?_)
          · replace c3 := n_le_t (a := b (p + 1)) (b := 1) (by omega) (by omega) c3
            have hn4 : ¬ 1 < b (p + 1) := by omega
            have on : ∀ S3, fr [1, o, o + 1, o + 2, o + 3] S S3 → sK S3 b tot (p + 2) lim idp → tyE S3 o (nI id0) (nI (b p)) (nI (b (p + 1))) [] → wp X (d + 4) 60 82 [some (.ref o), some (.ref 1), some (.int (nI id0)), some (.int (nI (b (p + 1)))), none, none, none] [] S3 Q := by
              intro S3 hf4 hk3 he4
              refine wp_step rfl rfl ?_
              refine wp_getg rfl hk3.1 (by decide) rfl ?_
              iterate 2 refine wp_step rfl rfl ?_
              refine wp_c0 rfl rfl (by decide) rfl (recv_ok hk3.1 rfl) rfl (q_count hk3 (fun n p1 T3 hc hf5 hk5 => ?_) (fun T3 hc hf5 hx5 => ?_))
              · have hcl := cnt_lt hc
                have he5 := tyE_fr he4 hf5 ⟨(by simp only [List.mem_cons, List.not_mem_nil, or_false]; omega), (by simp only [List.mem_cons, List.not_mem_nil, or_false]; omega), (by simp only [List.mem_cons, List.not_mem_nil, or_false]; omega), (by simp only [List.mem_cons, List.not_mem_nil, or_false]; omega)⟩
                have hf6 := fr_trans hf4 (fr_mono (ks := [1, o, o + 1, o + 2, o + 3]) hf5 (fun j hj => by simp only [List.mem_cons, List.not_mem_nil, or_false] at hj ⊢; omega))
                iterate 3 refine wp_step rfl rfl ?_
                refine wp_icmp rfl (fun c5 => ?_) (fun c5 => ?_)
                · replace c5 := n_le_t (a := n) (b := 8) (by omega) (by omega) c5
                  iterate 2 refine wp_step rfl rfl ?_
                  refine tr_loop hb ho ho2 c5 n 0 [] p1 T3 (by omega) rfl (fun y hy => by cases hy) hk5 he5 (fun fs' p' T4 e4 hf7 hk7 he7 => ?_) (fun k pl T4 e4 hf7 hx7 hs7 => ?_)
                  · exact hret (id0, b p, b (p + 1), fs') p' T4 (by unfold rdT1; rw [if_neg hn1, if_neg hn2, if_neg hn3, if_neg hn4, hc]; dsimp only; rw [if_neg (by omega), e4]) (fr_trans hf6 hf7) hk7 he7
                  · exact hthr k pl T4 (by unfold rdT1; rw [if_neg hn1, if_neg hn2, if_neg hn3, if_neg hn4, hc]; dsimp only; rw [if_neg (by omega), e4]) (fr_trans hf6 hf7) hx7 hs7
                · replace c5 := n_le_f (a := n) (b := 8) (by omega) (by omega) c5
                  iterate 3 refine wp_step rfl rfl ?_
                  refine wp_fl rfl rfl hk5 (fun T4 hf7 hx => hthr 4 _ _ ?_ (fr_trans hf6 (fr_mono hf7 (fun j hj => by simp only [List.mem_cons, List.not_mem_nil, or_false] at hj ⊢; omega))) hx (tyE_s (tyE_fr he5 hf7 ⟨(by simp only [List.mem_cons, List.not_mem_nil, or_false]; omega), (by simp only [List.mem_cons, List.not_mem_nil, or_false]; omega), (by simp only [List.mem_cons, List.not_mem_nil, or_false]; omega), (by simp only [List.mem_cons, List.not_mem_nil, or_false]; omega)⟩)))
                  unfold rdT1; rw [if_neg hn1, if_neg hn2, if_neg hn3, if_neg hn4, hc]; dsimp only; rw [if_pos c5]
              · exact hthr _ _ _ (by unfold rdT1; rw [if_neg hn1, if_neg hn2, if_neg hn3, if_neg hn4, hc]) (fr_trans hf4 (fr_mono hf5 (fun j hj => by simp only [List.mem_cons, List.not_mem_nil, or_false] at hj ⊢; omega))) hx5 (tyE_s (tyE_fr he4 hf5 ⟨(by simp only [List.mem_cons, List.not_mem_nil, or_false]; omega), (by simp only [List.mem_cons, List.not_mem_nil, or_false]; omega), (by simp only [List.mem_cons, List.not_mem_nil, or_false]; omega), (by simp only [List.mem_cons, List.not_mem_nil, or_false]; omega)⟩))
            have put : ∀ z, z = b (p + 1) → fr [1, o, o + 1, o + 2, o + 3] S (am_upd T2 o (tyC o (nI id0) (nI (b p)) (nI z) (nI ([] : List jFd).length))) ∧ sK (am_upd T2 o (tyC o (nI id0) (nI (b p)) (nI z) (nI ([] : List jFd).length))) b tot (p + 2) lim idp ∧ tyE (am_upd T2 o (tyC o (nI id0) (nI (b p)) (nI z) (nI ([] : List jFd).length))) o (nI id0) (nI (b p)) (nI (b (p + 1))) [] := by
              intro z hz
              subst hz
              obtain ⟨a0, f1, f2, f3, a1, a2, a3, a4⟩ := he3
              exact ⟨fr_upd hf3 (by simp), sK_fr hk2 (fr_up (js := [o]) (by simp)) (by simp only [List.mem_cons, List.not_mem_nil, or_false]; omega) (by simp only [List.mem_cons, List.not_mem_nil, or_false]; omega), am_get_self a0, f1, f2, f3, by rw [am_get_ne (by omega)]; exact a1, by rw [am_get_ne (by omega)]; exact a2, by rw [am_get_ne (by omega)]; exact a3, a4⟩
            iterate 3 refine wp_step rfl rfl ?_
            refine wp_icmp rfl (fun c4 => ?_) (fun c4 => ?_)
            · replace c4 := n_ne_t (a := b (p + 1)) (b := 1) (by omega) (by omega) c4
              refine wp_step rfl rfl ?_
              refine wp_putg rfl he3.1 (by decide) rfl rfl ?_
              rw [tyG_2]
              have h9 := put 0 (by omega)
              exact on _ h9.1 h9.2.1 h9.2.2
            · replace c4 := n_ne_f (a := b (p + 1)) (b := 1) (by omega) (by omega) c4
              iterate 2 refine wp_step rfl rfl ?_
              refine wp_putg rfl he3.1 (by decide) rfl rfl ?_
              rw [tyG_2]
              have h9 := put 1 (by omega)
              exact on _ h9.1 h9.2.1 h9.2.2
          · replace c3 := n_le_f (a := b (p + 1)) (b := 1) (by omega) (by omega) c3
            iterate 3 refine wp_step rfl rfl ?_
            refine wp_getg rfl hk2.1 (by decide) rfl ?_
            iterate 2 refine wp_step rfl rfl ?_
            rw [show nI (p + 1 + 1) - Int32.ofInt 1 = nI (p + 1) from nI_pred (p + 1)]
            refine wp_fl rfl rfl hk2 (fun T3 hf4 hx => hthr 4 _ _ ?_ (fr_trans hf3 (fr_mono hf4 (fun j hj => by simp only [List.mem_cons, List.not_mem_nil, or_false] at hj ⊢; omega))) hx (tyE_s (tyE_fr he3 hf4 ⟨(by simp only [List.mem_cons, List.not_mem_nil, or_false]; omega), (by simp only [List.mem_cons, List.not_mem_nil, or_false]; omega), (by simp only [List.mem_cons, List.not_mem_nil, or_false]; omega), (by simp only [List.mem_cons, List.not_mem_nil, or_false]; omega)⟩)))
            unfold rdT1; rw [if_neg hn1, if_neg hn2, if_neg hn3, if_pos c3]
        · exact hthr _ _ _ (by unfold rdT1; rw [if_neg hn1, if_neg hn2, if_pos hlt2]) (fr_trans hf1 (fr_mono hf2 (fun j hj => by simp only [List.mem_cons, List.not_mem_nil, or_false] at hj ⊢; omega))) hx2 (tyE_s (tyE_fr he2 hf2 ⟨(by simp only [List.mem_cons, List.not_mem_nil, or_false]; omega), (by simp only [List.mem_cons, List.not_mem_nil, or_false]; omega), (by simp only [List.mem_cons, List.not_mem_nil, or_false]; omega), (by simp only [List.mem_cons, List.not_mem_nil, or_false]; omega)⟩))
      · replace c2 := n_le_f (a := b p) (b := 90) (by omega) (by omega) c2
        exact bad (Or.inr c2)
  · exact hthr _ _ _ (by unfold rdT1; rw [if_pos hlt]) (fr_trans hf0 (fr_mono hf (fun j hj => by simp only [List.mem_cons, List.not_mem_nil, or_false] at hj ⊢; omega))) hx (tyE_s (tyE_fr he0 hf ⟨(by simp only [List.mem_cons, List.not_mem_nil, or_false]; omega), (by simp only [List.mem_cons, List.not_mem_nil, or_false]; omega), (by simp only [List.mem_cons, List.not_mem_nil, or_false]; omega), (by simp only [List.mem_cons, List.not_mem_nil, or_false]; omega)⟩))
end TYPE
