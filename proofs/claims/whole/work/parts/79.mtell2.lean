/-! THE MODEL: a type is told -/
def rdTT (b : Nat → Nat) (lim : Nat) (τ : jTT) (p : Nat) : (Int32 × Nat) ⊕ (jTy × Nat) := match cnt (Bn b) lim p with
  | none => .inl (2, p)
  | some (id, p1) => if id < 16 ∨ tix τ id ≠ none then .inl (4, p) else rdT1 b lim id p1
theorem rdTs_s {b : Nat → Nat} {lim n p : Nat} {τ : jTT} : rdTs b lim (n + 1) τ p = (match rdTT b lim τ p with
    | .inl e => .inl e
    | .inr (x, p') => rdTs b lim n (τ ++ [x]) p') := by
  unfold rdTT
  rw [show rdTs b lim (n + 1) τ p = (match cnt (Bn b) lim p with
    | none => .inl (2, p)
    | some (id, p1) => if id < 16 ∨ tix τ id ≠ none then .inl (4, p) else (match rdT1 b lim id p1 with
      | .inl e => .inl e
      | .inr (x, p') => rdTs b lim n (τ ++ [x]) p')) from rfl]
  cases cnt (Bn b) lim p with
  | none => rfl
  | some q =>
    obtain ⟨id, p1⟩ := q
    dsimp only
    split
    · rfl
    · rfl
/-- all but slot sl is the same -/
def magS (M M' : jMT) (sl : Nat) : Prop := (∀ j, j ≠ sl → M'.1 j = M.1 j) ∧ (∀ j, (j < 10 * sl ∨ 10 * sl + 10 ≤ j) → M'.2.1 j = M.2.1 j ∧ M'.2.2.1 j = M.2.2.1 j ∧ M'.2.2.2.1 j = M.2.2.2.1 j ∧ M'.2.2.2.2.1 j = M.2.2.2.2.1 j) ∧ ∀ j, (j < 80 * sl ∨ 80 * sl + 80 ≤ j) → M'.2.2.2.2.2.1 j = M.2.2.2.2.2.1 j ∧ M'.2.2.2.2.2.2.1 j = M.2.2.2.2.2.2.1 j ∧ M'.2.2.2.2.2.2.2 j = M.2.2.2.2.2.2.2 j
theorem magS_refl (M : jMT) (sl : Nat) : magS M M sl := ⟨fun _ _ => rfl, fun _ _ => ⟨rfl, rfl, rfl, rfl⟩, fun _ _ => ⟨rfl, rfl, rfl⟩⟩
theorem magS_trans {M N P : jMT} {sl : Nat} (h : magS M N sl) (h2 : magS N P sl) : magS M P sl := by
  refine ⟨fun j hj => (h2.1 j hj).trans (h.1 j hj), fun j hj => ?_, fun j hj => ?_⟩
  · obtain ⟨a1, a2, a3, a4⟩ := h.2.1 j hj
    obtain ⟨b1, b2, b3, b4⟩ := h2.2.1 j hj
    exact ⟨b1.trans a1, b2.trans a2, b3.trans a3, b4.trans a4⟩
  · obtain ⟨a1, a2, a3⟩ := h.2.2 j hj
    obtain ⟨b1, b2, b3⟩ := h2.2.2 j hj
    exact ⟨b1.trans a1, b2.trans a2, b3.trans a3⟩
theorem magS_of {M M' : jMT} {s sl : Nat} (h : mag M M' s) (h1 : 10 * sl ≤ s) (h2 : s < 10 * sl + 10) : magS M M' sl :=
  ⟨fun j _ => congrFun h.1 j, fun j hj => h.2.1 j (by omega), fun j hj => h.2.2 j (by omega)⟩
theorem mTy_magS {M M' : jMT} {sl sl' : Nat} {τ : jTT} (h : mTy M sl' τ) (ha : magS M M' sl) (hs : sl' ≠ sl) (hl : τ.length ≤ 10) (hf : ∀ (t : Nat) (x : jTy), τ[t]? = some x → x.2.2.2.length ≤ 8) : mTy M' sl' τ := by
  refine ⟨(ha.1 sl' hs).trans h.1, fun t x hx => ?_⟩
  have ht := (List.getElem?_eq_some_iff.mp hx).1
  obtain ⟨h1, h2, h3, h4, h5⟩ := h.2 t x hx
  obtain ⟨a1, a2, a3, a4⟩ := ha.2.1 (10 * sl' + t) (by omega)
  have hfl := hf t x hx
  refine ⟨a1.trans h1, a2.trans h2, a3.trans h3, a4.trans h4, fun f y hy => ?_⟩
  have hf2 := (List.getElem?_eq_some_iff.mp hy).1
  obtain ⟨b1, b2, b3⟩ := ha.2.2 (8 * (10 * sl' + t) + f) (by omega)
  obtain ⟨c1, c2, c3⟩ := h5 f y hy
  exact ⟨b1.trans c1, b2.trans c2, b3.trans c3⟩
section MTELL2
variable {X : Nat × (Nat → Int32)} {d : Nat} {Q : am_R → Prop} {st li : Int64} {b : Nat → Nat} {w lim s : Nat}
theorem tt_193 {T : am_S} {J : Nat → Int32} {k : Int32} {pl : Nat} {x1 x2 x3 x4 x5 x6 x7 x8 : Option Value} (hx : mX T J st li k pl) (hq : Q (.inl none, T)) : wp X d 117 193 [some (.ref 408), x1, x2, x3, x4, x5, x6, x7, x8] [] T Q := by
  refine wp_step rfl rfl ?_
  refine wp_getg (v := (.int k)) rfl hx.1 (by decide) (congrArg Value.int hx.2.1) ?_
  refine wp_if_f rfl (c1_eq0 hx.2.2.1) ?_
  refine wp_vret rfl rfl hq
theorem tt_158 {T : am_S} {J : Nat → Int32} {k : Int32} {pl : Nat} {M : jMT} {x2 : Option Value} {z3 : Int64} {x5 x6 : Option Value} {z7 : Int32} (hx : mX T J st li k pl) (hM : mTa T M) (hs : s < 80) (h21 : ∃ q, J 21 = nI q) (h22 : ∃ q, J 22 = nI q) (hq : ∀ T2, fr [421] T T2 → mTa T2 (M.1, M.2.1, M.2.2.1, M.2.2.2.1, upd M.2.2.2.2.1 s (nI 0), M.2.2.2.2.2.1, M.2.2.2.2.2.2.1, M.2.2.2.2.2.2.2) → mX T2 J st li k pl → Q (.inl none, T2)) : wp X (d + 3) 117 158 [some (.ref 408), some (.int (nI s)), x2, some (.long z3), none, x5, x6, some (.int z7), none] [] T Q := by
  refine wp_step rfl rfl ?_
  refine wp_getg rfl hx.1 (by decide) rfl ?_
  iterate 2 refine wp_step rfl rfl ?_
  refine wp_ast rfl (Or.inl ⟨rfl, rfl⟩) hM.2.2.2.2.1 (am_in_nI (by omega) (by decide)) ?_
  rw [nI_clamp (by omega)]
  rw [show vp_nar (am_ty 0) (Int32.ofInt 0) = Int32.ofInt 0 from rfl]
  show wp X (d + 3) 117 165 [some (.ref 408), some (.int (nI s)), x2, some (.long z3), none, x5, x6, some (.int z7), none] [] (am_upd T 421 (iA 80 (upd M.2.2.2.2.1 s (nI 0)))) Q
  have hM1 := mTa_421 hM (upd M.2.2.2.2.1 s (nI 0))
  have hx1 := mX_fr hx (fr_up (js := [421]) (S := T) (a := 421) (x := iA 80 (upd M.2.2.2.2.1 s (nI 0))) (by simp)) (by decide)
  have hf1 : fr [421] T (am_upd T 421 (iA 80 (upd M.2.2.2.2.1 s (nI 0)))) := fr_up (by simp)
  generalize am_upd T 421 (iA 80 (upd M.2.2.2.2.1 s (nI 0))) = T2 at hM1 hx1 hf1 ⊢
  iterate 2 refine wp_step rfl rfl ?_
  show wp X (d + 3) 117 168 [some (.ref 408), some (.int (nI s)), x2, some (.long z3), none, x5, x6, some (.int z7), some (.int (nI 0))] [] T2 Q
  iterate 2 refine wp_step rfl rfl ?_
  refine wp_icmp rfl (fun c0 => ?_) (fun c0 => ?_)
  · exact tt_193 hx1 (hq T2 hf1 hM1 hx1)
  · refine wp_step rfl rfl ?_
    refine wp_getg (v := (.int k)) rfl hx1.1 (by decide) (congrArg Value.int hx1.2.1) ?_
    refine wp_if_t rfl (c1_ne0 hx1.2.2.1) ?_
    exact tt_193 hx1 (hq T2 hf1 hM1 hx1)
theorem tt_138 {T : am_S} {J : Nat → Int32} {k : Int32} {pl : Nat} {M : jMT} {x2 : Option Value} {z3 : Int64} {x5 x6 : Option Value} {z7 : Int32} (hx : mX T J st li k pl) (hM : mTa T M) (hs : s < 80) (h21 : ∃ q, J 21 = nI q) (h22 : ∃ q, J 22 = nI q) (hq : ∀ T2, fr [421] T T2 → mTa T2 (M.1, M.2.1, M.2.2.1, M.2.2.2.1, upd M.2.2.2.2.1 s (nI 0), M.2.2.2.2.2.1, M.2.2.2.2.2.2.1, M.2.2.2.2.2.2.2) → mX T2 J st li k pl → Q (.inl none, T2)) : wp X (d + 3) 117 138 [some (.ref 408), some (.int (nI s)), x2, some (.long z3), none, x5, x6, some (.int z7), none] [] T Q := by
  refine wp_step rfl rfl ?_
  refine wp_getg (v := (.int k)) rfl hx.1 (by decide) (congrArg Value.int hx.2.1) ?_
  refine wp_if_t rfl (c1_ne0 hx.2.2.1) ?_
  exact tt_158 hx hM hs h21 h22 hq
theorem tt_127 {T : am_S} {J : Nat → Int32} {k : Int32} {pl : Nat} {M : jMT} {x2 : Option Value} {z3 : Int64} {z5 z6 : Int32} (hx : mX T J st li k pl) (hM : mTa T M) (hs : s < 80) (h21 : ∃ q, J 21 = nI q) (h22 : ∃ q, J 22 = nI q) (hq : ∀ T2, fr [421] T T2 → mTa T2 (M.1, M.2.1, M.2.2.1, M.2.2.2.1, upd M.2.2.2.2.1 s (nI 0), M.2.2.2.2.2.1, M.2.2.2.2.2.2.1, M.2.2.2.2.2.2.2) → mX T2 J st li k pl → Q (.inl none, T2)) : wp X (d + 3) 117 127 [some (.ref 408), some (.int (nI s)), x2, some (.long z3), none, some (.int z5), some (.int z6), none, none] [] T Q := by
  obtain ⟨q, hq1⟩ := id h21
  refine wp_step rfl rfl ?_
  refine wp_getg (v := (.int (nI q))) rfl hx.1 (by decide) (congrArg Value.int hq1) ?_
  iterate 2 refine wp_step rfl rfl ?_
  refine wp_c0 rfl rfl (by decide) rfl (recv_ok hx.1 rfl) rfl (q_msmallX hx.1 hx.2.1 hx.2.2.1 h21 ?_)
  refine wp_step rfl rfl ?_
  show wp X (d + 3) 117 138 [some (.ref 408), some (.int (nI s)), some (.int (nI q)), some (.long z3), none, some (.int z5), some (.int z6), some (.int 0), none] [] T Q
  exact tt_138 hx hM hs h21 h22 hq
theorem tt_108 {T : am_S} {J : Nat → Int32} {k : Int32} {pl : Nat} {M : jMT} {x2 : Option Value} {z3 : Int64} {z5 z6 : Int32} (hx : mX T J st li k pl) (hM : mTa T M) (hs : s < 80) (h21 : ∃ q, J 21 = nI q) (h22 : ∃ q, J 22 = nI q) (hq : ∀ T2, fr [421] T T2 → mTa T2 (M.1, M.2.1, M.2.2.1, M.2.2.2.1, upd M.2.2.2.2.1 s (nI 0), M.2.2.2.2.2.1, M.2.2.2.2.2.2.1, M.2.2.2.2.2.2.2) → mX T2 J st li k pl → Q (.inl none, T2)) : wp X (d + 3) 117 108 [some (.ref 408), some (.int (nI s)), x2, some (.long z3), none, some (.int z5), some (.int z6), none, none] [] T Q := by
  refine wp_step rfl rfl ?_
  refine wp_getg (v := (.int k)) rfl hx.1 (by decide) (congrArg Value.int hx.2.1) ?_
  refine wp_if_t rfl (c1_ne0 hx.2.2.1) ?_
  exact tt_127 hx hM hs h21 h22 hq
theorem tt_97 {T : am_S} {J : Nat → Int32} {k : Int32} {pl : Nat} {M : jMT} {x2 : Option Value} {z3 : Int64} {z5 : Int32} (hx : mX T J st li k pl) (hM : mTa T M) (hs : s < 80) (h21 : ∃ q, J 21 = nI q) (h22 : ∃ q, J 22 = nI q) (hq : ∀ T2, fr [421] T T2 → mTa T2 (M.1, M.2.1, M.2.2.1, M.2.2.2.1, upd M.2.2.2.2.1 s (nI 0), M.2.2.2.2.2.1, M.2.2.2.2.2.2.1, M.2.2.2.2.2.2.2) → mX T2 J st li k pl → Q (.inl none, T2)) : wp X (d + 3) 117 97 [some (.ref 408), some (.int (nI s)), x2, some (.long z3), none, some (.int z5), none, none, none] [] T Q := by
  obtain ⟨q, hq1⟩ := id h21
  refine wp_step rfl rfl ?_
  refine wp_getg (v := (.int (nI q))) rfl hx.1 (by decide) (congrArg Value.int hq1) ?_
  iterate 2 refine wp_step rfl rfl ?_
  refine wp_c0 rfl rfl (by decide) rfl (recv_ok hx.1 rfl) rfl (q_mnextX hx.1 hx.2.1 hx.2.2.1 h21 h22 ?_)
  refine wp_step rfl rfl ?_
  show wp X (d + 3) 117 108 [some (.ref 408), some (.int (nI s)), some (.int (nI q)), some (.long z3), none, some (.int z5), some (.int 0), none, none] [] T Q
  exact tt_108 hx hM hs h21 h22 hq
theorem tt_70 {T : am_S} {J : Nat → Int32} {k : Int32} {pl : Nat} {M : jMT} {x2 : Option Value} {z3 : Int64} {z5 : Int32} (hx : mX T J st li k pl) (hM : mTa T M) (hs : s < 80) (h21 : ∃ q, J 21 = nI q) (h22 : ∃ q, J 22 = nI q) (hq : ∀ T2, fr [421] T T2 → mTa T2 (M.1, M.2.1, M.2.2.1, M.2.2.2.1, upd M.2.2.2.2.1 s (nI 0), M.2.2.2.2.2.1, M.2.2.2.2.2.2.1, M.2.2.2.2.2.2.2) → mX T2 J st li k pl → Q (.inl none, T2)) : wp X (d + 3) 117 70 [some (.ref 408), some (.int (nI s)), x2, some (.long z3), none, some (.int z5), none, none, none] [] T Q := by
  refine wp_step rfl rfl ?_
  refine wp_getg (v := (.int k)) rfl hx.1 (by decide) (congrArg Value.int hx.2.1) ?_
  refine wp_if_t rfl (c1_ne0 hx.2.2.1) ?_
  exact tt_97 hx hM hs h21 h22 hq
theorem tt_59 {T : am_S} {J : Nat → Int32} {k : Int32} {pl : Nat} {M : jMT} {x2 : Option Value} {z3 : Int64} (hx : mX T J st li k pl) (hM : mTa T M) (hs : s < 80) (h21 : ∃ q, J 21 = nI q) (h22 : ∃ q, J 22 = nI q) (hq : ∀ T2, fr [421] T T2 → mTa T2 (M.1, M.2.1, M.2.2.1, M.2.2.2.1, upd M.2.2.2.2.1 s (nI 0), M.2.2.2.2.2.1, M.2.2.2.2.2.2.1, M.2.2.2.2.2.2.2) → mX T2 J st li k pl → Q (.inl none, T2)) : wp X (d + 3) 117 59 [some (.ref 408), some (.int (nI s)), x2, some (.long z3), none, none, none, none, none] [] T Q := by
  obtain ⟨q, hq1⟩ := id h21
  refine wp_step rfl rfl ?_
  refine wp_getg (v := (.int (nI q))) rfl hx.1 (by decide) (congrArg Value.int hq1) ?_
  iterate 2 refine wp_step rfl rfl ?_
  refine wp_c0 rfl rfl (by decide) rfl (recv_ok hx.1 rfl) rfl (q_mnextX hx.1 hx.2.1 hx.2.2.1 h21 h22 ?_)
  refine wp_step rfl rfl ?_
  show wp X (d + 3) 117 70 [some (.ref 408), some (.int (nI s)), some (.int (nI q)), some (.long z3), none, some (.int 0), none, none, none] [] T Q
  exact tt_70 hx hM hs h21 h22 hq
theorem rdF1_nm {b : Nat → Nat} {lim p p' : Nat} {fs : List jFd} {y : jFd} (hb : ∀ j, b j < 256) (h : rdF1 b lim fs p = .inr (y, p')) : y.1 < 2 ^ 31 := by
  unfold rdF1 at h
  split at h
  · cases h
  · split at h
    · cases h
    · split at h
      · cases h
      · split at h
        · cases h
        · split at h
          · cases h
          · cases h
            have := hb p
            dsimp only
            omega
set_option maxHeartbeats 1000000 in
theorem tt_loop {n : Nat} {x2 : Option Value} {z3 : Int64} {z5 z6 : Int32} (hb : ∀ j, b j < 256) (hs : s < 80) (hn : n ≤ 8) : ∀ (m i : Nat) (fs : List jFd) (p : Nat) (S : am_S) (I : Nat → Int32) (M : jMT), i + m = n → fs.length = i → mR S I st li b w p lim → mTa S M → mFs M s fs → (∀ (i : Nat) (y : jFd), fs[i]? = some y → y.1 < 2 ^ 31) →
    (∀ fs' p' T J M', rdFs b lim m fs p = .inr (fs', p') → fr [408, 421, 422, 423, 424] S T → gf [21] I J → mR T J st li b w p' lim → mTa T M' → mFs M' s fs' → mag M M' s → wp X (d + 4) 117 193 [some (.ref 408), some (.int (nI s)), x2, some (.long z3), none, some (.int z5), some (.int z6), some (.int (nI n)), some (.int (nI n))] [] T Q) →
    (∀ k pl T J M', rdFs b lim m fs p = .inl (k, pl) → fr [408, 421, 422, 423, 424] S T → gf [21, 25, 26] I J → mX T J st li k pl → mTa T M' → (∃ q, J 21 = nI q) → mag M M' s → Q (.inl none, T)) → wp X (d + 4) 117 168 [some (.ref 408), some (.int (nI s)), x2, some (.long z3), none, some (.int z5), some (.int z6), some (.int (nI n)), some (.int (nI i))] [] S Q := by
  intro m
  induction m with
  | zero =>
    intro i fs p S I M hi hfl h hM hF hfb hret hbad
    have e9 : i = n := by omega
    subst e9
    iterate 2 refine wp_step rfl rfl ?_
    refine wp_icmp rfl (fun c0 => ?_) (fun c0 => ?_)
    · replace c0 := n_ge_t (a := i) (b := i) (by omega) (by omega) c0
      exact hret fs p S I M rfl (fr_refl _ _) (gf_refl _ _) h hM hF (mag_refl _ _)
    · replace c0 := n_ge_f (a := i) (b := i) (by omega) (by omega) c0
      omega
  | succ m ih =>
    intro i fs p S I M hi hfl h hM hF hfb hret hbad
    iterate 2 refine wp_step rfl rfl ?_
    refine wp_icmp rfl (fun c0 => ?_) (fun c0 => ?_)
    · replace c0 := n_ge_t (a := i) (b := n) (by omega) (by omega) c0
      omega
    · replace c0 := n_ge_f (a := i) (b := n) (by omega) (by omega) c0
      refine wp_step rfl rfl ?_
      refine wp_getg (v := (.int 0)) rfl h.1 (by decide) (congrArg Value.int h.2.2.2.2.2.1) ?_
      refine wp_if_f rfl rfl ?_
      iterate 2 refine wp_step rfl rfl ?_
      refine wp_c0 rfl rfl (by decide) rfl (recv_ok h.1 rfl) rfl (q_mfieldTold hb h hM hF hs (by omega) hfb (fun y p1 T J M1 e1 hf1 hg1 h1 hM1 hF1 ha1 => ?_) (fun k pl T J e1 hf1 hg1 h1 hq1 => ?_))
      · iterate 2 refine wp_step rfl rfl ?_
        rw [show nI i + Int32.ofInt 1 = nI (i + 1) from nI_add i 1]
        refine ih (i + 1) (fs ++ [y]) p1 T J M1 (by omega) (by rw [List.length_append]; simp; omega) h1 hM1 hF1 (fun j z hz => ?_) (fun fs2 p2 T2 J2 M2 e2 hf2 hg2 h2 hM2 hF2 ha2 => ?_) (fun k pl T2 J2 M2 e2 hf2 hg2 h2 hM2 hq2 ha2 => ?_)
        · rcases at_app hz with ⟨g1, g2⟩ | ⟨g1, g2⟩
          · exact hfb j z g2
          · subst g2; exact rdF1_nm hb e1
        · exact hret fs2 p2 T2 J2 M2 (by unfold rdFs; rw [e1]; exact e2) (fr_trans hf1 hf2) (gf_trans hg1 hg2) h2 hM2 hF2 (mag_trans ha1 ha2)
        · exact hbad k pl T2 J2 M2 (by unfold rdFs; rw [e1]; exact e2) (fr_trans hf1 hf2) (gf_trans (gf_mono hg1 (fun j hj => by simp only [List.mem_cons, List.not_mem_nil, or_false] at hj ⊢; omega)) hg2) h2 hM2 hq2 (mag_trans ha1 ha2)
      · iterate 2 refine wp_step rfl rfl ?_
        rw [show nI i + Int32.ofInt 1 = nI (i + 1) from nI_add i 1]
        iterate 2 refine wp_step rfl rfl ?_
        refine wp_icmp rfl (fun c1 => ?_) (fun c1 => ?_)
        · exact tt_193 h1 (hbad k pl T J M (by unfold rdFs; rw [e1]) (fr_mono hf1 (fun j hj => by simp only [List.mem_cons, List.not_mem_nil, or_false] at hj ⊢; omega)) hg1 h1 (mTa_fr hM hf1 (fun j hj => by simp only [List.mem_cons, List.not_mem_nil, or_false] at hj; omega)) hq1 (mag_refl _ _))
        · refine wp_step rfl rfl ?_
          refine wp_getg (v := (.int k)) rfl h1.1 (by decide) (congrArg Value.int h1.2.1) ?_
          refine wp_if_t rfl (c1_ne0 h1.2.2.1) ?_
          exact tt_193 h1 (hbad k pl T J M (by unfold rdFs; rw [e1]) (fr_mono hf1 (fun j hj => by simp only [List.mem_cons, List.not_mem_nil, or_false] at hj ⊢; omega)) hg1 h1 (mTa_fr hM hf1 (fun j hj => by simp only [List.mem_cons, List.not_mem_nil, or_false] at hj; omega)) hq1 (mag_refl _ _))
end MTELL2
