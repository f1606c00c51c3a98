/-! THE MODEL: comparison -/
/-- what the filter is, if its letters behind k are read from state s -/
def frF (cs : List Nat) (k : Nat) (s : jF) : Nat ⊕ (Nat × List jC) := match frun (cs.drop k) k s with
  | .inl j => .inl j
  | .inr s' => if s'.1 = 0 ∨ s'.1 = 2 ∨ s'.1 = 7 then .inr (s'.2.1, s'.2.2.1.reverse) else .inl cs.length
theorem frF_end {cs : List Nat} {k : Nat} {s : jF} (h : cs.length ≤ k) : frF cs k s = if s.1 = 0 ∨ s.1 = 2 ∨ s.1 = 7 then .inr (s.2.1, s.2.2.1.reverse) else .inl cs.length := by
  unfold frF
  rw [List.drop_eq_nil_of_le h]
  rfl
theorem frF_cons {cs : List Nat} {k c : Nat} (h : cs[k]? = some c) : cs.drop k = c :: cs.drop (k + 1) := by
  obtain ⟨h1, h2⟩ := List.getElem?_eq_some_iff.mp h
  rw [List.drop_eq_getElem_cons h1, h2]
theorem frF_bad {cs : List Nat} {k c : Nat} {s : jF} (h : cs[k]? = some c) (h9 : (fst1 s c).1 = 9) : frF cs k s = .inl k := by
  unfold frF
  rw [frF_cons h]
  unfold frun
  rw [if_pos h9]
theorem frF_go {cs : List Nat} {k c : Nat} {s : jF} (h : cs[k]? = some c) (h9 : (fst1 s c).1 ≠ 9) : frF cs k s = frF cs (k + 1) (fst1 s c) := by
  unfold frF
  rw [frF_cons h]
  conv => lhs; unfold frun
  rw [if_neg h9]
theorem ltr_at {cs : List Nat} {k : Nat} (h : k < cs.length) : cs[k]? = some (ltr cs k) := by
  unfold ltr
  rw [List.getElem?_eq_getElem h]
theorem ltr_ne {cs : List Nat} {k : Nat} (h : ltr cs k ≠ 0) : k < cs.length ∧ cs[k]? = some (ltr cs k) := by
  by_cases c : k < cs.length
  · exact ⟨c, ltr_at c⟩
  · exfalso
    apply h
    unfold ltr
    rw [List.getElem?_eq_none (by omega)]
theorem ltr_lt {cs : List Nat} {k : Nat} (h : ∀ c, c ∈ cs → 32 ≤ c ∧ c ≤ 126) : ltr cs k < 127 := by
  unfold ltr
  cases e : cs[k]? with
  | none => dsimp only; omega
  | some x => have := h x (List.mem_of_getElem? e); dsimp only; omega
/-- the model holds the letters, and the comparisons (the last first) -/
def cmS (S : am_S) (I : Nat → Int32) (st li : Int64) (cs : List Nat) (P : jFA) (cm : List jC) : Prop := am_get S 408 = some (moC I st li) ∧ I 38 = nI cs.length ∧ cs.length ≤ 40 ∧ (∃ ty, am_get S 428 = some (iA 40 ty) ∧ mFD ty cs) ∧ (∀ c, c ∈ cs → 32 ≤ c ∧ c ≤ 126) ∧ am_get S 429 = some (iA 12 P.1) ∧ am_get S 430 = some (iA 12 P.2.1) ∧ am_get S 431 = some (lA 12 P.2.2) ∧ flD P cm ∧ I 41 = nI cm.length
theorem c1_ge_m {k : Nat} (hk : k < 2 ^ 31 - 1) : am_c1 .ge (Int32.ofInt (-1) - nI k) = false := by
  show decide (0 ≤ Int32.ofInt (-1) - nI k) = false
  apply decide_eq_false
  intro h
  rw [Int32.le_iff_toInt_le, Int32.toInt_sub, nI_toInt (by omega), show (Int32.ofInt (-1)).toInt = -1 from by decide, show (0 : Int32).toInt = 0 from rfl] at h
  rw [Int.bmod_eq_of_le (by omega) (by omega)] at h
  omega
theorem m_m (k : Nat) : Int32.ofInt (-1) - (Int32.ofInt (-1) - nI k) = nI k := by
  generalize Int32.ofInt (-1) = x
  generalize nI k = y
  grind
theorem fs_0 (t : Nat × List jC × Int32 × Nat × Nat × Bool) (c : Nat) : fst1 (0, t) c = if 65 ≤ c ∧ c ≤ 90 then (1, c, t.2) else tkStep (0, t) c := rfl
theorem fs_1 (t : Nat × List jC × Int32 × Nat × Nat × Bool) (c : Nat) : fst1 (1, t) c = if c = 58 then (2, t) else (9, t) := rfl
theorem fs_2 (t : Nat × List jC × Int32 × Nat × Nat × Bool) (c : Nat) : fst1 (2, t) c = tkStep (2, t) c := rfl
theorem fs_3 (t : Nat × List jC × Int32 × Nat × Nat × Bool) (c : Nat) : fst1 (3, t) c = if c = 46 then (if t.2.2.2.1 < 4 then (4, t) else (9, t)) else tkSign (3, t) c := rfl
theorem fs_4 (t : Nat × List jC × Int32 × Nat × Nat × Bool) (c : Nat) : fst1 (4, t) c = tkStep (4, t) c := rfl
theorem fs_5 (t : Nat × List jC × Int32 × Nat × Nat × Bool) (c : Nat) : fst1 (5, t) c = if c = 45 then (6, t.1, t.2.1, t.2.2.1, t.2.2.2.1, t.2.2.2.2.1, true) else tkDigit (5, t) c := rfl
theorem fs_6 (t : Nat × List jC × Int32 × Nat × Nat × Bool) (c : Nat) : fst1 (6, t) c = tkDigit (6, t) c := rfl
theorem fs_7 (t : Nat × List jC × Int32 × Nat × Nat × Bool) (c : Nat) : fst1 (7, t) c = if c = 38 then (8, t) else tkDigit (7, t) c := rfl
theorem fs_8 (t : Nat × List jC × Int32 × Nat × Nat × Bool) (c : Nat) : fst1 (8, t) c = tkStep (8, t) c := rfl
section MCOMPARE
variable {X : Nat × (Nat → Int32)} {d : Nat} {Q : am_R → Prop} {st li : Int64} {cs : List Nat}
theorem q_clt {S : am_S} {I : Nat → Int32} {P : jFA} {cm : List jC} {k : Nat} (h : cmS S I st li cs P cm) (hk : k < 2 ^ 31) (hq : Q (.inl (some (.int (nI (ltr cs k)))), S)) : ev X (d + 1) 144 [.ref 408, .int (nI k)] S Q := by
  obtain ⟨ty, h1, h2⟩ := h.2.2.2.1
  exact q_mletterAt h.1 h.2.1 h.2.2.1 h1 h2 hk hq
set_option maxHeartbeats 1000000 in
theorem cp_196 {S : am_S} {I : Nat → Int32} {P : jFA} {cm : List jC} {k dg op : Nat} {p z1 z3 z5 : Int32} {v : Int64} {ng : Bool} (h : cmS S I st li cs P cm) (hcm : cm.length ≤ 10) (hdg : dg ≤ 9) (hbad : dg = 0 → Q (.inl (some (.int (Int32.ofInt (-1) - nI k))), S)) (hgood : dg ≠ 0 → ∀ T J P', fr [408, 429, 430, 431] S T → gf [41] I J → cmS T J st li cs P' ((p, op, (if ng = true then - v else v)) :: cm) → Q (.inl (some (.int (nI k))), T)) : wp X d 149 196 [some (.ref 408), some (.int z1), some (.int (nI k)), some (.int (z3)), some (.int (p)), some (.int (z5)), some (.int (nI op)), some (.int (bI ng)), some (.long v), none, some (.int (nI dg))] [] S Q := by
  refine wp_step rfl rfl ?_
  refine wp_if rfl (fun c0 => ?_) (fun c0 => ?_)
  · replace c0 := z_ne_t (a := dg) (by omega) c0
    obtain ⟨h0, h38, h40, ⟨ty, ht, hty⟩, hcs, h42, h43, h44, hfl, h41⟩ := id h
    refine wp_step rfl rfl ?_
    refine wp_getg rfl h0 (by decide) rfl ?_
    refine wp_step rfl rfl ?_
    refine wp_getg (v := (.int (nI cm.length))) rfl h0 (by decide) (congrArg Value.int h41) ?_
    refine wp_step rfl rfl ?_
    refine wp_ast rfl (Or.inl ⟨rfl, rfl⟩) h42 (am_in_nI (by omega) (by decide)) ?_
    rw [nI_clamp (by omega)]
    have g0 : am_get (am_upd S 429 (iA 12 (upd P.1 cm.length (vp_nar (am_ty 0) p)))) 408 = some (moC I st li) := (am_get_ne (by decide)).trans h0
    have g29 : am_get (am_upd S 429 (iA 12 (upd P.1 cm.length (vp_nar (am_ty 0) p)))) 429 = some (iA 12 (upd P.1 cm.length p)) := am_get_self h42
    have g30 : am_get (am_upd S 429 (iA 12 (upd P.1 cm.length (vp_nar (am_ty 0) p)))) 430 = some (iA 12 P.2.1) := (am_get_ne (by decide)).trans h43
    have g31 : am_get (am_upd S 429 (iA 12 (upd P.1 cm.length (vp_nar (am_ty 0) p)))) 431 = some (lA 12 P.2.2) := (am_get_ne (by decide)).trans h44
    have gf1 : fr [408, 429, 430, 431] S (am_upd S 429 (iA 12 (upd P.1 cm.length (vp_nar (am_ty 0) p)))) := fr_up (by simp)
    generalize am_upd S 429 (iA 12 (upd P.1 cm.length (vp_nar (am_ty 0) p))) = S1 at g0 g29 g30 g31 gf1 ⊢
    refine wp_step rfl rfl ?_
    refine wp_getg rfl g0 (by decide) rfl ?_
    refine wp_step rfl rfl ?_
    refine wp_getg (v := (.int (nI cm.length))) rfl g0 (by decide) (congrArg Value.int h41) ?_
    refine wp_step rfl rfl ?_
    refine wp_ast rfl (Or.inl ⟨rfl, rfl⟩) g30 (am_in_nI (by omega) (by decide)) ?_
    rw [nI_clamp (by omega)]
    have k0 : am_get (am_upd S1 430 (iA 12 (upd P.2.1 cm.length (vp_nar (am_ty 0) (nI op))))) 408 = some (moC I st li) := (am_get_ne (by decide)).trans g0
    have k29 : am_get (am_upd S1 430 (iA 12 (upd P.2.1 cm.length (vp_nar (am_ty 0) (nI op))))) 429 = some (iA 12 (upd P.1 cm.length p)) := (am_get_ne (by decide)).trans g29
    have k30 : am_get (am_upd S1 430 (iA 12 (upd P.2.1 cm.length (vp_nar (am_ty 0) (nI op))))) 430 = some (iA 12 (upd P.2.1 cm.length (nI op))) := am_get_self g30
    have k31 : am_get (am_upd S1 430 (iA 12 (upd P.2.1 cm.length (vp_nar (am_ty 0) (nI op))))) 431 = some (lA 12 P.2.2) := (am_get_ne (by decide)).trans g31
    have gf2 : fr [408, 429, 430, 431] S (am_upd S1 430 (iA 12 (upd P.2.1 cm.length (vp_nar (am_ty 0) (nI op))))) := fr_trans gf1 (fr_up (by simp))
    generalize am_upd S1 430 (iA 12 (upd P.2.1 cm.length (vp_nar (am_ty 0) (nI op)))) = S2 at k0 k29 k30 k31 gf2 ⊢
    clear g0 g29 g30 g31
    refine wp_step rfl rfl ?_
    refine wp_getg rfl k0 (by decide) rfl ?_
    refine wp_step rfl rfl ?_
    refine wp_getg (v := (.int (nI cm.length))) rfl k0 (by decide) (congrArg Value.int h41) ?_
    refine wp_step rfl rfl ?_
    have fin : wp X d 149 248 [some (.ref 408), some (.int z1), some (.int (nI k)), some (.int (z3)), some (.int (p)), some (.int (z5)), some (.int (nI op)), some (.int (bI ng)), some (.long v), none, some (.int (nI dg))] [.long (if ng = true then - v else v), .int (nI cm.length), .ref 431] S2 Q := by
      refine wp_last rfl k31 (am_in_nI (by omega) (by decide)) ?_
      rw [nI_clamp (by omega)]
      have m0 : am_get (am_upd S2 431 (lA 12 (vp_updL P.2.2 cm.length (if ng = true then - v else v)))) 408 = some (moC I st li) := (am_get_ne (by decide)).trans k0
      have m29 : am_get (am_upd S2 431 (lA 12 (vp_updL P.2.2 cm.length (if ng = true then - v else v)))) 429 = some (iA 12 (upd P.1 cm.length p)) := (am_get_ne (by decide)).trans k29
      have m30 : am_get (am_upd S2 431 (lA 12 (vp_updL P.2.2 cm.length (if ng = true then - v else v)))) 430 = some (iA 12 (upd P.2.1 cm.length (nI op))) := (am_get_ne (by decide)).trans k30
      have m31 : am_get (am_upd S2 431 (lA 12 (vp_updL P.2.2 cm.length (if ng = true then - v else v)))) 431 = some (lA 12 (vp_updL P.2.2 cm.length (if ng = true then - v else v))) := am_get_self k31
      have gf3 : fr [408, 429, 430, 431] S (am_upd S2 431 (lA 12 (vp_updL P.2.2 cm.length (if ng = true then - v else v)))) := fr_trans gf2 (fr_up (by simp))
      generalize am_upd S2 431 (lA 12 (vp_updL P.2.2 cm.length (if ng = true then - v else v))) = S3 at m0 m29 m30 m31 gf3 ⊢
      clear k0 k29 k30 k31
      iterate 2 refine wp_step rfl rfl ?_
      refine wp_getg (v := (.int (nI cm.length))) rfl m0 (by decide) (congrArg Value.int h41) ?_
      iterate 2 refine wp_step rfl rfl ?_
      rw [show nI cm.length + Int32.ofInt 1 = nI (cm.length + 1) from nI_add cm.length 1]
      refine wp_putg rfl m0 (by decide) rfl rfl ?_
      rw [mkG_i rfl]
      have h_Sx1 : am_get (am_upd S3 408 (moC (upd I 41 (nI (cm.length + 1))) st li)) 408 = some (moC (upd I 41 (nI (cm.length + 1))) st li) := am_get_self m0
      have hf_Sx1 : fr [408] S3 (am_upd S3 408 (moC (upd I 41 (nI (cm.length + 1))) st li)) := fr_up (by simp)
      generalize am_upd S3 408 (moC (upd I 41 (nI (cm.length + 1))) st li) = Sx1 at h_Sx1 hf_Sx1 ⊢
      refine wp_step rfl rfl ?_
      have hg_J : gf [41] I (upd I 41 (nI (cm.length + 1))) := gf_up (gf_refl _ _) (by simp)
      have J_41 : (upd I 41 (nI (cm.length + 1))) 41 = nI (cm.length + 1) := pk_us
      have a_J := h_Sx1
      have hf_J := hf_Sx1
      clear h_Sx1 hf_Sx1
      generalize upd I 41 (nI (cm.length + 1)) = J at a_J hg_J J_41
      refine wp_iret rfl rfl rfl (hgood c0 Sx1 J (upd P.1 cm.length p, upd P.2.1 cm.length (nI op), vp_updL P.2.2 cm.length (if ng = true then - v else v)) (fr_trans gf3 (fr_mono hf_J (fun j hj => by simp only [List.mem_cons, List.not_mem_nil, or_false] at hj ⊢; omega))) hg_J ?_)
      refine ⟨a_J, (hg_J 38 (by decide)).trans h38, h40, ⟨ty, ?_, hty⟩, hcs, ?_, ?_, ?_, ⟨pk_us, pk_us, pk_uLs, flD_agr hfl (fun i hi => ⟨pk_un (by omega), pk_un (by omega), pk_uLn (by omega)⟩)⟩, J_41⟩
      · rw [fr_get (fr_trans gf3 (fr_mono hf_J (fun j hj => by simp only [List.mem_cons, List.not_mem_nil, or_false] at hj ⊢; omega))) (by decide)]; exact ht
      · rw [fr_get hf_J (by decide)]; exact m29
      · rw [fr_get hf_J (by decide)]; exact m30
      · rw [fr_get hf_J (by decide)]; exact m31
    cases ng with
    | false =>
      show wp X d 149 237 [some (.ref 408), some (.int z1), some (.int (nI k)), some (.int (z3)), some (.int (p)), some (.int (z5)), some (.int (nI op)), some (.int (bI false)), some (.long v), none, some (.int (nI dg))] [.int 0, .int (nI cm.length), .ref 431] S2 Q
      refine wp_if_t rfl rfl ?_
      refine wp_step rfl rfl ?_
      exact fin
    | true =>
      show wp X d 149 237 [some (.ref 408), some (.int z1), some (.int (nI k)), some (.int (z3)), some (.int (p)), some (.int (z5)), some (.int (nI op)), some (.int (bI true)), some (.long v), none, some (.int (nI dg))] [.int 1, .int (nI cm.length), .ref 431] S2 Q
      refine wp_if_f rfl rfl ?_
      iterate 3 refine wp_step rfl rfl ?_
      exact fin
  · replace c0 := z_ne_f (a := dg) (by omega) c0
    iterate 3 refine wp_step rfl rfl ?_
    refine wp_iret rfl rfl rfl (hbad c0)
theorem dg_val (v : Int64) (c : Nat) (ng : Bool) (h1 : 48 ≤ c) (h2 : c < 127) : (if ng = true then - (Int64.ofInt 10 * v + lN c - Int64.ofInt 48) else (Int64.ofInt 10 * v + lN c - Int64.ofInt 48)) = (if ng = true then - v else v) * 10 + dgV c ng := by
  have e : lN c = lN (c - 48) + Int64.ofInt 48 := by
    rw [show Int64.ofInt 48 = lN 48 from rfl]
    show Int64.ofNat c = Int64.ofNat (c - 48) + Int64.ofNat 48
    rw [← Int64.ofNat_add]
    congr 1
    omega
  unfold dgV
  cases ng with
  | false =>
    rw [if_neg (by decide), if_neg (by decide), if_neg (by decide), nI_l (by omega), e]
    generalize lN (c - 48) = y
    rw [show Int64.ofInt 10 = (10 : Int64) from rfl]
    grind
  | true =>
    rw [if_pos rfl, if_pos rfl, if_pos rfl, e]
    have e2 : (- nI (c - 48)).toInt64 = - lN (c - 48) := by
      rw [← nI_l (by omega)]
      apply Int64.toInt_inj.mp
      rw [Int32.toInt_toInt64, Int64.toInt_neg, Int32.toInt_toInt64, Int32.toInt_neg, nI_toInt (by omega)]
      rw [Int.bmod_eq_of_le (by omega) (by omega), Int.bmod_eq_of_le (by omega) (by omega)]
    rw [e2]
    generalize lN (c - 48) = y
    rw [show Int64.ofInt 10 = (10 : Int64) from rfl]
    grind
set_option maxHeartbeats 1000000 in
theorem cp_dig0 {S : am_S} {I : Nat → Int32} {P : jFA} {cm : List jC} {op nm dg k q : Nat} {p z1 z3 z5 : Int32} {v : Int64} {ng : Bool} {R : Nat ⊕ (Nat × List jC)} (h : cmS S I st li cs P cm) (hcm : cm.length ≤ 10) (hdm : dg = 9) (hR : frF cs k (q, nm, (p, op, (if ng = true then - v else v)) :: cm, 0, 0, dg, ng) = R) (hq57 : 5 ≤ q ∧ q ≤ 7) (hq7 : q = 7 ↔ dg ≠ 0) (h5 : q = 5 → ltr cs k ≠ 45) (hkl : k ≤ cs.length) (hbad : (∀ k', R = .inl k' → k' ≤ cs.length → Q (.inl (some (.int (Int32.ofInt (-1) - nI k'))), S))) (hgood : (∀ k' x s' T J P', frF cs k' s' = R → s'.1 = 7 → s'.2.1 = nm → s'.2.2.1 = x :: cm → s'.2.2.2.1 = 0 → s'.2.2.2.2.1 = 0 → (∀ c, cs[k']? = some c → c ≠ 38 → (fst1 s' c).1 = 9) → (k ≤ k' ∧ (dg = 0 → k < k')) → k' ≤ cs.length → fr [408, 429, 430, 431] S T → gf [41] I J → cmS T J st li cs P' (x :: cm) → Q (.inl (some (.int (nI k'))), T))) : wp X (d + 2) 149 150 [some (.ref 408), some (.int z1), some (.int (nI k)), some (.int (z3)), some (.int (p)), some (.int (z5)), some (.int (nI op)), some (.int (bI ng)), some (.long v), none, some (.int (nI dg))] [] S Q := by
  iterate 2 refine wp_step rfl rfl ?_
  refine wp_icmp rfl (fun c0 => ?_) (fun c0 => ?_)
  · replace c0 := n_ge_t (a := dg) (b := 9) (by omega) (by omega) c0
    have hstop : ∀ c, cs[k]? = some c → (q = 7 → c ≠ 38) → (fst1 (q, nm, (p, op, (if ng = true then - v else v)) :: cm, 0, 0, dg, ng) c).1 = 9 := by
      intro c hc9 h38
      have hq7 : q = 7 := by omega
      subst hq7
      rw [fs_7, if_neg (h38 rfl)]
      unfold tkDigit
      dsimp only
      rw [if_neg (fun h9 => h9.2 (by omega))]
    refine cp_196 h hcm (by omega) (fun hd0 => ?_) (fun hd0 T J P' hf hg hc => ?_)
    · exact hbad k (by
        rw [← hR]
        by_cases hk : k < cs.length
        · exact frF_bad (ltr_at hk) (hstop (ltr cs k) (ltr_at hk) (fun h9 => by omega))
        · rw [frF_end (by omega), if_neg (by dsimp only; omega)]
          congr 1
          omega) hkl
    · exact hgood k (p, op, (if ng = true then - v else v)) (q, nm, (p, op, (if ng = true then - v else v)) :: cm, 0, 0, dg, ng) T J P' hR (by dsimp only; omega) rfl rfl rfl rfl (fun c hc9 h38 => hstop c hc9 (fun _ => h38)) ⟨Nat.le_refl _, fun h9 => absurd h9 hd0⟩ hkl hf hg hc
  · replace c0 := n_ge_f (a := dg) (b := 9) (by omega) (by omega) c0
    omega
set_option maxHeartbeats 1000000 in
theorem cp_dig {S : am_S} {I : Nat → Int32} {P : jFA} {cm : List jC} {op nm : Nat} {p z1 z3 z5 : Int32} {ng : Bool} {R : Nat ⊕ (Nat × List jC)} (h : cmS S I st li cs P cm) (hcm : cm.length ≤ 10) : ∀ (m : Nat), ∀ (dg k q : Nat) (v : Int64), dg + m = 9 → frF cs k (q, nm, (p, op, (if ng = true then - v else v)) :: cm, 0, 0, dg, ng) = R → (5 ≤ q ∧ q ≤ 7) → (q = 7 ↔ dg ≠ 0) → (q = 5 → ltr cs k ≠ 45) → k ≤ cs.length → (∀ k', R = .inl k' → k' ≤ cs.length → Q (.inl (some (.int (Int32.ofInt (-1) - nI k'))), S)) → (∀ k' x s' T J P', frF cs k' s' = R → s'.1 = 7 → s'.2.1 = nm → s'.2.2.1 = x :: cm → s'.2.2.2.1 = 0 → s'.2.2.2.2.1 = 0 → (∀ c, cs[k']? = some c → c ≠ 38 → (fst1 s' c).1 = 9) → (k ≤ k' ∧ (dg = 0 → k < k')) → k' ≤ cs.length → fr [408, 429, 430, 431] S T → gf [41] I J → cmS T J st li cs P' (x :: cm) → Q (.inl (some (.int (nI k'))), T)) → wp X (d + 2) 149 150 [some (.ref 408), some (.int z1), some (.int (nI k)), some (.int (z3)), some (.int (p)), some (.int (z5)), some (.int (nI op)), some (.int (bI ng)), some (.long v), none, some (.int (nI dg))] [] S Q := by
  intro m
  induction m with
  | zero =>
    intro dg k q v hdm hR hq57 hq7 h5 hkl hbad hgood
    exact cp_dig0 h hcm (by omega) hR hq57 hq7 h5 hkl hbad hgood
  | succ m ih =>
    intro dg k q v hdm hR hq57 hq7 h5 hkl hbad hgood
    iterate 2 refine wp_step rfl rfl ?_
    refine wp_icmp rfl (fun c0 => ?_) (fun c0 => ?_)
    · replace c0 := n_ge_t (a := dg) (b := 9) (by omega) (by omega) c0
      have hstop : ∀ c, cs[k]? = some c → (q = 7 → c ≠ 38) → (fst1 (q, nm, (p, op, (if ng = true then - v else v)) :: cm, 0, 0, dg, ng) c).1 = 9 := by
        intro c hc9 h38
        have hq7 : q = 7 := by omega
        subst hq7
        rw [fs_7, if_neg (h38 rfl)]
        unfold tkDigit
        dsimp only
        rw [if_neg (fun h9 => h9.2 (by omega))]
      refine cp_196 h hcm (by omega) (fun hd0 => ?_) (fun hd0 T J P' hf hg hc => ?_)
      · exact hbad k (by
          rw [← hR]
          by_cases hk : k < cs.length
          · exact frF_bad (ltr_at hk) (hstop (ltr cs k) (ltr_at hk) (fun h9 => by omega))
          · rw [frF_end (by omega), if_neg (by dsimp only; omega)]
            congr 1
            omega) hkl
      · exact hgood k (p, op, (if ng = true then - v else v)) (q, nm, (p, op, (if ng = true then - v else v)) :: cm, 0, 0, dg, ng) T J P' hR (by dsimp only; omega) rfl rfl rfl rfl (fun c hc9 h38 => hstop c hc9 (fun _ => h38)) ⟨Nat.le_refl _, fun h9 => absurd h9 hd0⟩ hkl hf hg hc
    · replace c0 := n_ge_f (a := dg) (b := 9) (by omega) (by omega) c0
      have hl9 : ltr cs k < 127 := ltr_lt h.2.2.2.2.1
      iterate 2 refine wp_step rfl rfl ?_
      refine wp_c0 rfl rfl (by decide) rfl (recv_ok h.1 rfl) rfl (q_clt h (by have := h.2.2.1; omega) ?_)
      refine wp_c0 rfl rfl (by decide) rfl (rfl) rfl (q_misDigit (by omega) ?_)
      cases em : mdg (ltr cs k) with
      | false =>
        show wp X (d + 2) 149 165 [some (.ref 408), some (.int z1), some (.int (nI k)), some (.int (z3)), some (.int (p)), some (.int (z5)), some (.int (nI op)), some (.int (bI ng)), some (.long v), none, some (.int (nI dg))] [.int 0] S Q
        refine wp_if_t rfl rfl ?_
        have hnd : ¬ (48 ≤ ltr cs k ∧ ltr cs k ≤ 57) := of_decide_eq_false em
        have hstop : ∀ c, cs[k]? = some c → (q = 7 → c ≠ 38) → (fst1 (q, nm, (p, op, (if ng = true then - v else v)) :: cm, 0, 0, dg, ng) c).1 = 9 := by
          intro c hc9 h38
          have hce : ltr cs k = c := by unfold ltr; rw [hc9]
          have hdk : (tkDigit (q, nm, (p, op, (if ng = true then - v else v)) :: cm, 0, 0, dg, ng) c).1 = 9 := by
            unfold tkDigit
            dsimp only
            rw [if_neg (fun h9 => hnd (by rw [hce]; exact of_decide_eq_true h9.1))]
          have hqs : q = 5 ∨ q = 6 ∨ q = 7 := by omega
          rcases hqs with rfl | rfl | rfl
          · rw [fs_5, if_neg (fun h9 => h5 rfl (by rw [hce]; exact h9))]
            exact hdk
          · rw [fs_6]
            exact hdk
          · rw [fs_7, if_neg (h38 rfl)]
            exact hdk
        refine cp_196 h hcm (by omega) (fun hd0 => ?_) (fun hd0 T J P' hf hg hc => ?_)
        · exact hbad k (by
            rw [← hR]
            by_cases hk : k < cs.length
            · exact frF_bad (ltr_at hk) (hstop (ltr cs k) (ltr_at hk) (fun h9 => by omega))
            · rw [frF_end (by omega), if_neg (by dsimp only; omega)]
              congr 1
              omega) hkl
        · exact hgood k (p, op, (if ng = true then - v else v)) (q, nm, (p, op, (if ng = true then - v else v)) :: cm, 0, 0, dg, ng) T J P' hR (by dsimp only; omega) rfl rfl rfl rfl (fun c hc9 h38 => hstop c hc9 (fun _ => h38)) ⟨Nat.le_refl _, fun h9 => absurd h9 hd0⟩ hkl hf hg hc
      | true =>
        show wp X (d + 2) 149 165 [some (.ref 408), some (.int z1), some (.int (nI k)), some (.int (z3)), some (.int (p)), some (.int (z5)), some (.int (nI op)), some (.int (bI ng)), some (.long v), none, some (.int (nI dg))] [.int 1] S Q
        refine wp_if_f rfl rfl ?_
        have hfs : fst1 (q, nm, (p, op, (if ng = true then - v else v)) :: cm, 0, 0, dg, ng) (ltr cs k) = (7, nm, (p, op, (if ng = true then - v else v) * 10 + dgV (ltr cs k) ng) :: cm, 0, 0, dg + 1, ng) := by
          have hdk : tkDigit (q, nm, (p, op, (if ng = true then - v else v)) :: cm, 0, 0, dg, ng) (ltr cs k) = (7, nm, (p, op, (if ng = true then - v else v) * 10 + dgV (ltr cs k) ng) :: cm, 0, 0, dg + 1, ng) := by
            unfold tkDigit
            dsimp only
            rw [if_pos ⟨em, by omega⟩]
          have hqs : q = 5 ∨ q = 6 ∨ q = 7 := by omega
          have hn : 48 ≤ ltr cs k ∧ ltr cs k ≤ 57 := of_decide_eq_true em
          rcases hqs with rfl | rfl | rfl
          · rw [fs_5, if_neg (by omega)]
            exact hdk
          · rw [fs_6]
            exact hdk
          · rw [fs_7, if_neg (by omega)]
            exact hdk
        have hnd : 48 ≤ ltr cs k ∧ ltr cs k ≤ 57 := of_decide_eq_true em
        obtain ⟨hkl9, hat⟩ := ltr_ne (show ltr cs k ≠ 0 by omega)
        iterate 5 refine wp_step rfl rfl ?_
        refine wp_c0 rfl rfl (by decide) rfl (recv_ok h.1 rfl) rfl (q_clt h (by have := h.2.2.1; omega) ?_)
        iterate 4 refine wp_step rfl rfl ?_
        rw [nI_l (by omega)]
        iterate 4 refine wp_step rfl rfl ?_
        rw [show nI dg + Int32.ofInt 1 = nI (dg + 1) from nI_add dg 1, show nI k + Int32.ofInt 1 = nI (k + 1) from nI_add k 1]
        have hv2 : (if ng = true then - (Int64.ofInt 10 * v + lN (ltr cs k) - Int64.ofInt 48) else (Int64.ofInt 10 * v + lN (ltr cs k) - Int64.ofInt 48)) = (if ng = true then - v else v) * 10 + dgV (ltr cs k) ng := dg_val v (ltr cs k) ng hnd.1 (by omega)
        generalize Int64.ofInt 10 * v + lN (ltr cs k) - Int64.ofInt 48 = v2 at hv2 ⊢
        have hgo : frF cs (k + 1) (7, nm, (p, op, if ng = true then - v2 else v2) :: cm, 0, 0, dg + 1, ng) = R := by
          rw [← hR, frF_go hat (s := (q, nm, (p, op, (if ng = true then - v else v)) :: cm, 0, 0, dg, ng)) ?_]
          · rw [hv2, hfs]
          · rw [hfs]; show (7 : Nat) ≠ 9; decide
        exact ih (dg + 1) (k + 1) 7 v2 (by omega) hgo (by omega) (by omega) (fun h9 => absurd h9 (by decide)) (by omega) hbad (fun k' x s' T J P' a1 a2 a3 a4 a5 a6 a7 a8 a9 a10 a11 a12 => hgood k' x s' T J P' a1 a2 a3 a4 a5 a6 a7 ⟨by have := a8.1; omega, fun _ => by have := a8.1; omega⟩ a9 a10 a11 a12)
set_option maxHeartbeats 1000000 in
theorem cp_89 {S : am_S} {I : Nat → Int32} {P : jFA} {cm : List jC} {nm k steps dg0 : Nat} {p z1 z5 : Int32} {ng0 : Bool} {R : Nat ⊕ (Nat × List jC)} (h : cmS S I st li cs P cm) (hcm : cm.length ≤ 10) (hR : frF cs k (3, nm, cm, p, steps, dg0, ng0) = R) (hst : ltr cs k = 46 → 4 ≤ steps) (hkl : k ≤ cs.length) (hbad : (∀ k', R = .inl k' → k' ≤ cs.length → Q (.inl (some (.int (Int32.ofInt (-1) - nI k'))), S))) (hgood : (∀ k' x s' T J P', frF cs k' s' = R → s'.1 = 7 → s'.2.1 = nm → s'.2.2.1 = x :: cm → s'.2.2.2.1 = 0 → s'.2.2.2.2.1 = 0 → (∀ c, cs[k']? = some c → c ≠ 38 → (fst1 s' c).1 = 9) → k + 1 < k' → k' ≤ cs.length → fr [408, 429, 430, 431] S T → gf [41] I J → cmS T J st li cs P' (x :: cm) → Q (.inl (some (.int (nI k'))), T))) : wp X (d + 2) 149 89 [some (.ref 408), some (.int z1), some (.int (nI k)), some (.int (nI steps)), some (.int (p)), some (.int (z5)), none, none, none, none, none] [] S Q := by
  have hl9 : ltr cs k < 127 := ltr_lt h.2.2.2.2.1
  have hl40 := h.2.2.1
  iterate 2 refine wp_step rfl rfl ?_
  refine wp_c0 rfl rfl (by decide) rfl (recv_ok h.1 rfl) rfl (q_clt h (by omega) ?_)
  refine wp_c0 rfl rfl (by decide) rfl (rfl) rfl (q_misOp (by omega) ?_)
  cases em : mop (ltr cs k) with
  | false =>
    show wp X (d + 2) 149 97 [some (.ref 408), some (.int z1), some (.int (nI k)), some (.int (nI steps)), some (.int (p)), some (.int (z5)), none, none, none, none, none] [.int 0] S Q
    refine wp_if_f rfl rfl ?_
    iterate 3 refine wp_step rfl rfl ?_
    refine wp_iret rfl rfl rfl (hbad k ?_ hkl)
    have hnd : ¬ (ltr cs k = 61 ∨ ltr cs k = 35 ∨ ltr cs k = 60 ∨ ltr cs k = 62) := of_decide_eq_false em
    rw [← hR]
    by_cases hk : k < cs.length
    · refine frF_bad (ltr_at hk) ?_
      rw [fs_3]
      by_cases h46 : ltr cs k = 46
      · rw [if_pos h46, if_neg (show ¬ steps < 4 by have := hst h46; omega)]
      · rw [if_neg h46]
        unfold tkSign
        rw [if_neg (fun h9 => hnd (of_decide_eq_true h9.1))]
    · rw [frF_end (by omega), if_neg (by dsimp only; omega)]
      congr 1
      omega
  | true =>
    show wp X (d + 2) 149 97 [some (.ref 408), some (.int z1), some (.int (nI k)), some (.int (nI steps)), some (.int (p)), some (.int (z5)), none, none, none, none, none] [.int 1] S Q
    refine wp_if_t rfl rfl ?_
    have hnd : ltr cs k = 61 ∨ ltr cs k = 35 ∨ ltr cs k = 60 ∨ ltr cs k = 62 := of_decide_eq_true em
    obtain ⟨hkl9, hat⟩ := ltr_ne (show ltr cs k ≠ 0 by omega)
    have hfs : fst1 (3, nm, cm, p, steps, dg0, ng0) (ltr cs k) = (5, nm, (p, ltr cs k, 0) :: cm, 0, 0, 0, false) := by
      rw [fs_3, if_neg (by omega)]
      unfold tkSign
      rw [if_pos ⟨em, by show cm.length ≠ 11; omega⟩]
    have hR5 : frF cs (k + 1) (5, nm, (p, ltr cs k, 0) :: cm, 0, 0, 0, false) = R := by
      rw [← hR, frF_go hat (s := (3, nm, cm, p, steps, dg0, ng0)) (by rw [hfs]; show (5 : Nat) ≠ 9; decide), hfs]
    have hl8 : ltr cs (k + 1) < 127 := ltr_lt h.2.2.2.2.1
    iterate 2 refine wp_step rfl rfl ?_
    refine wp_c0 rfl rfl (by decide) rfl (recv_ok h.1 rfl) rfl (q_clt h (by omega) ?_)
    generalize ltr cs k = op at hnd hR5 hl9 ⊢
    iterate 2 refine wp_step rfl rfl ?_
    rw [show nI k + Int32.ofInt 1 = nI (k + 1) from nI_add k 1]
    show wp X (d + 2) 149 114 [some (.ref 408), some (.int z1), some (.int (nI (k + 1))), some (.int (nI steps)), some (.int (p)), some (.int (z5)), some (.int (nI op)), none, none, none, none] [] S Q
    iterate 2 refine wp_step rfl rfl ?_
    refine wp_c0 rfl rfl (by decide) rfl (recv_ok h.1 rfl) rfl (q_clt h (by omega) ?_)
    refine wp_step rfl rfl ?_
    refine wp_icmp rfl (fun c1 => ?_) (fun c1 => ?_)
    · replace c1 := n_ne_t (a := ltr cs (k + 1)) (b := 45) (by omega) (by omega) c1
      iterate 2 refine wp_step rfl rfl ?_
      show wp X (d + 2) 149 131 [some (.ref 408), some (.int z1), some (.int (nI (k + 1))), some (.int (nI steps)), some (.int (p)), some (.int (z5)), some (.int (nI op)), some (.int (bI false)), none, none, none] [] S Q
      iterate 2 refine wp_step rfl rfl ?_
      refine wp_if_t rfl rfl ?_
      iterate 2 refine wp_step rfl rfl ?_
      rw [show nI (k + 1) + Int32.ofInt 0 = nI (k + 1 + 0) from nI_add (k + 1) 0]
      iterate 5 refine wp_step rfl rfl ?_
      show wp X (d + 2) 149 150 [some (.ref 408), some (.int z1), some (.int (nI (k + 1 + 0))), some (.int (nI steps)), some (.int (p)), some (.int (z5)), some (.int (nI op)), some (.int (bI false)), some (.long 0), none, some (.int (nI 0))] [] S Q
      refine cp_dig h hcm 9 0 (k + 1 + 0) 5 0 (by omega) hR5 ⟨by decide, by decide⟩ ⟨fun h9 => absurd h9 (by decide), fun h9 => absurd rfl h9⟩ (fun _ => c1) (by omega) hbad (fun k' x s' T J P' a1 a2 a3 a4 a5 a6 a7 a8 a9 a10 a11 a12 => hgood k' x s' T J P' a1 a2 a3 a4 a5 a6 a7 (by have := a8.2 rfl; omega) a9 a10 a11 a12)
    · replace c1 := n_ne_f (a := ltr cs (k + 1)) (b := 45) (by omega) (by omega) c1
      obtain ⟨hk29, hat2⟩ := ltr_ne (show ltr cs (k + 1) ≠ 0 by omega)
      rw [c1] at hat2
      have hR6 : frF cs (k + 1 + 1) (6, nm, (p, op, if true = true then - (0 : Int64) else 0) :: cm, 0, 0, 0, true) = R := by
        rw [← hR5, frF_go (s := (5, nm, (p, op, 0) :: cm, 0, 0, 0, false)) hat2 (show (6 : Nat) ≠ 9 by decide)]
        rfl
      iterate 3 refine wp_step rfl rfl ?_
      show wp X (d + 2) 149 131 [some (.ref 408), some (.int z1), some (.int (nI (k + 1))), some (.int (nI steps)), some (.int (p)), some (.int (z5)), some (.int (nI op)), some (.int (bI true)), none, none, none] [] S Q
      iterate 2 refine wp_step rfl rfl ?_
      refine wp_if_f rfl rfl ?_
      iterate 3 refine wp_step rfl rfl ?_
      rw [show nI (k + 1) + Int32.ofInt 1 = nI (k + 1 + 1) from nI_add (k + 1) 1]
      iterate 5 refine wp_step rfl rfl ?_
      show wp X (d + 2) 149 150 [some (.ref 408), some (.int z1), some (.int (nI (k + 1 + 1))), some (.int (nI steps)), some (.int (p)), some (.int (z5)), some (.int (nI op)), some (.int (bI true)), some (.long 0), none, some (.int (nI 0))] [] S Q
      refine cp_dig h hcm 9 0 (k + 1 + 1) 6 0 (by omega) hR6 ⟨by decide, by decide⟩ ⟨fun h9 => absurd h9 (by decide), fun h9 => absurd rfl h9⟩ (fun h9 => absurd h9 (by decide)) (by omega) hbad (fun k' x s' T J P' a1 a2 a3 a4 a5 a6 a7 a8 a9 a10 a11 a12 => hgood k' x s' T J P' a1 a2 a3 a4 a5 a6 a7 (by have := a8.2 rfl; omega) a9 a10 a11 a12)
theorem isSt_msp (c : Nat) : isSt c = msp c := by
  unfold isSt msp mdg
  rw [← Bool.decide_or]
set_option maxHeartbeats 1000000 in
theorem cp_10 {S : am_S} {I : Nat → Int32} {P : jFA} {cm : List jC} {nm dg0 : Nat} {z1 : Int32} {ng0 : Bool} {R : Nat ⊕ (Nat × List jC)} (h : cmS S I st li cs P cm) (hcm : cm.length ≤ 10) : ∀ (m steps k q : Nat) (p : Int32), m + steps = 4 → steps < 4 → frF cs k (q, nm, cm, p, steps, dg0, ng0) = R → (∀ c, cs[k]? = some c → fst1 (q, nm, cm, p, steps, dg0, ng0) c = tkStep (q, nm, cm, p, steps, dg0, ng0) c) → (cs.length ≤ k → frF cs k (q, nm, cm, p, steps, dg0, ng0) = .inl cs.length) → k ≤ cs.length → (∀ k', R = .inl k' → k' ≤ cs.length → Q (.inl (some (.int (Int32.ofInt (-1) - nI k'))), S)) → (∀ k' x s' T J P', frF cs k' s' = R → s'.1 = 7 → s'.2.1 = nm → s'.2.2.1 = x :: cm → s'.2.2.2.1 = 0 → s'.2.2.2.2.1 = 0 → (∀ c, cs[k']? = some c → c ≠ 38 → (fst1 s' c).1 = 9) → k + 2 < k' → k' ≤ cs.length → fr [408, 429, 430, 431] S T → gf [41] I J → cmS T J st li cs P' (x :: cm) → Q (.inl (some (.int (nI k'))), T)) → wp X (d + 2) 149 10 [some (.ref 408), some (.int z1), some (.int (nI k)), some (.int (nI steps)), some (.int (p)), some (.int (1)), none, none, none, none, none] [] S Q := by
  intro m
  induction m with
  | zero => intro steps k q p h1 h2; omega
  | succ m ih =>
    intro steps k q p hms hs4 hR hfst hend hkl hbad hgood
    refine wp_step rfl rfl ?_
    refine wp_if_f rfl rfl ?_
    have hl9 : ltr cs k < 127 := ltr_lt h.2.2.2.2.1
    have hl40 := h.2.2.1
    iterate 2 refine wp_step rfl rfl ?_
    refine wp_c0 rfl rfl (by decide) rfl (recv_ok h.1 rfl) rfl (q_clt h (by omega) ?_)
    refine wp_c0 rfl rfl (by decide) rfl (rfl) rfl (q_misStep (by omega) ?_)
    cases em : msp (ltr cs k) with
    | false =>
      show wp X (d + 2) 149 23 [some (.ref 408), some (.int z1), some (.int (nI k)), some (.int (nI steps)), some (.int (p)), some (.int (1)), none, none, none, none, none] [.int 0] S Q
      refine wp_if_f rfl rfl ?_
      iterate 3 refine wp_step rfl rfl ?_
      refine wp_iret rfl rfl rfl (hbad k ?_ hkl)
      rw [← hR]
      by_cases hk : k < cs.length
      · refine frF_bad (ltr_at hk) ?_
        rw [hfst _ (ltr_at hk)]
        unfold tkStep
        rw [if_neg (by rw [show isSt (ltr cs k) = msp (ltr cs k) from isSt_msp _, em]; decide)]
      · rw [hend (by omega)]
        congr 1
        omega
    | true =>
      show wp X (d + 2) 149 23 [some (.ref 408), some (.int z1), some (.int (nI k)), some (.int (nI steps)), some (.int (p)), some (.int (1)), none, none, none, none, none] [.int 1] S Q
      refine wp_if_t rfl rfl ?_
      have hne : ltr cs k ≠ 0 := by
        intro h9
        rw [h9] at em
        exact absurd em (by decide)
      obtain ⟨hkl9, hat⟩ := ltr_ne hne
      have hfs : fst1 (q, nm, cm, p, steps, dg0, ng0) (ltr cs k) = (3, nm, cm, pth p (ltr cs k) steps, steps + 1, dg0, ng0) := by
        rw [hfst _ hat]
        unfold tkStep
        rw [if_pos (by rw [isSt_msp]; exact em)]
      have hR3 : frF cs (k + 1) (3, nm, cm, pth p (ltr cs k) steps, steps + 1, dg0, ng0) = R := by
        rw [← hR, frF_go hat (s := (q, nm, cm, p, steps, dg0, ng0)) (by rw [hfs]; show (3 : Nat) ≠ 9; decide), hfs]
      iterate 3 refine wp_step rfl rfl ?_
      refine wp_c0 rfl rfl (by decide) rfl (recv_ok h.1 rfl) rfl (q_clt h (by omega) ?_)
      iterate 4 refine wp_step rfl rfl ?_
      iterate 4 refine wp_step rfl rfl ?_
      rw [show (Int8.ofInt 8).toInt32 * nI steps = nI (8 * steps) from pk_mul 8 steps, show nI steps + Int32.ofInt 1 = nI (steps + 1) from nI_add steps 1, show nI k + Int32.ofInt 1 = nI (k + 1) from nI_add k 1]
      show wp X (d + 2) 149 51 [some (.ref 408), some (.int z1), some (.int (nI (k + 1))), some (.int (nI (steps + 1))), some (.int (pth p (ltr cs k) steps)), some (.int (1)), none, none, none, none, none] [] S Q
      generalize pth p (ltr cs k) steps = p2 at hR3 ⊢
      iterate 2 refine wp_step rfl rfl ?_
      refine wp_icmp rfl (fun c0 => ?_) (fun c0 => ?_)
      · replace c0 := n_ge_t (a := steps + 1) (b := 4) (by omega) (by omega) c0
        iterate 2 refine wp_step rfl rfl ?_
        show wp X (d + 2) 149 73 [some (.ref 408), some (.int z1), some (.int (nI (k + 1))), some (.int (nI (steps + 1))), some (.int (p2)), some (.int (0)), none, none, none, none, none] [] S Q
        iterate 2 refine wp_step rfl rfl ?_
        refine wp_if_t rfl rfl ?_
        iterate 2 refine wp_step rfl rfl ?_
        rw [show nI (k + 1) + Int32.ofInt 0 = nI (k + 1) from nI_add (k + 1) 0]
        iterate 2 refine wp_step rfl rfl ?_
        show wp X (d + 2) 149 10 [some (.ref 408), some (.int z1), some (.int (nI (k + 1))), some (.int (nI (steps + 1))), some (.int (p2)), some (.int (0)), none, none, none, none, none] [] S Q
        refine wp_step rfl rfl ?_
        refine wp_if_t rfl rfl ?_
        exact cp_89 h hcm hR3 (fun _ => by omega) (by omega) hbad (fun k' x s' T J P' a1 a2 a3 a4 a5 a6 a7 a8 a9 a10 a11 a12 => hgood k' x s' T J P' a1 a2 a3 a4 a5 a6 a7 (by omega) a9 a10 a11 a12)
      · replace c0 := n_ge_f (a := steps + 1) (b := 4) (by omega) (by omega) c0
        iterate 2 refine wp_step rfl rfl ?_
        refine wp_c0 rfl rfl (by decide) rfl (recv_ok h.1 rfl) rfl (q_clt h (by omega) ?_)
        have hl8 : ltr cs (k + 1) < 127 := ltr_lt h.2.2.2.2.1
        refine wp_step rfl rfl ?_
        refine wp_icmp rfl (fun c1 => ?_) (fun c1 => ?_)
        · replace c1 := n_ne_t (a := ltr cs (k + 1)) (b := 46) (by omega) (by omega) c1
          iterate 2 refine wp_step rfl rfl ?_
          show wp X (d + 2) 149 73 [some (.ref 408), some (.int z1), some (.int (nI (k + 1))), some (.int (nI (steps + 1))), some (.int (p2)), some (.int (0)), none, none, none, none, none] [] S Q
          iterate 2 refine wp_step rfl rfl ?_
          refine wp_if_t rfl rfl ?_
          iterate 2 refine wp_step rfl rfl ?_
          rw [show nI (k + 1) + Int32.ofInt 0 = nI (k + 1) from nI_add (k + 1) 0]
          iterate 2 refine wp_step rfl rfl ?_
          show wp X (d + 2) 149 10 [some (.ref 408), some (.int z1), some (.int (nI (k + 1))), some (.int (nI (steps + 1))), some (.int (p2)), some (.int (0)), none, none, none, none, none] [] S Q
          refine wp_step rfl rfl ?_
          refine wp_if_t rfl rfl ?_
          exact cp_89 h hcm hR3 (fun h9 => absurd h9 c1) (by omega) hbad (fun k' x s' T J P' a1 a2 a3 a4 a5 a6 a7 a8 a9 a10 a11 a12 => hgood k' x s' T J P' a1 a2 a3 a4 a5 a6 a7 (by omega) a9 a10 a11 a12)
        · replace c1 := n_ne_f (a := ltr cs (k + 1)) (b := 46) (by omega) (by omega) c1
          obtain ⟨hk29, hat2⟩ := ltr_ne (show ltr cs (k + 1) ≠ 0 by omega)
          rw [c1] at hat2
          have hR4 : frF cs (k + 1 + 1) (4, nm, cm, p2, steps + 1, dg0, ng0) = R := by
            have e9 : fst1 (3, nm, cm, p2, steps + 1, dg0, ng0) 46 = (4, nm, cm, p2, steps + 1, dg0, ng0) := by
              rw [fs_3, if_pos rfl, if_pos c0]
            rw [← hR3, frF_go hat2 (by rw [e9]; show (4 : Nat) ≠ 9; decide), e9]
          iterate 3 refine wp_step rfl rfl ?_
          show wp X (d + 2) 149 73 [some (.ref 408), some (.int z1), some (.int (nI (k + 1))), some (.int (nI (steps + 1))), some (.int (p2)), some (.int (1)), none, none, none, none, none] [] S Q
          iterate 2 refine wp_step rfl rfl ?_
          refine wp_if_f rfl rfl ?_
          iterate 3 refine wp_step rfl rfl ?_
          rw [show nI (k + 1) + Int32.ofInt 1 = nI (k + 1 + 1) from nI_add (k + 1) 1]
          iterate 2 refine wp_step rfl rfl ?_
          show wp X (d + 2) 149 10 [some (.ref 408), some (.int z1), some (.int (nI (k + 1 + 1))), some (.int (nI (steps + 1))), some (.int (p2)), some (.int (1)), none, none, none, none, none] [] S Q
          exact ih (steps + 1) (k + 1 + 1) 4 p2 (by omega) (by omega) hR4 (fun c hc => by
              rw [fs_4]) (fun h9 => by rw [frF_end h9, if_neg (by dsimp only; omega)]) (by omega) hbad (fun k' x s' T J P' a1 a2 a3 a4 a5 a6 a7 a8 a9 a10 a11 a12 => hgood k' x s' T J P' a1 a2 a3 a4 a5 a6 a7 (by omega) a9 a10 a11 a12)
theorem q_mcomparison {S : am_S} {I : Nat → Int32} {P : jFA} {cm : List jC} {k q nm dg0 : Nat} {ng0 : Bool} {R : Nat ⊕ (Nat × List jC)} (h : cmS S I st li cs P cm) (hcm : cm.length ≤ 10) (hR : frF cs k (q, nm, cm, 0, 0, dg0, ng0) = R) (hfst : ∀ c, cs[k]? = some c → fst1 (q, nm, cm, 0, 0, dg0, ng0) c = tkStep (q, nm, cm, 0, 0, dg0, ng0) c) (hend : cs.length ≤ k → frF cs k (q, nm, cm, 0, 0, dg0, ng0) = .inl cs.length) (hkl : k ≤ cs.length) (hbad : (∀ k', R = .inl k' → k' ≤ cs.length → Q (.inl (some (.int (Int32.ofInt (-1) - nI k'))), S))) (hgood : (∀ k' x s' T J P', frF cs k' s' = R → s'.1 = 7 → s'.2.1 = nm → s'.2.2.1 = x :: cm → s'.2.2.2.1 = 0 → s'.2.2.2.2.1 = 0 → (∀ c, cs[k']? = some c → c ≠ 38 → (fst1 s' c).1 = 9) → k + 2 < k' → k' ≤ cs.length → fr [408, 429, 430, 431] S T → gf [41] I J → cmS T J st li cs P' (x :: cm) → Q (.inl (some (.int (nI k'))), T))) : ev X (d + 3) 149 [.ref 408, .int (nI k)] S Q := by
  refine ev_wp (L0 := [some (.ref 408), some (.int (nI k)), none, none, none, none, none, none, none, none, none]) (Nat.le_of_ble_eq_true rfl) rfl ?_
  iterate 8 refine wp_step rfl rfl ?_
  show wp X (d + 2) 149 10 [some (.ref 408), some (.int (nI k)), some (.int (nI k)), some (.int (nI 0)), some (.int (0)), some (.int (1)), none, none, none, none, none] [] S Q
  exact cp_10 h hcm 4 0 k q 0 (by omega) (by omega) hR hfst hend hkl hbad hgood
end MCOMPARE
