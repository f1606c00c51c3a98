/-! one step of the small machine is one of the machine: what makes cells; and all steps together -/
theorem am_astore_cs {t q0 : Nat} {L : am_L} {st : List Value} {S : am_S} {q : am_F} (h : am_astore t q0 L st S = some q) : q.2.2.2.2.2 = S.2.2 := by
  unfold am_astore at h
  split at h
  · split at h
    · split at h
      · cases h; rfl
      · cases h
    · cases h
  · split at h
    · split at h
      · cases h; rfl
      · cases h
    · cases h
  · split at h
    · split at h
      · cases h; rfl
      · cases h
    · cases h
  · cases h
theorem am_putf_cs {ci k0 q0 : Nat} {L : am_L} {st : List Value} {S : am_S} {q : am_F} (h : am_putf ci k0 q0 L st S = some q) : q.2.2.2.2.2 = S.2.2 := by
  unfold am_putf at h
  split at h
  · split at h
    · split at h
      · cases h; rfl
      · cases h
    · cases h
  · cases h
section AMN
variable {p : Program} {l : Launch} {e : Env} {R : Room} {s : State} {m : MethodId} {args : Array Value} {below : List Frame} {meth : Method} {c : Code} {H : Heap} {locs : List Loc} {cells slots : Nat} {Q : State → Prop}
variable {M : Nat → am_M} {G : am_G} {k pc : Nat} {ls : Array Slot}
theorem am_step_new (C : am_ctx M G p s m args meth c k) {x a b w : Nat} {cst : Int} {st : List Value} {S : am_S} {c0 s0 : Nat}
    (hchk : am_chk M k pc (.new x, 3, a, b, w, cst) = true) (ha : a < 11) (hn : S.1 < 1000000) (hw : am_world G S H) (hS : va_S (am_A G) s.heap H locs)
    (hc0 : c0 ≤ S.2.2.1) (hs0 : s0 ≤ S.2.2.2) (hRc : S.2.2.1 + 1 ≤ c0 + R.cells) (hRs : S.2.2.2 + am_cn a ≤ s0 + R.slots) (hsz : s.heap.size + (S.2.2.1 - c0) ≤ am_b0 G + S.1)
    (kk : ∀ H', am_world G (am_push S (.inr (a, am_blank a)) (am_cn a)) H' → va_S (am_A G) s.heap H' locs → W p l e R s m args below meth c H' locs (S.2.2.1 + 1 - c0) (S.2.2.2 + am_cn a - s0) Q (F0 m (pc + 3) ls (am_v G (.ref S.1) :: st.map (am_v G)))) :
    W p l e R s m args below meth c H locs (S.2.2.1 - c0) (S.2.2.2 - s0) Q (F0 m pc ls (st.map (am_v G))) := by
  obtain ⟨hx, hb, hml, hown, hgw, henv, hnm⟩ := C
  obtain ⟨hd, -, hc2⟩ := am_chk_sp hchk
  dsimp only at hd
  simp only [am_chk2, if_pos ha] at hc2
  split at hc2
  · rename_i cq hcq
    obtain ⟨hu, hty, -, hcn, -⟩ := am_cls hcq
    obtain ⟨hi1, hi2⟩ := am_ini hcq
    have hA : ∀ z, s.heap.size ≤ z → am_A G z := fun z hz => Nat.le_trans henv.2.2.2.2.2.2.2.1 hz
    refine va_new (ci := a) (fs := am_blank a) hx hb hgw hu (am_fty a) hty hown (hgw _ (am_word_gw hc2 rfl)) (hgw _ hi2) (hgw _ hi1) henv.1 hw.1 (am_ws_D G S) hS hA hcq (by rw [hcn]; exact am_blank_V) (by omega) (by rw [hcn]; omega) hd (fun z H1 hP1 hD1 hS1 => ?_)
    refine am_bysize fun hsize => ?_
    have hz : z = am_b0 G + S.1 := am_fresh hP1 hD1 hsize (by omega)
    subst hz
    have hv : am_v G (.ref S.1) = .ref (am_b0 G + S.1) := by show Value.ref (am_ad G S.1) = _; rw [am_ad_low hn]
    rw [hv] at kk
    refine am_eqW (by omega) (by rw [hcn]; omega) (kk H1 ⟨?_, hn⟩ hS1)
    rw [← am_ws_push]
    simp only [am_e, am_blank_v]
    exact hP1
  · cases hc2
theorem am_step_newa (C : am_ctx M G p s m args meth c k) {op : Instr} {len a b w : Nat} {cst : Int} {st : List Value} {S : am_S} {n : Int32} {c0 s0 : Nat}
    (hop : (∃ t, op = .newarray t ∧ len = 2) ∨ (∃ x, op = .anewarray x ∧ len = 3))
    (hchk : am_chk M k pc (op, len, a, b, w, cst) = true) (hn0 : ¬ n < 0) (h8 : n.toNatClampNeg * 8 ≤ 536870912) (hn : S.1 < 1000000) (hw : am_world G S H) (hS : va_S (am_A G) s.heap H locs)
    (hc0 : c0 ≤ S.2.2.1) (hs0 : s0 ≤ S.2.2.2) (hRc : S.2.2.1 + 1 ≤ c0 + R.cells) (hRs : S.2.2.2 + n.toNatClampNeg ≤ s0 + R.slots) (hsz : s.heap.size + (S.2.2.1 - c0) ≤ am_b0 G + S.1)
    (kk : ∀ H', am_world G (am_push S (.inl (a, am_zero a n.toNatClampNeg)) n.toNatClampNeg) H' → va_S (am_A G) s.heap H' locs → W p l e R s m args below meth c H' locs (S.2.2.1 + 1 - c0) (S.2.2.2 + n.toNatClampNeg - s0) Q (F0 m (pc + len) ls (am_v G (.ref S.1) :: st.map (am_v G)))) :
    W p l e R s m args below meth c H locs (S.2.2.1 - c0) (S.2.2.2 - s0) Q (F0 m pc ls (.int n :: st.map (am_v G))) := by
  obtain ⟨hx, hb, hml, hown, hgw, henv, hnm⟩ := C
  obtain ⟨hd, -, hc2⟩ := am_chk_sp hchk
  dsimp only at hd
  have hA : ∀ z, s.heap.size ≤ z → am_A G z := fun z hz => Nat.le_trans henv.2.2.2.2.2.2.2.1 hz
  have hv : am_v G (.ref S.1) = .ref (am_b0 G + S.1) := by show Value.ref (am_ad G S.1) = _; rw [am_ad_low hn]
  rw [hv] at kk
  have fin : ∀ (z : Nat) (cA : ClassId) (H1 : Heap), cA = G.2.1 a → va_P G.1 vwCl (am_ws G S ++ [(z, .inl (cA, am_ra G (am_zero a n.toNatClampNeg)))]) H1 → va_D (am_A G) (am_ws G S ++ [(z, .inl (cA, am_ra G (am_zero a n.toNatClampNeg)))]) → va_S (am_A G) s.heap H1 locs →
      W p l e R s m args below meth c H1 locs (S.2.2.1 - c0 + 1) (S.2.2.2 - s0 + n.toNatClampNeg) Q (F0 m (pc + len) ls (.ref z :: st.map (am_v G))) := by
    intro z cA H1 hcA hP1 hD1 hS1
    subst hcA
    refine am_bysize fun hsize => ?_
    have hz : z = am_b0 G + S.1 := am_fresh hP1 hD1 hsize (by omega)
    subst hz
    refine am_eqW (by omega) (by omega) (kk H1 ⟨?_, hn⟩ hS1)
    rw [← am_ws_push]
    exact hP1
  have two : ∀ {cA : ClassId} {ty : FieldType}, (∀ C9, ty ≠ .object C9) → am_ty a = ty → a < 6 → va_K G.1 vwCl (am_tys G ++ [(cA, ty)]) s → cA = G.2.1 a := by
    intro cA ty hno hta ha hK
    have h1 := (hK.2 6 (cA, ty) rfl).2
    have h2 := (henv.1.2 a _ (am_tys_at G ha)).2
    rw [hta] at h2
    cases ty with
    | object C9 => exact absurd rfl (hno C9)
    | _ => exact Option.some.inj (h1.symm.trans h2)
  have twoq : ∀ {cA : ClassId} {C9 : String}, am_ty a = .object C9 → a < 6 → va_K G.1 vwCl (am_tys G ++ [(cA, .object C9)]) s → cA = G.2.1 a := by
    intro cA C9 hta ha hK
    have h1 := (hK.2 6 (cA, .object C9) rfl).2
    have h2 := (henv.1.2 a _ (am_tys_at G ha)).2
    rw [hta] at h2
    obtain ⟨-, -, -, -, -, h3⟩ := h1
    obtain ⟨-, -, -, -, -, h4⟩ := h2
    exact Option.some.inj (h3.symm.trans h4)
  rcases hop with ⟨t, rfl, rfl⟩ | ⟨x, rfl, rfl⟩
  · simp only [am_chk2, Bool.and_eq_true, decide_eq_true_eq] at hc2
    obtain ⟨ha, hta⟩ := hc2
    rcases (show a = 0 ∨ a = 1 ∨ a = 2 ∨ a = 3 by omega) with rfl | rfl | rfl | rfl
    · refine va_newa (N' := n.toNatClampNeg) (a0 := am_zero 0 n.toNatClampNeg) hx hb (by rw [hta]; exact hgw _ am_acls.1) hta henv.1 hw.1 (am_ws_D G S) hS hA (fun _ => rfl) hn0 rfl (by show _ * 4 ≤ _; omega) (by omega) (by omega) hd (fun z cA H1 hK1 hP1 hD1 hS1 => fin z cA H1 (two (by intro C9 h9; cases h9) rfl (by decide) hK1) hP1 hD1 hS1)
    · refine va_newa (N' := n.toNatClampNeg) (a0 := am_zero 1 n.toNatClampNeg) hx hb (by rw [hta]; exact hgw _ am_acls.2.1) hta henv.1 hw.1 (am_ws_D G S) hS hA (fun _ => rfl) hn0 rfl (by show _ * 8 ≤ _; omega) (by omega) (by omega) hd (fun z cA H1 hK1 hP1 hD1 hS1 => fin z cA H1 (two (by intro C9 h9; cases h9) rfl (by decide) hK1) hP1 hD1 hS1)
    · refine va_newa (N' := n.toNatClampNeg) (a0 := am_zero 2 n.toNatClampNeg) hx hb (by rw [hta]; exact hgw _ am_acls.2.2.1) hta henv.1 hw.1 (am_ws_D G S) hS hA (fun _ => rfl) hn0 rfl (by show _ * 1 ≤ _; omega) (by omega) (by omega) hd (fun z cA H1 hK1 hP1 hD1 hS1 => fin z cA H1 (two (by intro C9 h9; cases h9) rfl (by decide) hK1) hP1 hD1 hS1)
    · refine va_newa (N' := n.toNatClampNeg) (a0 := am_zero 3 n.toNatClampNeg) hx hb (by rw [hta]; exact hgw _ am_acls.2.2.2) hta henv.1 hw.1 (am_ws_D G S) hS hA (fun _ => rfl) hn0 rfl (by show _ * 2 ≤ _; omega) (by omega) (by omega) hd (fun z cA H1 hK1 hP1 hD1 hS1 => fin z cA H1 (two (by intro C9 h9; cases h9) rfl (by decide) hK1) hP1 hD1 hS1)
  · simp only [am_chk2, Bool.or_eq_true, Bool.and_eq_true, decide_eq_true_eq] at hc2
    rcases hc2 with ⟨rfl, hwd⟩ | ⟨rfl, hwd⟩
    · exact va_newq hx hb hown (hgw _ (am_word_gw hwd rfl)) henv.2.2.2.2.2.2.1.1 henv.1 hw.1 (am_ws_D G S) hS hA hn0 rfl (by omega) (by omega) (by omega) hd (fun z cA H1 hK1 hP1 hD1 hS1 => fin z cA H1 (twoq rfl (by decide) hK1) hP1 hD1 hS1)
    · exact va_newq hx hb hown (hgw _ (am_word_gw hwd rfl)) henv.2.2.2.2.2.2.1.2 henv.1 hw.1 (am_ws_D G S) hS hA hn0 rfl (by omega) (by omega) (by omega) hd (fun z cA H1 hK1 hP1 hD1 hS1 => fin z cA H1 (twoq rfl (by decide) hK1) hP1 hD1 hS1)
set_option maxHeartbeats 4000000 in
/-- EVERY STEP -/
theorem am_step_ok (C : am_ctx M G p s m args meth c k) {i : am_I} {L : am_L} {st : List Value} {S : am_S} {q : am_F} {c0 s0 : Nat}
    (hchk : am_chk M k pc i = true) (hstep : am_step (am_X G) i pc L st S = some q) (hl : am_ls G ls (M k).2.2.1 L) (hw : am_world G S H) (hS : va_S (am_A G) s.heap H locs)
    (hc0 : c0 ≤ S.2.2.1) (hs0 : s0 ≤ S.2.2.2) (hRc : q.2.2.2.2.2.1 ≤ c0 + R.cells) (hRs : q.2.2.2.2.2.2 ≤ s0 + R.slots) (hRf : 1 ≤ R.frames) (hRl : 40 ≤ R.locals)
    (hsz : S.2.2.1 = S.1 → s.heap.size + (S.2.2.1 - c0) ≤ am_b0 G + S.1)
    (kk : ∀ H' locs' ls', am_ls G ls' (M k).2.2.1 q.2.1 → am_world G q.2.2.2 H' → va_S (am_A G) s.heap H' locs' → W p l e R s m args below meth c H' locs' (q.2.2.2.2.2.1 - c0) (q.2.2.2.2.2.2 - s0) Q (F0 m q.1 ls' (q.2.2.1.map (am_v G)))) :
    W p l e R s m args below meth c H locs (S.2.2.1 - c0) (S.2.2.2 - s0) Q (F0 m pc ls (st.map (am_v G))) := by
  cases hop : am_heapy i.1 with
  | false => exact am_step_pure C hchk hop hstep hl (fun ls' hl' e => by have k2 := kk H locs ls' hl'; rw [e] at k2; exact k2 hw hS)
  | true =>
    obtain ⟨op, len, a, b, w, cst⟩ := i
    obtain ⟨hd, hln, hc2⟩ := am_chk_sp hchk
    dsimp only at hd hln hc2 hop
    cases op <;> first | (exact absurd (show false = true from hop) (by decide)) | skip
    case iaload =>
      have hln : len = 1 := by simpa [am_sws, am_len] using hln
      subst hln
      exact am_step_aload C (Or.inl ⟨rfl, rfl⟩) hchk hstep hw hS (fun e1 e2 => by have k2 := kk H locs ls; rw [e1, e2] at k2; exact k2 hl hw hS)
    case laload =>
      have hln : len = 1 := by simpa [am_sws, am_len] using hln
      subst hln
      exact am_step_aload C (Or.inr (Or.inl ⟨rfl, rfl⟩)) hchk hstep hw hS (fun e1 e2 => by have k2 := kk H locs ls; rw [e1, e2] at k2; exact k2 hl hw hS)
    case baload =>
      have hln : len = 1 := by simpa [am_sws, am_len] using hln
      subst hln
      exact am_step_aload C (Or.inr (Or.inr (Or.inl ⟨rfl, rfl⟩))) hchk hstep hw hS (fun e1 e2 => by have k2 := kk H locs ls; rw [e1, e2] at k2; exact k2 hl hw hS)
    case caload =>
      have hln : len = 1 := by simpa [am_sws, am_len] using hln
      subst hln
      exact am_step_aload C (Or.inr (Or.inr (Or.inr (Or.inl ⟨rfl, rfl⟩)))) hchk hstep hw hS (fun e1 e2 => by have k2 := kk H locs ls; rw [e1, e2] at k2; exact k2 hl hw hS)
    case aaload =>
      have hln : len = 1 := by simpa [am_sws, am_len] using hln
      subst hln
      exact am_step_aload C (Or.inr (Or.inr (Or.inr (Or.inr ⟨rfl, rfl⟩)))) hchk hstep hw hS (fun e1 e2 => by have k2 := kk H locs ls; rw [e1, e2] at k2; exact k2 hl hw hS)
    case arraylength =>
      have hln : len = 1 := by simpa [am_sws, am_len] using hln
      subst hln
      exact am_step_alen C hchk hstep hw hS (fun e1 e2 => by have k2 := kk H locs ls; rw [e1, e2] at k2; exact k2 hl hw hS)
    case getfield x =>
      have hln : len = 3 := by simpa [am_sws, am_len] using hln
      subst hln
      exact am_step_getf C hchk hstep hw hS (fun e1 e2 => by have k2 := kk H locs ls; rw [e1, e2] at k2; exact k2 hl hw hS)
    case iastore =>
      have hln : len = 1 := by simpa [am_sws, am_len] using hln
      subst hln
      have hcs : q.2.2.2.2.2 = S.2.2 := am_astore_cs hstep
      rw [hcs] at kk
      exact am_step_astore C (Or.inl ⟨rfl, rfl⟩) hchk hstep hw hS (fun H1 locs1 e1 hw1 hS1 => by have k2 := kk H1 locs1 ls; rw [e1] at k2; exact k2 hl hw1 hS1)
    case lastore =>
      have hln : len = 1 := by simpa [am_sws, am_len] using hln
      subst hln
      have hcs : q.2.2.2.2.2 = S.2.2 := am_astore_cs hstep
      rw [hcs] at kk
      exact am_step_astore C (Or.inr (Or.inl ⟨rfl, rfl⟩)) hchk hstep hw hS (fun H1 locs1 e1 hw1 hS1 => by have k2 := kk H1 locs1 ls; rw [e1] at k2; exact k2 hl hw1 hS1)
    case bastore =>
      have hln : len = 1 := by simpa [am_sws, am_len] using hln
      subst hln
      have hcs : q.2.2.2.2.2 = S.2.2 := am_astore_cs hstep
      rw [hcs] at kk
      exact am_step_astore C (Or.inr (Or.inr (Or.inl ⟨rfl, rfl⟩))) hchk hstep hw hS (fun H1 locs1 e1 hw1 hS1 => by have k2 := kk H1 locs1 ls; rw [e1] at k2; exact k2 hl hw1 hS1)
    case castore =>
      have hln : len = 1 := by simpa [am_sws, am_len] using hln
      subst hln
      have hcs : q.2.2.2.2.2 = S.2.2 := am_astore_cs hstep
      rw [hcs] at kk
      exact am_step_astore C (Or.inr (Or.inr (Or.inr (Or.inl ⟨rfl, rfl⟩)))) hchk hstep hw hS (fun H1 locs1 e1 hw1 hS1 => by have k2 := kk H1 locs1 ls; rw [e1] at k2; exact k2 hl hw1 hS1)
    case aastore =>
      have hln : len = 1 := by simpa [am_sws, am_len] using hln
      subst hln
      have hcs : q.2.2.2.2.2 = S.2.2 := am_astore_cs hstep
      rw [hcs] at kk
      exact am_step_astore C (Or.inr (Or.inr (Or.inr (Or.inr ⟨rfl, rfl⟩)))) hchk hstep hw hS (fun H1 locs1 e1 hw1 hS1 => by have k2 := kk H1 locs1 ls; rw [e1] at k2; exact k2 hl hw1 hS1)
    case putfield x =>
      have hln : len = 3 := by simpa [am_sws, am_len] using hln
      subst hln
      have hcs : q.2.2.2.2.2 = S.2.2 := am_putf_cs hstep
      rw [hcs] at kk
      exact am_step_putf C hchk hstep hw hS (fun H1 locs1 e1 hw1 hS1 => by have k2 := kk H1 locs1 ls; rw [e1] at k2; exact k2 hl hw1 hS1)
    case getstatic x =>
      have hln : len = 3 := by simpa [am_sws, am_len] using hln
      subst hln
      cases hstep
      obtain ⟨hx, hb, hml, hown, hgw, henv, hnm⟩ := C
      have hv : am_v G (.ref 1000001) = .ref G.2.2.2.2.1 := rfl
      have k2 := kk H locs ls hl hw hS
      simp only [List.map_cons, hv] at k2
      exact va_gets hx hb henv.2.2.2.2.1.1 hS hown (hgw _ (am_word_gw hc2 rfl)) (fun _ h9 => h9) hd k2
    case new x =>
      have hln : len = 3 := by simpa [am_sws, am_len] using hln
      subst hln
      simp only [am_step] at hstep
      split at hstep
      · rename_i hcond
        cases hstep
        exact am_step_new C hchk hcond.1 hcond.2.2 hw hS hc0 hs0 hRc hRs (hsz hcond.2.1) (fun H1 hw1 hS1 => kk H1 locs ls hl hw1 hS1)
      · cases hstep
    case newarray t =>
      have hln : len = 2 := by simpa [am_sws, am_len] using hln
      subst hln
      simp only [am_step, am_newa] at hstep
      split at hstep
      · rename_i n r
        split at hstep
        · rename_i hcond
          cases hstep
          exact am_step_newa C (Or.inl ⟨t, rfl, rfl⟩) hchk hcond.1 hcond.2.1 hcond.2.2.2.1 hw hS hc0 hs0 hRc hRs (hsz hcond.2.2.1) (fun H1 hw1 hS1 => kk H1 locs ls hl hw1 hS1)
        · cases hstep
      · cases hstep
    case anewarray x =>
      have hln : len = 3 := by simpa [am_sws, am_len] using hln
      subst hln
      simp only [am_step, am_newa] at hstep
      split at hstep
      · rename_i n r
        split at hstep
        · rename_i hcond
          cases hstep
          exact am_step_newa C (Or.inr ⟨x, rfl, rfl⟩) hchk hcond.1 hcond.2.1 hcond.2.2.2.1 hw hS hc0 hs0 hRc hRs (hsz hcond.2.2.1) (fun H1 hw1 hS1 => kk H1 locs ls hl hw1 hS1)
        · cases hstep
      · cases hstep
    case invokespecial x =>
      have hln : len = 3 := by simpa [am_sws, am_len] using hln
      subst hln
      simp only [am_step] at hstep
      split at hstep
      · rename_i ha
        subst ha
        split at hstep
        · rename_i o r
          split at hstep
          · rename_i hr8
            cases hstep
            obtain ⟨hx, hb, hml, hown, hgw, henv, hnm⟩ := C
            simp only [am_chk2, if_true] at hc2
            refine W.objInit hx hb hown (hgw _ (am_word_gw hc2 rfl)) (hgw _ am_oi1) (hgw _ am_oi2) rfl (by rw [hml]; exact hl.1) rfl hd hRf ?_ (kk H locs ls hl hw hS)
            show 2 * 0 + ((r.map (am_v G)).map fun v => v.category).sum + 12 ≤ R.locals
            rw [am_v_cats]
            omega
          · cases hstep
        · cases hstep
      · cases hstep
end AMN
