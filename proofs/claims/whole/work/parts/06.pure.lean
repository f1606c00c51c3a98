/-! one step of the small machine is one of the machine: instructions that leave the heap alone -/
def am_ctx (M : Nat → am_M) (G : am_G) (p : Program) (s : State) (m : MethodId) (args : Array Value) (meth : Method) (c : Code) (k : Nat) : Prop :=
  p.tables.exec = Jvm.exec ∧ c.code = (M k).2.1 ∧ c.maxLocals = (M k).2.2.1 ∧ s.vm.findClass (M k).1.cls = some m.cls ∧ (∀ w ∈ am_gw, w.before args s = true) ∧ am_env G s ∧ meth.name = (M k).1.name
theorem am_load_inv {q k j : Nat} {L : am_L} {st : List Value} {S : am_S} {r : am_F} (h : am_load q k j L st S = some r) : ∃ v, L[j]? = some (some v) ∧ am_kind v = k ∧ r = (q, L, v :: st, S) := by
  unfold am_load at h
  split at h
  · rename_i v hv
    split at h
    · rename_i hk
      exact ⟨v, hv, hk, (Option.some.inj h).symm⟩
    · cases h
  · cases h
theorem am_store_inv {q k j : Nat} {L : am_L} {st : List Value} {S : am_S} {r : am_F} (h : am_store q k j L st S = some r) : ∃ v st', st = v :: st' ∧ am_kind v = k ∧ j + k % 2 < L.length ∧ r = (q, am_set L j v, st', S) := by
  unfold am_store at h
  split at h
  · rename_i v st'
    split at h
    · rename_i hk
      exact ⟨v, st', rfl, hk.1, hk.2, (Option.some.inj h).symm⟩
    · cases h
  · cases h
theorem am_k0 {v : Value} (h : am_kind v = 0) : ∃ x, v = .int x := by cases v <;> simp [am_kind] at h <;> exact ⟨_, rfl⟩
theorem am_k1 {v : Value} (h : am_kind v = 1) : ∃ x, v = .long x := by cases v <;> simp [am_kind] at h <;> exact ⟨_, rfl⟩
theorem am_k2 {v : Value} (h : am_kind v = 2) : ∃ x, v = .ref x := by cases v <;> simp [am_kind] at h <;> exact ⟨_, rfl⟩
/-- an instruction that may change the heap -/
def am_heapy (op : Instr) : Bool := match op with
  | .iaload | .laload | .baload | .caload | .aaload | .iastore | .lastore | .bastore | .castore | .aastore | .arraylength | .getfield _ | .putfield _ | .getstatic _ | .new _ | .newarray _ | .anewarray _ | .invokespecial _ => true
  | _ => false
theorem am_look_nn {pc : Nat} {dflt : Int} {l : List (Int × Int)} (h0 : 0 ≤ (pc : Int) + dflt) (h : ∀ q ∈ l, 0 ≤ (pc : Int) + q.2) (x : Int) : 0 ≤ (pc : Int) + Op.lookupswitch.offset l dflt x := by
  induction l with
  | nil => exact h0
  | cons a t ih =>
    have h1 := h a List.mem_cons_self
    have h2 := ih (fun q hq => h q (List.mem_cons_of_mem _ hq))
    obtain ⟨a1, a2⟩ := a
    unfold Op.lookupswitch.offset
    first
      | (split <;> first | exact h1 | exact h2 | exact h0)
      | (split
         · first | exact h1 | exact h2 | exact h0
         · split <;> first | exact h1 | exact h2 | exact h0)
section AMP
variable {p : Program} {l : Launch} {e : Env} {R : Room} {s : State} {m : MethodId} {args : Array Value} {below : List Frame} {meth : Method} {c : Code} {H : Heap} {locs : List Loc} {cells slots : Nat} {Q : State → Prop}
variable {M : Nat → am_M} {G : am_G} {k pc : Nat} {ls : Array Slot}
set_option maxHeartbeats 4000000 in
theorem am_step_pure (C : am_ctx M G p s m args meth c k) {i : am_I} {L : am_L} {st : List Value} {S : am_S} {q : am_F}
    (hchk : am_chk M k pc i = true) (hop : am_heapy i.1 = false) (hstep : am_step (am_X G) i pc L st S = some q) (hl : am_ls G ls (M k).2.2.1 L)
    (kk : ∀ ls', am_ls G ls' (M k).2.2.1 q.2.1 → q.2.2.2 = S → W p l e R s m args below meth c H locs cells slots Q (F0 m q.1 ls' (q.2.2.1.map (am_v G)))) :
    W p l e R s m args below meth c H locs cells slots Q (F0 m pc ls (st.map (am_v G))) := by
  obtain ⟨hx, hb, hml, hown, hgw, henv, hnm⟩ := C
  obtain ⟨op, len, a, b, w, cst⟩ := i
  obtain ⟨hd, hln, hc2⟩ := am_chk_sp hchk
  dsimp only at hd hln hc2 hop
  have hpair := am_ls_has hl
  cases op <;> first | (exact absurd (show true = false from hop) (by decide)) | skip
  case iconst n =>
    have hln : len = 1 := by simpa [am_sws, am_len] using hln
    subst hln
    cases hstep
    exact lv_iconst hx hb hd rfl (kk ls hl rfl)
  case bipush n =>
    have hln : len = 2 := by simpa [am_sws, am_len] using hln
    subst hln
    cases hstep
    exact lv_bipush hx hb hd rfl (kk ls hl rfl)
  case sipush n =>
    have hln : len = 3 := by simpa [am_sws, am_len] using hln
    subst hln
    cases hstep
    exact lv_sipush hx hb hd rfl (kk ls hl rfl)
  case lconst n =>
    have hln : len = 1 := by simpa [am_sws, am_len] using hln
    subst hln
    cases hstep
    exact lv_lconst hx hb hd rfl (kk ls hl rfl)
  case ldc x =>
    have hln : len = 2 := by simpa [am_sws, am_len] using hln
    subst hln
    cases hstep
    exact lv_ldc hx hb hown (hgw _ (am_word_gw hc2 rfl)) hd (kk ls hl rfl)
  case ldc2_w x =>
    have hln : len = 3 := by simpa [am_sws, am_len] using hln
    subst hln
    cases hstep
    exact lv_ldc2 hx hb hown (hgw _ (am_word_gw hc2 rfl)) hd (kk ls hl rfl)
  case iload j =>
    have hln : len = 2 := by simpa [am_sws, am_len] using hln
    subst hln
    obtain ⟨v, hv, hk, rfl⟩ := am_load_inv hstep
    obtain ⟨x, rfl⟩ := am_k0 hk
    exact lv_iload hx hb hd (hl.2.2.2 _ _ hv) (kk ls hl rfl)
  case iload_n j =>
    have hln : len = 1 := by simpa [am_sws, am_len] using hln
    subst hln
    obtain ⟨v, hv, hk, rfl⟩ := am_load_inv hstep
    obtain ⟨x, rfl⟩ := am_k0 hk
    exact lv_iload_n hx hb hd rfl (hl.2.2.2 _ _ hv) (kk ls hl rfl)
  case lload j =>
    have hln : len = 2 := by simpa [am_sws, am_len] using hln
    subst hln
    obtain ⟨v, hv, hk, rfl⟩ := am_load_inv hstep
    obtain ⟨x, rfl⟩ := am_k1 hk
    exact lv_lload hx hb hd (hl.2.2.2 _ _ hv) (kk ls hl rfl)
  case lload_n j =>
    have hln : len = 1 := by simpa [am_sws, am_len] using hln
    subst hln
    obtain ⟨v, hv, hk, rfl⟩ := am_load_inv hstep
    obtain ⟨x, rfl⟩ := am_k1 hk
    exact lv_lload_n hx hb hd rfl (hl.2.2.2 _ _ hv) (kk ls hl rfl)
  case aload j =>
    have hln : len = 2 := by simpa [am_sws, am_len] using hln
    subst hln
    obtain ⟨v, hv, hk, rfl⟩ := am_load_inv hstep
    obtain ⟨x, rfl⟩ := am_k2 hk
    exact lv_aload hx hb hd (hl.2.2.2 _ _ hv) (kk ls hl rfl)
  case aload_n j =>
    have hln : len = 1 := by simpa [am_sws, am_len] using hln
    subst hln
    obtain ⟨v, hv, hk, rfl⟩ := am_load_inv hstep
    obtain ⟨x, rfl⟩ := am_k2 hk
    exact lv_aload_n hx hb hd rfl (hl.2.2.2 _ _ hv) (kk ls hl rfl)
  case istore j =>
    have hln : len = 2 := by simpa [am_sws, am_len] using hln
    subst hln
    obtain ⟨v, st', rfl, hk, hj, rfl⟩ := am_store_inv hstep
    obtain ⟨x, rfl⟩ := am_k0 hk
    have hj : j < (M k).2.2.1 := by rw [← hl.2.2.1]; omega
    exact lv_istore hx hb hd hpair hj rfl (fun ls' h' => kk ls' (am_ls_set1 (v := .int x) hl rfl h') rfl)
  case istore_n j =>
    have hln : len = 1 := by simpa [am_sws, am_len] using hln
    subst hln
    obtain ⟨v, st', rfl, hk, hj, rfl⟩ := am_store_inv hstep
    obtain ⟨x, rfl⟩ := am_k0 hk
    have hj : (j : Nat) < (M k).2.2.1 := by rw [← hl.2.2.1]; omega
    exact lv_istore_n hx hb hd rfl hpair hj rfl (fun ls' h' => kk ls' (am_ls_set1 (v := .int x) hl rfl h') rfl)
  case lstore j =>
    have hln : len = 2 := by simpa [am_sws, am_len] using hln
    subst hln
    obtain ⟨v, st', rfl, hk, hj, rfl⟩ := am_store_inv hstep
    obtain ⟨x, rfl⟩ := am_k1 hk
    have hj : j + 1 < (M k).2.2.1 := by rw [← hl.2.2.1]; omega
    exact lv_lstore hx hb hd hpair hj rfl (fun ls' h' => kk ls' (am_ls_set2 (v := .long x) hl rfl h') rfl)
  case lstore_n j =>
    have hln : len = 1 := by simpa [am_sws, am_len] using hln
    subst hln
    obtain ⟨v, st', rfl, hk, hj, rfl⟩ := am_store_inv hstep
    obtain ⟨x, rfl⟩ := am_k1 hk
    have hj : (j : Nat) + 1 < (M k).2.2.1 := by rw [← hl.2.2.1]; omega
    exact lv_lstore_n hx hb hd rfl hpair hj rfl (fun ls' h' => kk ls' (am_ls_set2 (v := .long x) hl rfl h') rfl)
  case astore j =>
    have hln : len = 2 := by simpa [am_sws, am_len] using hln
    subst hln
    obtain ⟨v, st', rfl, hk, hj, rfl⟩ := am_store_inv hstep
    obtain ⟨x, rfl⟩ := am_k2 hk
    have hj : j < (M k).2.2.1 := by rw [← hl.2.2.1]; omega
    exact lv_astore hx hb hd hpair hj rfl (fun ls' h' => kk ls' (am_ls_set1 (v := .ref x) hl rfl h') rfl)
  case astore_n j =>
    have hln : len = 1 := by simpa [am_sws, am_len] using hln
    subst hln
    obtain ⟨v, st', rfl, hk, hj, rfl⟩ := am_store_inv hstep
    obtain ⟨x, rfl⟩ := am_k2 hk
    have hj : (j : Nat) < (M k).2.2.1 := by rw [← hl.2.2.1]; omega
    exact lv_astore_n hx hb hd rfl hpair hj rfl (fun ls' h' => kk ls' (am_ls_set1 (v := .ref x) hl rfl h') rfl)
  case iinc j n =>
    have hln : len = 3 := by simpa [am_sws, am_len] using hln
    subst hln
    simp only [am_step] at hstep
    split at hstep
    · rename_i x hv
      cases hstep
      have hj : j < (M k).2.2.1 := by rw [← hl.2.2.1]; exact (List.getElem?_eq_some_iff.mp hv).1
      obtain ⟨kp, hkp⟩ := List.getElem?_of_mem (am_pairs_mem (G := G) (q := (j, .int x)) |>.mpr ⟨_, hv, rfl⟩)
      exact lv_iinc hx hb hd hpair hkp rfl hj rfl (fun ls' h' => kk ls' (am_ls_set1 (v := .int (x + Int32.ofInt n)) hl rfl h') rfl)
    · cases hstep
  case iadd =>
    have hln : len = 1 := by simpa [am_sws, am_len] using hln
    subst hln
    simp only [am_step] at hstep
    split at hstep
    · rename_i y x r
      simp only [am_ib] at hstep
      cases hstep
      exact lv_iadd hx hb hd (kk ls hl rfl)
    · cases hstep
  case isub =>
    have hln : len = 1 := by simpa [am_sws, am_len] using hln
    subst hln
    simp only [am_step] at hstep
    split at hstep
    · rename_i y x r
      simp only [am_ib] at hstep
      cases hstep
      exact lv_isub hx hb hd (kk ls hl rfl)
    · cases hstep
  case imul =>
    have hln : len = 1 := by simpa [am_sws, am_len] using hln
    subst hln
    simp only [am_step] at hstep
    split at hstep
    · rename_i y x r
      simp only [am_ib] at hstep
      cases hstep
      exact lv_imul hx hb hd (kk ls hl rfl)
    · cases hstep
  case idiv =>
    have hln : len = 1 := by simpa [am_sws, am_len] using hln
    subst hln
    simp only [am_step] at hstep
    split at hstep
    · rename_i y x r
      simp only [am_ib] at hstep
      by_cases hy : y = 0
      · rw [if_pos hy] at hstep; cases hstep
      · rw [if_neg hy] at hstep; cases hstep; exact lv_idiv hx hb hd hy (kk ls hl rfl)
    · cases hstep
  case irem =>
    have hln : len = 1 := by simpa [am_sws, am_len] using hln
    subst hln
    simp only [am_step] at hstep
    split at hstep
    · rename_i y x r
      simp only [am_ib] at hstep
      by_cases hy : y = 0
      · rw [if_pos hy] at hstep; cases hstep
      · rw [if_neg hy] at hstep; cases hstep; exact lv_irem hx hb hd hy (kk ls hl rfl)
    · cases hstep
  case iand =>
    have hln : len = 1 := by simpa [am_sws, am_len] using hln
    subst hln
    simp only [am_step] at hstep
    split at hstep
    · rename_i y x r
      simp only [am_ib] at hstep
      cases hstep
      exact lv_iand hx hb hd (kk ls hl rfl)
    · cases hstep
  case ior =>
    have hln : len = 1 := by simpa [am_sws, am_len] using hln
    subst hln
    simp only [am_step] at hstep
    split at hstep
    · rename_i y x r
      simp only [am_ib] at hstep
      cases hstep
      exact lv_ior hx hb hd (kk ls hl rfl)
    · cases hstep
  case ixor =>
    have hln : len = 1 := by simpa [am_sws, am_len] using hln
    subst hln
    simp only [am_step] at hstep
    split at hstep
    · rename_i y x r
      simp only [am_ib] at hstep
      cases hstep
      exact lv_ixor hx hb hd (kk ls hl rfl)
    · cases hstep
  case ishl =>
    have hln : len = 1 := by simpa [am_sws, am_len] using hln
    subst hln
    simp only [am_step] at hstep
    split at hstep
    · rename_i y x r
      simp only [am_ib] at hstep
      cases hstep
      exact lv_ishl hx hb hd (kk ls hl rfl)
    · cases hstep
  case ishr =>
    have hln : len = 1 := by simpa [am_sws, am_len] using hln
    subst hln
    simp only [am_step] at hstep
    split at hstep
    · rename_i y x r
      simp only [am_ib] at hstep
      cases hstep
      exact lv_ishr hx hb hd (kk ls hl rfl)
    · cases hstep
  case iushr =>
    have hln : len = 1 := by simpa [am_sws, am_len] using hln
    subst hln
    simp only [am_step] at hstep
    split at hstep
    · rename_i y x r
      simp only [am_ib] at hstep
      cases hstep
      exact lv_iushr hx hb hd rfl (kk ls hl rfl)
    · cases hstep
  case ladd =>
    have hln : len = 1 := by simpa [am_sws, am_len] using hln
    subst hln
    simp only [am_step] at hstep
    split at hstep
    · rename_i y x r
      simp only [am_lb] at hstep
      cases hstep
      exact lv_ladd hx hb hd (kk ls hl rfl)
    · cases hstep
  case lsub =>
    have hln : len = 1 := by simpa [am_sws, am_len] using hln
    subst hln
    simp only [am_step] at hstep
    split at hstep
    · rename_i y x r
      simp only [am_lb] at hstep
      cases hstep
      exact lv_lsub hx hb hd (kk ls hl rfl)
    · cases hstep
  case lmul =>
    have hln : len = 1 := by simpa [am_sws, am_len] using hln
    subst hln
    simp only [am_step] at hstep
    split at hstep
    · rename_i y x r
      simp only [am_lb] at hstep
      cases hstep
      exact lv_lmul hx hb hd (kk ls hl rfl)
    · cases hstep
  case ldiv =>
    have hln : len = 1 := by simpa [am_sws, am_len] using hln
    subst hln
    simp only [am_step] at hstep
    split at hstep
    · rename_i y x r
      simp only [am_lb] at hstep
      by_cases hy : y = 0
      · rw [if_pos hy] at hstep; cases hstep
      · rw [if_neg hy] at hstep; cases hstep; exact lv_ldiv hx hb hd hy (kk ls hl rfl)
    · cases hstep
  case lrem =>
    have hln : len = 1 := by simpa [am_sws, am_len] using hln
    subst hln
    simp only [am_step] at hstep
    split at hstep
    · rename_i y x r
      simp only [am_lb] at hstep
      by_cases hy : y = 0
      · rw [if_pos hy] at hstep; cases hstep
      · rw [if_neg hy] at hstep; cases hstep; exact lv_lrem hx hb hd hy (kk ls hl rfl)
    · cases hstep
  case land =>
    have hln : len = 1 := by simpa [am_sws, am_len] using hln
    subst hln
    simp only [am_step] at hstep
    split at hstep
    · rename_i y x r
      simp only [am_lb] at hstep
      cases hstep
      exact lv_land hx hb hd (kk ls hl rfl)
    · cases hstep
  case lor =>
    have hln : len = 1 := by simpa [am_sws, am_len] using hln
    subst hln
    simp only [am_step] at hstep
    split at hstep
    · rename_i y x r
      simp only [am_lb] at hstep
      cases hstep
      exact lv_lor hx hb hd (kk ls hl rfl)
    · cases hstep
  case lxor =>
    have hln : len = 1 := by simpa [am_sws, am_len] using hln
    subst hln
    simp only [am_step] at hstep
    split at hstep
    · rename_i y x r
      simp only [am_lb] at hstep
      cases hstep
      exact lv_lxor hx hb hd (kk ls hl rfl)
    · cases hstep
  case lcmp =>
    have hln : len = 1 := by simpa [am_sws, am_len] using hln
    subst hln
    simp only [am_step] at hstep
    split at hstep
    · rename_i y x r
      simp only [am_lb] at hstep
      cases hstep
      exact W.lcmp hx hb hd (kk ls hl rfl)
    · cases hstep
  case lshl =>
    have hln : len = 1 := by simpa [am_sws, am_len] using hln
    subst hln
    simp only [am_step] at hstep
    split at hstep
    · rename_i y x r
      cases hstep
      exact lv_lshl hx hb hd rfl (kk ls hl rfl)
    · cases hstep
  case ineg =>
    have hln : len = 1 := by simpa [am_sws, am_len] using hln
    subst hln
    simp only [am_step] at hstep
    split at hstep
    · rename_i v r
      cases v with
      | int x =>
        simp only [am_un] at hstep
        cases hstep
        exact lv_ineg hx hb hd (kk ls hl rfl)
      | _ => simp [am_un] at hstep
    · cases hstep
  case lneg =>
    have hln : len = 1 := by simpa [am_sws, am_len] using hln
    subst hln
    simp only [am_step] at hstep
    split at hstep
    · rename_i v r
      cases v with
      | long x =>
        simp only [am_un] at hstep
        cases hstep
        exact lv_lneg hx hb hd (kk ls hl rfl)
      | _ => simp [am_un] at hstep
    · cases hstep
  case i2l =>
    have hln : len = 1 := by simpa [am_sws, am_len] using hln
    subst hln
    simp only [am_step] at hstep
    split at hstep
    · rename_i v r
      cases v with
      | int x =>
        simp only [am_un] at hstep
        cases hstep
        exact lv_i2l hx hb hd rfl (kk ls hl rfl)
      | _ => simp [am_un] at hstep
    · cases hstep
  case l2i =>
    have hln : len = 1 := by simpa [am_sws, am_len] using hln
    subst hln
    simp only [am_step] at hstep
    split at hstep
    · rename_i v r
      cases v with
      | long x =>
        simp only [am_un] at hstep
        cases hstep
        exact lv_l2i hx hb hd rfl (kk ls hl rfl)
      | _ => simp [am_un] at hstep
    · cases hstep
  case i2c =>
    have hln : len = 1 := by simpa [am_sws, am_len] using hln
    subst hln
    simp only [am_step] at hstep
    split at hstep
    · rename_i v r
      cases v with
      | int x =>
        simp only [am_un] at hstep
        cases hstep
        exact lv_i2c hx hb hd rfl (kk ls hl rfl)
      | _ => simp [am_un] at hstep
    · cases hstep
  case i2b =>
    have hln : len = 1 := by simpa [am_sws, am_len] using hln
    subst hln
    simp only [am_step] at hstep
    split at hstep
    · rename_i v r
      cases v with
      | int x =>
        simp only [am_un] at hstep
        cases hstep
        exact lv_i2b hx hb hd rfl (kk ls hl rfl)
      | _ => simp [am_un] at hstep
    · cases hstep
  case i2s =>
    have hln : len = 1 := by simpa [am_sws, am_len] using hln
    subst hln
    simp only [am_step] at hstep
    split at hstep
    · rename_i v r
      cases v with
      | int x =>
        simp only [am_un] at hstep
        cases hstep
        exact lv_i2s hx hb hd rfl (kk ls hl rfl)
      | _ => simp [am_un] at hstep
    · cases hstep
  case dup =>
    have hln : len = 1 := by simpa [am_sws, am_len] using hln
    subst hln
    simp only [am_step] at hstep
    split at hstep
    · rename_i v r
      split at hstep
      · rename_i hv
        cases hstep
        exact lv_dup hx hb hd (by rw [am_v_cat]; exact hv) (kk ls hl rfl)
      · cases hstep
    · cases hstep
  case pop =>
    have hln : len = 1 := by simpa [am_sws, am_len] using hln
    subst hln
    simp only [am_step] at hstep
    split at hstep
    · rename_i v r
      split at hstep
      · rename_i hv
        cases hstep
        exact lv_pop hx hb hd (by rw [am_v_cat]; exact hv) (kk ls hl rfl)
      · cases hstep
    · cases hstep
  case pop2 =>
    have hln : len = 1 := by simpa [am_sws, am_len] using hln
    subst hln
    simp only [am_step] at hstep
    split at hstep
    · rename_i v r
      split at hstep
      · rename_i hv
        cases hstep
        exact lv_pop2_2 hx hb hd (by rw [am_v_cat]; exact hv) (kk ls hl rfl)
      · cases hstep
    · cases hstep
  case dup2 =>
    have hln : len = 1 := by simpa [am_sws, am_len] using hln
    subst hln
    simp only [am_step] at hstep
    split at hstep
    · rename_i v r
      split at hstep
      · rename_i hv
        cases hstep
        exact lv_dup2_2 hx hb hd (by rw [am_v_cat]; exact hv) (kk ls hl rfl)
      · split at hstep
        · rename_i w2 r2
          split at hstep
          · rename_i hvw
            cases hstep
            exact lv_dup2_11 hx hb hd (by rw [am_v_cat]; exact hvw.1) (by rw [am_v_cat]; exact hvw.2) (kk ls hl rfl)
          · cases hstep
        · cases hstep
    · cases hstep
  case goto off =>
    have hln : len = 3 := by simpa [am_sws, am_len] using hln
    subst hln
    have ht : (pc : Int) + off = (a : Int) := of_decide_eq_true hc2
    cases hstep
    exact lv_goto hx hb hd ht (kk ls hl rfl)
  case ifCond o off =>
    have hln : len = 3 := by simpa [am_sws, am_len] using hln
    subst hln
    have ht : (pc : Int) + off = (a : Int) := of_decide_eq_true hc2
    simp only [am_step] at hstep
    split at hstep
    · rename_i x r
      cases hstep
      cases o
      case eq => exact lv_if_eq hx hb hd ht (fun h => by have kk := kk ls hl rfl; simp only [am_c1, h, decide_true, if_true] at kk; simpa [am_c1, h] using kk) (fun h => by have kk := kk ls hl rfl; simpa [am_c1, h] using kk)
      case ne => exact lv_if_ne hx hb hd ht (fun h => by have kk := kk ls hl rfl; simp only [am_c1, h, decide_true, if_true] at kk; simpa [am_c1, h] using kk) (fun h => by have kk := kk ls hl rfl; simpa [am_c1, h] using kk)
      case lt => exact lv_if_lt hx hb hd ht (fun h => by have kk := kk ls hl rfl; simp only [am_c1, h, decide_true, if_true] at kk; simpa [am_c1, h] using kk) (fun h => by have kk := kk ls hl rfl; simpa [am_c1, h] using kk)
      case ge => exact lv_if_ge hx hb hd ht (fun h => by have kk := kk ls hl rfl; simp only [am_c1, h, decide_true, if_true] at kk; simpa [am_c1, h] using kk) (fun h => by have kk := kk ls hl rfl; simpa [am_c1, h] using kk)
      case gt => exact lv_if_gt hx hb hd ht (fun h => by have kk := kk ls hl rfl; simp only [am_c1, h, decide_true, if_true] at kk; simpa [am_c1, h] using kk) (fun h => by have kk := kk ls hl rfl; simpa [am_c1, h] using kk)
      case le => exact lv_if_le hx hb hd ht (fun h => by have kk := kk ls hl rfl; simp only [am_c1, h, decide_true, if_true] at kk; simpa [am_c1, h] using kk) (fun h => by have kk := kk ls hl rfl; simpa [am_c1, h] using kk)
    · cases hstep
  case if_icmp o off =>
    have hln : len = 3 := by simpa [am_sws, am_len] using hln
    subst hln
    have ht : (pc : Int) + off = (a : Int) := of_decide_eq_true hc2
    simp only [am_step] at hstep
    split at hstep
    · rename_i y x r
      cases hstep
      cases o
      case eq => exact lv_icmp_eq hx hb hd ht (fun h => by have kk := kk ls hl rfl; simpa [am_c2, h] using kk) (fun h => by have kk := kk ls hl rfl; simpa [am_c2, h] using kk)
      case ne => exact lv_icmp_ne hx hb hd ht (fun h => by have kk := kk ls hl rfl; simpa [am_c2, h] using kk) (fun h => by have kk := kk ls hl rfl; simpa [am_c2, h] using kk)
      case lt => exact lv_icmp_lt hx hb hd ht (fun h => by have kk := kk ls hl rfl; simpa [am_c2, h] using kk) (fun h => by have kk := kk ls hl rfl; simpa [am_c2, h] using kk)
      case ge => exact lv_icmp_ge hx hb hd ht (fun h => by have kk := kk ls hl rfl; simpa [am_c2, h] using kk) (fun h => by have kk := kk ls hl rfl; simpa [am_c2, h] using kk)
      case gt => exact lv_icmp_gt hx hb hd ht (fun h => by have kk := kk ls hl rfl; simpa [am_c2, h] using kk) (fun h => by have kk := kk ls hl rfl; simpa [am_c2, h] using kk)
      case le => exact lv_icmp_le hx hb hd ht (fun h => by have kk := kk ls hl rfl; simpa [am_c2, h] using kk) (fun h => by have kk := kk ls hl rfl; simpa [am_c2, h] using kk)
    · cases hstep
  case tableswitch dflt lo hi offs =>
    simp only [am_chk2, Bool.and_eq_true, decide_eq_true_eq, List.all_eq_true] at hc2
    obtain ⟨⟨h0, h1⟩, h2⟩ := hc2
    simp only [am_step] at hstep
    split at hstep
    · rename_i x r
      cases hstep
      by_cases hr : x.toInt < lo ∨ hi < x.toInt
      · refine lv_tableOut (tgt := ((pc : Int) + dflt).toNat) hx hb hd hr (Int.toNat_of_nonneg h0).symm ?_
        have kk := kk ls hl rfl
        simpa only [am_sw, if_pos hr] using kk
      · have hi1 : ¬ x.toInt < lo := fun q => hr (Or.inl q)
        have hi2 : ¬ hi < x.toInt := fun q => hr (Or.inr q)
        have hlt : (x.toInt - lo).toNat < offs.size := by omega
        have ho : offs[(x.toInt - lo).toNat]? = some offs[(x.toInt - lo).toNat] := Array.getElem?_eq_getElem hlt
        have hn := h1 _ (Array.getElem_mem_toList hlt)
        refine lv_tableIn (tgt := ((pc : Int) + offs[(x.toInt - lo).toNat]).toNat) hx hb hd hi1 hi2 ho (Int.toNat_of_nonneg hn).symm ?_
        have kk := kk ls hl rfl
        simpa only [am_sw, if_neg hr, ho, Option.getD_some] using kk
    · cases hstep
  case lookupswitch dflt ps =>
    simp only [am_chk2, Bool.and_eq_true, decide_eq_true_eq] at hc2
    obtain ⟨⟨h0, h1⟩, h2⟩ := hc2
    simp only [am_step] at hstep
    split at hstep
    · rename_i x r
      cases hstep
      exact lv_lookup hx hb hd h0 rfl (Int.toNat_of_nonneg (am_look_nn h1 (fun q hq => of_decide_eq_true (List.all_eq_true.mp h2 q hq)) x.toInt)).symm (kk ls hl rfl)
    · cases hstep
  all_goals (exfalso; simp [am_step] at hstep; done)
end AMP
