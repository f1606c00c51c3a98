/-! EVERY METHOD OF THE SMALL MACHINE HAS ITS CONTRACT OF THE MACHINE -/
theorem am_flat_len (G : am_G) (as : List Value) : (lg_sl (as.map (am_v G))).length = (am_flat as).length := by
  induction as with
  | nil => rfl
  | cons v t ih =>
    have e1 : lg_sl ((v :: t).map (am_v G)) = (if v.category = 2 then [.val (am_v G v), .second] else [.val (am_v G v)]) ++ lg_sl (t.map (am_v G)) := by
      simp [lg_sl, am_v_cat]
    have e2 : am_flat (v :: t) = (if v.category = 2 then [some v, none] else [some v]) ++ am_flat t := by simp [am_flat]
    rw [e1, e2, List.length_append, List.length_append, ih]
    split <;> rfl
theorem am_flat_at (G : am_G) : ∀ (as : List Value) (i : Nat) (v : Value), (am_flat as)[i]? = some (some v) → (lg_sl (as.map (am_v G)))[i]? = some (.val (am_v G v)) := by
  intro as
  induction as with
  | nil => intro i v h; simp [am_flat] at h
  | cons w t ih =>
    intro i v h
    have e1 : lg_sl ((w :: t).map (am_v G)) = (if w.category = 2 then [.val (am_v G w), .second] else [.val (am_v G w)]) ++ lg_sl (t.map (am_v G)) := by
      simp [lg_sl, am_v_cat]
    have e2 : am_flat (w :: t) = (if w.category = 2 then [some w, none] else [some w]) ++ am_flat t := by simp [am_flat]
    rw [e2] at h
    rw [e1]
    split at h
    · rename_i hc
      rw [if_pos hc]
      match i, h with
      | 0, h => cases h; rfl
      | 1, h => cases h
      | j + 2, h => exact ih j v h
    · rename_i hc
      rw [if_neg hc]
      match i, h with
      | 0, h => cases h; rfl
      | j + 1, h => exact ih j v h
theorem am_entry_ls (G : am_G) (as : List Value) {n : Nat} (h : (am_flat as).length ≤ n) : am_ls G ((lg_sl (as.map (am_v G)) ++ List.replicate (n - (lg_sl (as.map (am_v G))).length) Slot.unset).toArray) n (am_entry n as) := by
  have hl := lv_entry (as.map (am_v G)) (n := n) (by rw [am_flat_len]; exact h)
  refine ⟨hl.1, hl.2.1, ?_, fun i v hi => ?_⟩
  · simp only [am_entry, List.length_append, List.length_replicate]
    omega
  · unfold am_entry at hi
    by_cases hlt : i < (am_flat as).length
    · rw [List.getElem?_append_left hlt] at hi
      have h1 := am_flat_at G as i v hi
      rw [List.getElem?_toArray, List.getElem?_append_left (by rw [am_flat_len]; exact hlt)]
      exact h1
    · rw [List.getElem?_append_right (Nat.le_of_not_lt hlt), List.getElem?_replicate] at hi
      split at hi <;> cases hi
theorem am_end_i {ret : Option FieldType} {len a b w : Nat} {cst : Int} {st : List Value} {S : am_S} {r : am_R} (h : am_end ret (.ireturn, len, a, b, w, cst) st S = some r) : ∃ v ty, st = [.int v] ∧ ret = some ty ∧ narrow ty (.int v) = .int v ∧ r = (.inl (some (.int v)), S) := by
  unfold am_end at h
  dsimp only at h
  split at h
  · split at h
    · rename_i hn
      cases h
      exact ⟨_, _, rfl, rfl, hn, rfl⟩
    · cases h
  · cases h
theorem am_end_l {ret : Option FieldType} {len a b w : Nat} {cst : Int} {st : List Value} {S : am_S} {r : am_R} (h : am_end ret (.lreturn, len, a, b, w, cst) st S = some r) : ∃ v, st = [.long v] ∧ ret = some .long ∧ r = (.inl (some (.long v)), S) := by
  unfold am_end at h
  dsimp only at h
  split at h
  · cases h
    exact ⟨_, rfl, rfl, rfl⟩
  · cases h
theorem am_end_v {ret : Option FieldType} {len a b w : Nat} {cst : Int} {st : List Value} {S : am_S} {r : am_R} (h : am_end ret (.return_, len, a, b, w, cst) st S = some r) : st = [] ∧ ret = none ∧ r = (.inl none, S) := by
  unfold am_end at h
  dsimp only at h
  split at h
  · cases h
    exact ⟨rfl, rfl, rfl⟩
  · cases h
theorem am_end_n {ret : Option FieldType} {x len a b w : Nat} {cst : Int} {st : List Value} {S : am_S} {r : am_R} (h : am_end ret (.new x, len, a, b, w, cst) st S = some r) : st = [] ∧ (a = 100 ∨ a = 101 ∨ a = 102) ∧ r = (.inr (am_exc a), am_thrown S) := by
  unfold am_end at h
  dsimp only at h
  split at h
  · rename_i hs
    split at h
    · cases h; exact ⟨hs, Or.inl rfl, rfl⟩
    · cases h; exact ⟨hs, Or.inr (Or.inl rfl), rfl⟩
    · cases h; exact ⟨hs, Or.inr (Or.inr rfl), rfl⟩
    · cases h
  · cases h
/-- a contract out of its body, for a method in whose place no native stands -/
theorem am_ofW {l : Launch} {y : MethodName} {ws : List Cond} {rm : Room} {Pc : Array Value → State → Prop} {Qc : Array Value → State → Outcome → State → Prop} {XC : String → State → State → Prop} {mc ms : Nat} {free : Addr → Prop} {cc : ByteArray} {maxL : Nat} {ret : Option FieldType}
    (hy : plainFor y = true) (hw : Cond.code y cc maxL ret ∈ ws)
    (body : ∀ p e s m args below meth c s₁, BodyLoose p l y (headSpec ws rm) cc maxL ret e s m args below meth c s₁ → c.maxLocals = maxL → (∀ x ∈ c.exceptionTable.toList, False) → Pc args s →
      W p l e (headSpec ws rm).room s m args below meth c s.heap [] 0 0 (vx_MQ below Qc XC args s mc ms free) (entryFrame m args maxL)) : vx_Met l y ws rm Pc Qc XC mc ms free := by
  refine MetFree.of_bodySF (code := cc) (maxLocals := maxL) (ret := ret) hy ?_ ?_
  · intro args s m h hn
    obtain ⟨meth, c, h1, h2, h3, h4, h5, h6, -, -⟩ := Cond.code_spec hn (atoms_spec (ws := ws) h _ hw)
    exact ⟨meth, c, h1, h2, h3, h4, h5, h6⟩
  · intro p e s m args below meth c s₁ B hml hP _
    have hh0 : s₁.heap = s.heap := by rw [B.state]; rfl
    have ht : ∀ x ∈ c.exceptionTable.toList, False := by
      obtain ⟨meth9, c9, h1, h2, -, -, -, -, h7, -⟩ := Cond.code_spec B.named (atoms_spec (ws := ws) B.pre _ hw)
      cases Option.some.inj (h1.symm.trans B.method)
      cases Option.some.inj (h2.symm.trans (Stand.of_body B).code)
      intro x hx
      rw [Array.isEmpty_iff.mp h7] at hx
      cases hx
    obtain ⟨t, a1, o, b1, b2, b3⟩ := body p e s m args below meth c s₁ B hml ht hP s₁ hh0 (Stand.of_body B)
    exact ⟨t, o, a1, b1, b2, b3⟩
theorem am_ofWH {l : Launch} {y : MethodName} {ws : List Cond} {rm : Room} {Pc : Array Value → State → Prop} {Qc : Array Value → State → Outcome → State → Prop} {XC : String → State → State → Prop} {mc ms : Nat} {free : Addr → Prop} {cc : ByteArray} {maxL : Nat} {ret : Option FieldType} {hh : List (Nat × Nat × Nat × Nat)}
    (hy : plainFor y = true) (hw : Cond.codeWith y cc maxL ret hh ∈ ws)
    (body : ∀ p e s m args below meth c s₁, BodyLoose p l y (headSpec ws rm) cc maxL ret e s m args below meth c s₁ → c.maxLocals = maxL → Pc args s →
      W p l e (headSpec ws rm).room s m args below meth c s.heap [] 0 0 (vx_MQ below Qc XC args s mc ms free) (entryFrame m args maxL)) : vx_Met l y ws rm Pc Qc XC mc ms free := by
  refine MetFree.of_bodySF (code := cc) (maxLocals := maxL) (ret := ret) hy ?_ ?_
  · intro args s m h hn
    obtain ⟨m9, meth, c, hn9, h1, h2, h3, h4, -, h5, h6, -⟩ := Cond.codeWith_spec (atoms_spec (ws := ws) h _ hw)
    cases hn.symm.trans hn9
    exact ⟨meth, c, h1, h2, h3, h4, h5, h6⟩
  · intro p e s m args below meth c s₁ B hml hP _
    have hh0 : s₁.heap = s.heap := by rw [B.state]; rfl
    obtain ⟨t, a1, o, b1, b2, b3⟩ := body p e s m args below meth c s₁ B hml hP s₁ hh0 (Stand.of_body B)
    exact ⟨t, o, a1, b1, b2, b3⟩
section AMS
variable {l : Launch} {M : Nat → am_M} {kd : Nat → Nat} {P : Nat → Nat → Option am_I} {G : am_G}
section AMS1
variable {p : Program} {e : Env} {R : Room} {s : State} {m : MethodId} {args : Array Value} {below : List Frame} {meth : Method} {c : Code} {k pc : Nat} {ls : Array Slot} {H : Heap} {locs : List Loc}
/-- a method's end -/
theorem am_kend (hl : l.stackTraces = false) (C : am_ctx M G p s m args meth c k) (hlocks : meth.locks = false) (hr : meth.sig.returnType = (M k).2.2.2.1) (htab : c.exceptionTable.toList = tableOf (am_hh M k)) {c0 s0 : Nat} {rF : am_R} {i : am_I} {L : am_L} {st : List Value} {S : am_S}
    (hRf : 17 ≤ R.frames) (hRl : 460 ≤ R.locals) (hRc : rF.2.2.2.1 ≤ c0 + R.cells) (hRs : rF.2.2.2.2 ≤ s0 + R.slots)
    (hchk : am_chk M k pc i = true) (he : am_end (M k).2.2.2.1 i st S = some rF) (hls : am_ls G ls (M k).2.2.1 L) (hw : am_world G S H) (hS : va_S (am_A G) s.heap H locs) (hc0 : c0 ≤ S.2.2.1) (hs0 : s0 ≤ S.2.2.2) :
    W p l e R s m args below meth c H locs (S.2.2.1 - c0) (S.2.2.2 - s0) (vx_MQ below (am_Qc G rF) (am_XC G rF) args s (rF.2.2.2.1 - c0) (rF.2.2.2.2 - s0) (am_A G)) (F0 m pc ls (st.map (am_v G))) := by
  obtain ⟨hx, hb, hml, hown, hgw, henv, hnm⟩ := C
  obtain ⟨hd, hln, hc2⟩ := am_chk_sp hchk
  obtain ⟨op, len, a, b, w, cst⟩ := i
  dsimp only at hd hln hc2
  cases op <;> first | (exact absurd (show (none : Option am_R) = some rF from he) (by simp)) | skip
  case ireturn =>
    have hl1 : len = 1 := by simpa [am_sws, am_len] using hln
    subst hl1
    obtain ⟨v, ty, rfl, hty, hnar, rfl⟩ := am_end_i he
    rw [hty] at hr
    exact vx_ret (W.zret hx hb hr hnar (fun t ht _ => ⟨⟨some (.int v), rfl, rfl, by rw [ht]; exact hw⟩, hS.F ht⟩) hS.2.2 hd hlocks)
  case lreturn =>
    have hl1 : len = 1 := by simpa [am_sws, am_len] using hln
    subst hl1
    obtain ⟨v, rfl, hty, rfl⟩ := am_end_l he
    rw [hty] at hr
    exact vx_ret (W.lret hx hb hr (fun t ht _ => ⟨⟨some (.long v), rfl, rfl, by rw [ht]; exact hw⟩, hS.F ht⟩) hS.2.2 hd hlocks)
  case return_ =>
    have hl1 : len = 1 := by simpa [am_sws, am_len] using hln
    subst hl1
    obtain ⟨rfl, hty, rfl⟩ := am_end_v he
    rw [hty] at hr
    exact vx_ret (W.vret hx hb hr (fun t ht _ => ⟨⟨none, rfl, rfl, by rw [ht]; exact hw⟩, hS.F ht⟩) hS.2.2 hd hlocks)
  case new x =>
      have hl1 : len = 3 := by simpa [am_sws, am_len] using hln
      subst hl1
      obtain ⟨rfl, ha, rfl⟩ := am_end_n he
      have ha11 : ¬ a < 11 := by rcases ha with rfl | rfl | rfl <;> decide
      simp only [am_chk2, if_neg ha11, Bool.and_eq_true, decide_eq_true_eq] at hc2
      obtain ⟨⟨⟨⟨⟨⟨-, hwd⟩, hth⟩, d3⟩, d4⟩, d7⟩, hemp⟩ := hc2
      obtain ⟨hat, hot, hfit, hini⟩ := am_thr_ok _ hth
      have hno : c.exceptionTable.toList = [] := by
        rw [htab]
        unfold am_hh
        rw [List.isEmpty_iff.mp hemp]
        rfl
      dsimp only at hat hot hfit hini
      refine vx_throw0 (names := am_names) (A := am_A G) hx hb hl hown hfit am_names_fit (hgw _ (am_word_gw hwd rfl)) (hgw _ hini) (fun w9 h9 => (hat w9 h9).elim (fun h => hgw _ h) (fun h => va_Nw.use ?_ (henv.2.2.2.2.2.1 _ h))) (fun w9 h9 => ?_) henv.2.1 henv.2.2.1 hS (hls.1.trans hml.symm) hd d3 d4 d7 (fun y hy => by rw [hno] at hy; cases hy)
        (by show 2 + 3 < R.frames; omega) (by show 0 + (13 * (2 + 1) + 42) ≤ R.locals; omega) ?_ ?_ hlocks (fun t hal hz hk => ⟨rfl, ⟨fun k9 q9 hq => ?_, hw.2⟩, ?_, fun q hq1 hq2 => ?_⟩) hS.2.2 ?_ ?_
      · have hk9 : am_nwK w9 = true := (List.mem_filter.mp h).2
        cases w9 <;> first | (exact absurd (show false = true from hk9) (by decide)) | rfl
      · rcases List.mem_cons.mp h9 with rfl | h9
        · rfl
        · rcases List.mem_cons.mp h9 with rfl | h9
          · rfl
          · exact hot w9 h9
      · have h1 : S.2.2.1 + 1 ≤ c0 + R.cells := hRc
        omega
      · have h1 : S.2.2.2 + 6 ≤ s0 + R.slots := hRs
        omega
      · have hv := hw.1 k9 q9 hq
        exact hv.kept (hk _ hv.lt)
      · exact Nat.le_trans hS.1 hz
      · rw [hk q (Nat.lt_of_lt_of_le hq1 hS.1)]
        exact hS.2.1 q hq1 hq2
      · show S.2.2.1 - c0 + 1 ≤ S.2.2.1 + 1 - c0
        omega
      · show S.2.2.2 - s0 + 6 ≤ S.2.2.2 + 6 - s0
        omega
/-- an exception that this method does not catch -/
theorem am_kout (hlocks : meth.locks = false) (htab : c.exceptionTable.toList = tableOf (am_hh M k)) {c0 s0 : Nat} {rF : am_R} {E : String} {ce : Cell} {q9 : Addr} {rest : List Value} {S : am_S} (hh : (M k).2.2.2.2 = []) (hrF : rF = (.inr E, S)) (hw : am_world G S H) (hS : va_S (am_A G) s.heap H locs)
    (hce : H[q9]? = some ce) (hcv : ce.vm = .none) (hcl : s.vm.findClass E = some ce.cls) :
    vx_W p l e R s m args below meth c H locs (S.2.2.1 - c0) (S.2.2.2 - s0) (vx_MQ below (am_Qc G rF) (am_XC G rF) args s (rF.2.2.2.1 - c0) (rF.2.2.2.2 - s0) (am_A G)) (F0 m pc ls rest) q9 := by
  subst hrF
  have hno : c.exceptionTable.toList = [] := by
    rw [htab]
    unfold am_hh
    rw [hh]
    rfl
  exact vx_out (E := E) (fun y hy => by rw [hno] at hy; cases hy) hlocks hce hcv hcl (fun t ht _ => ⟨rfl, by rw [ht]; exact hw, hS.F ht⟩) hS.2.2 (Nat.le_refl _) (Nat.le_refl _)
/-- an exception that this method catches -/
theorem am_kcat (C : am_ctx M G p s m args meth c k) (hhok : am_hok M k) (hlocks : meth.locks = false) (hr : meth.sig.returnType = (M k).2.2.2.1) (htab : c.exceptionTable.toList = tableOf (am_hh M k)) {c0 s0 : Nat} {rF : am_R} {E : String} {ce : Cell} {q9 : Addr} {x : Int32} {L : am_L} {rest : List Value} {S : am_S}
    (hf : am_find (M k).2.2.2.2 pc E = some x) (hrF : rF = (.inl (some (.int x)), S)) (hls : am_ls G ls (M k).2.2.1 L) (hw : am_world G S H) (hS : va_S (am_A G) s.heap H locs)
    (hce : H[q9]? = some ce) (hcv : ce.vm = .none) (hcl : s.vm.findClass E = some ce.cls) :
    vx_W p l e R s m args below meth c H locs (S.2.2.1 - c0) (S.2.2.2 - s0) (vx_MQ below (am_Qc G rF) (am_XC G rF) args s (rF.2.2.2.1 - c0) (rF.2.2.2.2 - s0) (am_A G)) (F0 m pc ls rest) q9 := by
  subst hrF
  obtain ⟨hx, hb, hml, hown, hgw, henv, hnm⟩ := C
  obtain ⟨pre, h, suf, hsp, hcov, hE, hnum, hpre⟩ := am_find_split hf
  have hin : h ∈ (M k).2.2.2.2 := by rw [hsp]; simp
  obtain ⟨⟨e1, he1, hce1⟩, hct, hlk, hca, hri, n, q, hnn, hast, hd2, hd3⟩ := hhok h hin
  rw [hri] at hr
  intro T hT X
  have hpl : e.platform.magicAccessors = ({} : Platform).magicAccessors := by rw [X.admits.platform]
  have hnw := va_Nw.use (A := args) rfl (henv.2.2.2.2.2.1 _ hca)
  obtain ⟨c3, c4, hc3, hc4, hasg⟩ := Cond.castable_spec hnw
  obtain ⟨c5, hc5, hcl5⟩ := Cond.classLink_spec hown (hgw _ hlk) e.platform hpl
  rw [hE] at hc3 hc4 hc5
  cases Option.some.inj (hc3.symm.trans hcl)
  cases Option.some.inj (hc4.symm.trans hc5)
  have hsplit : c.exceptionTable.toList = (pre.map fun y => (⟨y.1, y.2.1, y.2.2.1, y.2.2.2.1⟩ : ExceptionTableEntry)) ++ ⟨h.1, h.2.1, h.2.2.1, h.2.2.2.1⟩ :: (suf.map fun y => (⟨y.1, y.2.1, y.2.2.1, y.2.2.2.1⟩ : ExceptionTableEntry)) := by
    rw [htab]
    unfold am_hh tableOf
    rw [hsp, List.map_map, List.map_append, List.map_cons]
    rfl
  obtain ⟨vm', X', st⟩ := am_caught X (a := q9) (g := F0 m pc ls rest) rfl (cell := ce) (by rw [hT]; exact hce) (fun k9 h9 => by rw [hcv] at h9; cases h9) (by obtain ⟨k9, h9, -⟩ := Vm.findClass_spec hcl; exact ⟨k9, h9⟩) _ _ _ hsplit
    (fun y hy => by
      obtain ⟨z, hz, rfl⟩ := List.mem_map.mp hy
      by_cases hcz : z.1 ≤ pc ∧ pc < z.2.1
      · have hzin : z ∈ (M k).2.2.2.2 := by rw [hsp]; simp [hz]
        obtain ⟨⟨e2, he2, hce2⟩, hzt, hzl, -⟩ := hhok z hzin
        have hne : e1 ≠ e2 := fun h9 => hpre z hz ⟨hcz.1, hcz.2, by rw [hce2, ← h9, ← hce1, hE]⟩
        obtain ⟨c6, hc6, hcl6⟩ := Cond.classLink_spec hown (hgw _ hzl) e.platform hpl
        obtain ⟨a8, b8, h1, h2, h3⟩ := henv.2.2.2.2.2.2.2.2 e1 e2 he1 he2 hne
        rw [← hce1, hE] at h1
        rw [← hce2] at h2
        cases Option.some.inj (h1.symm.trans hcl)
        cases Option.some.inj (h2.symm.trans hc6)
        exact Or.inr ⟨by simp [covers, hcz.1, hcz.2], hzt, _, hcl6, h3⟩
      · refine Or.inl ⟨rfl, ?_⟩
        simp only [covers, Bool.and_eq_false_iff, decide_eq_false_iff_not]
        by_cases h9 : z.1 ≤ pc
        · exact Or.inr fun h10 => hcz ⟨h9, h10⟩
        · exact Or.inl h9)
    (Or.inr ⟨by simp [covers, hcov.1, hcov.2], hct, _, hcl5, hasg⟩)
  have hend : ∀ ls' : Array Slot, W p l e R s m args below meth c H locs (S.2.2.1 - c0) (S.2.2.2 - s0) (vx_MQ below (am_Qc G (.inl (some (.int x)), S)) (am_XC G (.inl (some (.int x)), S)) args s (S.2.2.1 - c0) (S.2.2.2 - s0) (am_A G)) (F0 m q ls' []) := by
    intro ls'
    refine lv_iconst hx hb hd2 (hnn.trans hnum) ?_
    exact vx_ret (W.zret hx hb hr rfl (fun t ht _ => ⟨⟨some (.int x), rfl, rfl, by rw [ht]; exact hw⟩, hS.F ht⟩) hS.2.2 hd3 hlocks)
  have hgo : W p l e R s m args below meth c H locs (S.2.2.1 - c0) (S.2.2.2 - s0) (vx_MQ below (am_Qc G (.inl (some (.int x)), S)) (am_XC G (.inl (some (.int x)), S)) args s (S.2.2.1 - c0) (S.2.2.2 - s0) (am_A G)) (F0 m h.2.2.1 ls [.ref q9]) := by
    rcases hast with ⟨j, hdj, hq, hj⟩ | ⟨j, hdj, hq, hj⟩
    · subst hq
      exact lv_astore_n hx hb hdj rfl (am_ls_has hls) hj rfl (fun ls' _ => hend ls')
    · subst hq
      exact lv_astore hx hb hdj (am_ls_has hls) hj rfl (fun ls' _ => hend ls')
  obtain ⟨t, a1, b1⟩ := hgo (T.setVm vm') hT X'
  exact ⟨t, st t a1, b1⟩
end AMS1
set_option maxHeartbeats 1000000 in
theorem am_sound (hl : l.stackTraces = false) (hP : ∀ k pc i, P k pc = some i → am_chk M k pc i = true ∧ am_kchk kd i ∧ (am_isCall i.1 = true → i.2.2.1 ≠ 99999 → am_mok M kd i.2.2.1)) (hH : ∀ k, am_hok M k) :
    ∀ (d j : Nat) (as : List Value) (S : am_S) (r : am_R), am_mok M kd j → am_ev P M (am_X G) d j as S r →
      vx_Met l (M j).1 (am_wsM M j) (am_room d S r) (am_Pc G as S) (am_Qc G r) (am_XC G r) (r.2.2.2.1 - S.2.2.1) (r.2.2.2.2 - S.2.2.2) (am_A G) := by
  intro d
  induction d with
  | zero => intro j as S r _ h; exact absurd h (by simp [am_ev])
  | succ d ih =>
    intro j as S r hm h
    have hle : am_le S r.2 := am_ev_le h
    simp only [am_ev] at h
    obtain ⟨hfl, n, hgo⟩ := h
    have body : ∀ p e s m args below meth c s₁, BodyLoose p l (M j).1 (headSpec (am_wsM M j) (am_room (d + 1) S r)) (M j).2.1 (M j).2.2.1 (M j).2.2.2.1 e s m args below meth c s₁ → c.maxLocals = (M j).2.2.1 → c.exceptionTable.toList = tableOf (am_hh M j) → am_Pc G as S args s →
        W p l e (headSpec (am_wsM M j) (am_room (d + 1) S r)).room s m args below meth c s.heap [] 0 0 (vx_MQ below (am_Qc G r) (am_XC G r) args s (r.2.2.2.1 - S.2.2.1) (r.2.2.2.2 - S.2.2.2) (am_A G)) (entryFrame m args (M j).2.2.1) := by
      intro p e s m args below meth c s₁ B hml htab hPc
      obtain ⟨rfl, hw, henv, hsz, hn⟩ := hPc
      have hts := atoms_spec (ws := am_wsM M j) B.pre
      have C : am_ctx M G p s m (as.map (am_v G)).toArray meth c j := ⟨B.exec, B.bytes, hml, findClass_of_methodNamed B.named, fun w hw9 => hts w (List.mem_cons_of_mem _ hw9), henv, (name_of_methodNamed B.named B.method).1⟩
      rw [lg_entry_eq]
      unfold am_le at hle
      refine am_eqW (n1 := S.2.2.1 - S.2.2.1) (m1 := S.2.2.2 - S.2.2.2) (Nat.sub_self _) (Nat.sub_self _) ?_
      refine am_go_ok (R := (headSpec (am_wsM M j) (am_room (d + 1) S r)).room) hP ih C (rF := r) (by show 17 + d ≤ 16 + (d + 1); omega) (by show 460 + 60 * d ≤ 400 + 60 * (d + 1); omega) (by show r.2.2.2.1 ≤ S.2.2.1 + (r.2.2.2.1 - S.2.2.1); omega) (by show r.2.2.2.2 ≤ S.2.2.2 + (r.2.2.2.2 - S.2.2.2); omega)
        (fun pc i L st S9 H locs ls hi he hl9 hw9 hS9 hc9 hs9 => am_kend hl C B.notSynchronized B.returns htab (by show 17 ≤ 16 + (d + 1); omega) (by show 460 ≤ 400 + 60 * (d + 1); omega) (by show r.2.2.2.1 ≤ S.2.2.1 + (r.2.2.2.1 - S.2.2.1); omega) (by show r.2.2.2.2 ≤ S.2.2.2 + (r.2.2.2.2 - S.2.2.2); omega) (hP _ _ _ hi).1 he hl9 hw9 hS9 hc9 hs9)
        (fun E ce q9 pc rest S9 H locs ls hh hrF hw9 hS9 hce hcv hcl => am_kout B.notSynchronized htab hh hrF hw9 hS9 hce hcv hcl)
        (fun E ce q9 pc x L rest S9 H locs ls hf hrF hl9 hw9 hS9 hce hcv hcl => am_kcat C (hH j) B.notSynchronized B.returns htab hf hrF hl9 hw9 hS9 hce hcv hcl)
        n 0 _ [] S hgo s.heap [] _ (am_entry_ls G as hfl) hw va_S.rf (Nat.le_refl _) (Nat.le_refl _) hn (fun e9 => by have h9 := hsz e9; omega)
    by_cases hh : (M j).2.2.2.2 = []
    · refine am_ofW (cc := (M j).2.1) (maxL := (M j).2.2.1) (ret := (M j).2.2.2.1) hm.2.2.2.1 (by unfold am_wsM am_cw; rw [if_pos hh]; exact List.mem_cons_self) ?_
      intro p e s m args below meth c s₁ B hml htab hPc
      refine body p e s m args below meth c s₁ B hml ?_ hPc
      have e1 : am_hh M j = [] := by unfold am_hh; rw [hh]; rfl
      rw [e1]
      cases hcs : c.exceptionTable.toList with
      | nil => rfl
      | cons a9 t9 => exact absurd (htab a9 (by rw [hcs]; exact List.mem_cons_self)) (fun h => h)
    · refine am_ofWH (cc := (M j).2.1) (maxL := (M j).2.2.1) (ret := (M j).2.2.2.1) (hh := am_hh M j) hm.2.2.2.1 (by unfold am_wsM am_cw; rw [if_neg hh]; exact List.mem_cons_self) ?_
      intro p e s m args below meth c s₁ B hml hPc
      refine body p e s m args below meth c s₁ B hml ?_ hPc
      have hts := atoms_spec (ws := am_wsM M j) B.pre
      exact vx_table (x := (M j).1) B (hts (Cond.codeWith (M j).1 (M j).2.1 (M j).2.2.1 (M j).2.2.2.1 (am_hh M j)) (by unfold am_wsM am_cw; rw [if_neg hh]; exact List.mem_cons_self))
end AMS
