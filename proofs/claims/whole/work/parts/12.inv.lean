/-! the five ways of a call, up to the callee's entry -/
/-- the kind of a callee fits the call -/
def am_kchk (kd : Nat → Nat) (i : am_I) : Prop := (∀ x, i.1 = .invokevirtual x → kd i.2.2.1 = 0) ∧ (∀ x, i.1 = .invokestatic x → kd i.2.2.1 = 1) ∧ (∀ x, i.1 = .invokespecial x → i.2.2.1 ≠ 99999 → kd i.2.2.1 = 2)
theorem am_args_inv {i : am_I} {st as rest : List Value} (h : am_args i st = some (as, rest)) : st = as.reverse ++ rest ∧ as.length = i.2.2.2.1 ∧ (rest.map fun v => v.category).sum ≤ 8 := by
  obtain ⟨op, len, a, b, w, cst⟩ := i
  unfold am_args at h
  dsimp only at h
  split at h
  · rename_i hc
    cases h
    refine ⟨by rw [List.reverse_reverse, List.take_append_drop], ?_, hc.2⟩
    rw [List.length_reverse, List.length_take]
    exact Nat.min_eq_left hc.1
  · cases h
section AMI
variable {p : Program} {l : Launch} {e : Env} {R : Room} {s : State} {m : MethodId} {args : Array Value} {below : List Frame} {meth : Method} {c : Code} {H : Heap} {locs : List Loc} {cells slots mc ms : Nat} {Q : State → Prop}
variable {M : Nat → am_M} {kd : Nat → Nat} {G : am_G} {k pc : Nat} {ls : Array Slot}
theorem am_cw_code {j : Nat} (hgw : ∀ w ∈ am_gw, w.before args s = true) (hm : am_mok M kd j) (hh : (M j).2.2.2.2 = []) : (Cond.code (M j).1 (M j).2.1 (M j).2.2.1 (M j).2.2.2.1).before args s = true := by
  have h := hgw _ hm.1
  unfold am_cw at h
  rw [if_pos hh] at h
  exact h
set_option maxHeartbeats 1000000 in
theorem am_hinv (C : am_ctx M G p s m args meth c k) {op : Instr} {len a b w : Nat} {cst : Int} (hm : am_mok M kd a) (hk : am_kchk kd (op, len, a, b, w, cst)) (hcall : am_isCall op = true) (hne : a ≠ 99999) (hchk : am_chk M k pc (op, len, a, b, w, cst) = true)
    {st as rest : List Value} {S : am_S} (hargs : am_args (op, len, a, b, w, cst) st = some (as, rest)) (hrec : am_recv M (op, len, a, b, w, cst) as S = true) (hw : am_world G S H) (T : State) (hT : T.heap = H) (X : Stand p l e R s m args below meth c T locs cells slots) :
    ∃ (vm₁ : Vm) (mk : MethodId), Stand p l e R s m args below meth c (T.setVm vm₁) locs cells slots ∧ (T.setVm vm₁).methodNamed? (M a).1 = some mk ∧
      ∀ target, (∀ acts, Steps p.tables e below (doInvoke e ((T.setVm vm₁).setTop { F0 m pc ls (st.map (am_v G)) with stack := rest.map (am_v G) }) acts mk (as.map (am_v G)).toArray).1 target) → Steps p.tables e below (T.setTop (F0 m pc ls (st.map (am_v G)))) target := by
  obtain ⟨hx, hb, hml, hown, hgw, henv, hnm⟩ := C
  obtain ⟨hd, hln, hc2⟩ := am_chk_sp hchk
  obtain ⟨hst, hlen, -⟩ := am_args_inv hargs
  dsimp only at hd hln hc2 hlen
  have hpl : e.platform.magicAccessors = ({} : Platform).magicAccessors := by rw [X.admits.platform]
  obtain ⟨hcw, hini, hmx, hpn, hy, hk0, hk1, hk2⟩ := id hm
  have hdg : ∀ {ig : Instr}, op = ig → len = 3 → decode c.code (F0 m pc ls (st.map (am_v G))).pc = .ok (ig, 3) := fun h1 h2 => by rw [hb]; subst h1; subst h2; exact hd
  cases op <;> first | (exact absurd (show false = true from hcall) (by decide)) | skip
  case invokevirtual x =>
    have hl3 : len = 3 := by simpa [am_sws, am_len] using hln
    obtain ⟨hinst, hsel, hh⟩ := hk0 (hk.1 x rfl)
    simp only [am_recv] at hrec
    cases as with
    | nil => cases hrec
    | cons v0 As =>
      cases v0 with
      | ref o =>
        dsimp only at hrec
        split at hrec
        · rename_i ci fs hg
          obtain ⟨ho, hcell⟩ := am_get_inv hg
          have hcn := of_decide_eq_true hrec
          cases hcq : vwCl[ci]? with
          | none => rw [hcq] at hcn; cases hcn
          | some cq =>
            rw [hcq] at hcn
            have hcn : cq.1 = (M a).1.cls := Option.some.inj hcn
            have he : (am_ws G S)[o]? = some (am_b0 G + o, .inr (ci, fs.map (am_v G))) := by rw [am_ws_at ho, hcell]; rfl
            obtain ⟨cellB, hcB, hoB, hclB⟩ := va_recv henv.1 hw.1 hcq he
            have had : am_ad G o = am_b0 G + o := am_ad_low (by have := hw.2; omega)
            rw [hcn] at hclB
            obtain ⟨mk, methM, hnamed, hmethM, hstM, habM⟩ := Cond.instanceMethod_spec (hgw _ hinst)
            obtain ⟨methM', cM, hmethM', -, -, -, -, -, -, hsigM⟩ := Cond.code_spec hnamed (am_cw_code hgw hm hh)
            cases hmethM.symm.trans hmethM'
            obtain ⟨c2, r2, m2, q1, q2, q3, q4, kP, hkP, hkPi⟩ := Cond.selects_spec (hgw _ hsel)
            cases hclB.symm.trans q1
            cases (State.methodFound?_of_named hnamed hy).symm.trans q2
            cases hnamed.symm.trans q3
            have hselP : selectMethod e.platform s.vm cellB.cls mk = .method mk := by rw [Launch.admits_selectMethod X.admits]; exact q4
            have hstack : (F0 m pc ls (st.map (am_v G))).stack = (As.map (am_v G)).reverse ++ .ref (am_b0 G + o) :: rest.map (am_v G) := by
              show st.map (am_v G) = _
              rw [hst, ← had]
              simp [am_v]
            simp only [am_chk2, Bool.and_eq_true, Bool.or_eq_true, decide_eq_true_eq] at hc2
            have hln9 : (As.map (am_v G)).length = methM.sig.parameters.length := by
              have h9 := hc2.1.1
              rw [hsigM] at h9
              have h10 : methM.sig.parameters.length + 1 = b := Option.some.inj h9
              rw [List.length_map]
              simp only [List.length_cons] at hlen
              omega
            have hav : ((Value.ref o :: As).map (am_v G)).toArray = (Value.ref (am_b0 G + o) :: As.map (am_v G)).toArray := by
              rw [← had]; rfl
            rw [hav]
            rcases hc2.2 with hl1 | hl1
            · obtain ⟨vm₁, X₁, hstep₁⟩ := X.invokevirtual hx hown (hgw _ (am_word_gw hl1 rfl)) hnamed hmethM hstM hkP hkPi hy (a := am_b0 G + o) (cell := cellB) (by rw [hT]; exact hcB)
                (fun z h => by rw [h] at hoB; cases hoB) hselP hmethM habM hkP hkPi (g := F0 m pc ls (st.map (am_v G))) rfl (argsL := As.map (am_v G)) (rest := rest.map (am_v G)) hln9 hstack (hdg rfl hl3)
              exact ⟨vm₁, mk, X₁, X₁.named hnamed, hstep₁⟩
            · have hnw := va_Nw.use (A := args) rfl (henv.2.2.2.2.2.1 _ (List.mem_filter.mpr ⟨am_word_in hl1, rfl⟩))
              obtain ⟨vm₁, X₁, hstep₁⟩ := X.invokevirtualNest hx hown hnw hnamed hmethM hstM hkP hkPi hy (a := am_b0 G + o) (cell := cellB) (by rw [hT]; exact hcB)
                (fun z h => by rw [h] at hoB; cases hoB) hselP hmethM habM hkP hkPi (g := F0 m pc ls (st.map (am_v G))) rfl (argsL := As.map (am_v G)) (rest := rest.map (am_v G)) hln9 hstack (hdg rfl hl3)
              exact ⟨vm₁, mk, X₁, X₁.named hnamed, hstep₁⟩
        · cases hrec
      | _ => cases hrec
  case invokespecial x =>
    have hl3 : len = 3 := by simpa [am_sws, am_len] using hln
    obtain ⟨hinst, hnm2, hret, hh⟩ := hk2 (hk.2.2 x rfl hne)
    have hcode := am_cw_code hgw hm hh
    rw [hret] at hcode
    simp only [am_recv] at hrec
    cases as with
    | nil => cases hrec
    | cons v0 As =>
      cases v0 with
      | ref o =>
        have hstack : (F0 m pc ls (st.map (am_v G))).stack = (As.map (am_v G)).reverse ++ .ref (am_ad G o) :: rest.map (am_v G) := by
          show st.map (am_v G) = _
          rw [hst]
          simp [am_v]
        simp only [am_chk2, if_neg hne, Bool.and_eq_true, Bool.or_eq_true, decide_eq_true_eq] at hc2
        have hln9 : ∀ sig, parseMethodDescriptor (M a).1.desc = some sig → (As.map (am_v G)).length = sig.parameters.length := by
          intro sig hsig
          have h9 := hc2.1.2
          rw [hsig] at h9
          have h10 : sig.parameters.length + 1 = b := Option.some.inj h9
          rw [List.length_map]
          simp only [List.length_cons] at hlen
          omega
        rcases hc2.2 with hl1 | hl1
        · obtain ⟨mk, methM, cM, kP, vm₁, hnamed, hmethM, hcodeM, -, hlocalsM, -, hkP, -, hW₁, hstep₁⟩ := Steps.initColdArgs (e := e) X.here hx X.warmed hpl hown hnm2 hy (hgw _ (am_word_gw hl1 rfl)) (hgw _ hinst) hcode (f := F0 m pc ls (st.map (am_v G))) rfl hln9 hstack (hdg rfl hl3)
          have X₁ := X.noted hW₁
          exact ⟨vm₁, mk, X₁, X₁.named hnamed, hstep₁⟩
        · have hnw := va_Nw.use (A := args) rfl (henv.2.2.2.2.2.1 _ (List.mem_filter.mpr ⟨am_word_in hl1, rfl⟩))
          obtain ⟨mk, methM, cM, kP, vm₁, hnamed, hmethM, hcodeM, -, hlocalsM, -, hkP, -, hW₁, hstep₁⟩ := Steps.initColdArgsNest (e := e) X.here hx X.warmed hpl hown hnm2 hy hnw (hgw _ hinst) hcode (f := F0 m pc ls (st.map (am_v G))) rfl hln9 hstack (hdg rfl hl3)
          have X₁ := X.noted hW₁
          exact ⟨vm₁, mk, X₁, X₁.named hnamed, hstep₁⟩
      | _ => cases hrec
  case invokestatic x =>
    have hl3 : len = 3 := by simpa [am_sws, am_len] using hln
    have hstt := hgw _ (hk1 (hk.2.1 x rfl))
    have hstack : (F0 m pc ls (st.map (am_v G))).stack = (as.map (am_v G)).reverse ++ rest.map (am_v G) := by
      show st.map (am_v G) = _
      rw [hst]
      simp
    simp only [am_chk2, Bool.and_eq_true, decide_eq_true_eq] at hc2
    have hln9 : ∀ sig, parseMethodDescriptor (M a).1.desc = some sig → (as.map (am_v G)).length = sig.parameters.length := by
      intro sig hsig
      have h9 := hc2.1.1
      rw [hsig] at h9
      have h10 : sig.parameters.length = b := Option.some.inj h9
      rw [List.length_map]
      omega
    have key : ∃ mk methM, s.methodNamed? (M a).1 = some mk ∧ s.vm.method? mk = some methM ∧ parseMethodDescriptor (M a).1.desc = some methM.sig := by
      have h := hgw _ hcw
      unfold am_cw at h
      split at h
      · obtain ⟨mk, hnamed⟩ := Cond.code_named h
        obtain ⟨methM, cM, hmethM, -, -, -, -, -, -, hsigM⟩ := Cond.code_spec hnamed h
        exact ⟨mk, methM, hnamed, hmethM, hsigM⟩
      · obtain ⟨mk, methM, cM, hnamed, hmethM, -, -, -, -, -, -, hsigM⟩ := Cond.codeWith_spec h
        exact ⟨mk, methM, hnamed, hmethM, hsigM⟩
    obtain ⟨mk, methM, hnamed, hmethM, hsigM⟩ := key
    have hstatic : methM.isStatic = true := Cond.static_spec hnamed hmethM hstt
    obtain ⟨kP, hkP, -⟩ := className_of_methodNamed hnamed
    have hinitP : kP.init = .initialized := Cond.initialized_spec (findClass_of_methodNamed hnamed) hkP (hgw _ hini)
    obtain ⟨vm₁, X₁, hstep₁⟩ := X.invokestatic hx hown (hgw _ (am_word_gw hc2.2 rfl)) hnamed hmethM hstatic hkP hinitP hy (g := F0 m pc ls (st.map (am_v G))) rfl (argsL := as.map (am_v G)) (rest := rest.map (am_v G)) (hln9 _ hsigM) hstack (hdg rfl hl3)
    exact ⟨vm₁, mk, X₁, X₁.named hnamed, hstep₁⟩
end AMI
