/-! WHAT THE SMALL MACHINE DOES, THE MACHINE DOES: a frame's run, then every method's contract -/
section AMG
variable {p : Program} {l : Launch} {e : Env} {R : Room} {s : State} {m : MethodId} {args : Array Value} {below : List Frame} {meth : Method} {c : Code} {Q : State → Prop}
variable {M : Nat → am_M} {kd : Nat → Nat} {P : Nat → Nat → Option am_I} {G : am_G} {k d : Nat}
set_option maxHeartbeats 1000000 in
theorem am_go_ok (hP : ∀ k pc i, P k pc = some i → am_chk M k pc i = true ∧ am_kchk kd i ∧ (am_isCall i.1 = true → i.2.2.1 ≠ 99999 → am_mok M kd i.2.2.1))
    (ihd : ∀ j as S r, am_mok M kd j → am_ev P M (am_X G) d j as S r → vx_Met l (M j).1 (am_wsM M j) (am_room d S r) (am_Pc G as S) (am_Qc G r) (am_XC G r) (r.2.2.2.1 - S.2.2.1) (r.2.2.2.2 - S.2.2.2) (am_A G))
    (C : am_ctx M G p s m args meth c k) {c0 s0 : Nat} {rF : am_R} (hRf : 17 + d ≤ R.frames) (hRl : 460 + 60 * d ≤ R.locals) (hRc : rF.2.2.2.1 ≤ c0 + R.cells) (hRs : rF.2.2.2.2 ≤ s0 + R.slots)
    (kend : ∀ (pc : Nat) (i : am_I) (L : am_L) (st : List Value) (S : am_S) (H : Heap) (locs : List Loc) (ls : Array Slot), P k pc = some i → am_end (M k).2.2.2.1 i st S = some rF → am_ls G ls (M k).2.2.1 L → am_world G S H → va_S (am_A G) s.heap H locs → c0 ≤ S.2.2.1 → s0 ≤ S.2.2.2 →
      W p l e R s m args below meth c H locs (S.2.2.1 - c0) (S.2.2.2 - s0) Q (F0 m pc ls (st.map (am_v G))))
    (kout : ∀ (E : String) (ce : Cell) (q9 : Addr) (pc : Nat) (rest : List Value) (S : am_S) (H : Heap) (locs : List Loc) (ls : Array Slot), (M k).2.2.2.2 = [] → rF = (.inr E, S) → am_world G S H → va_S (am_A G) s.heap H locs → H[q9]? = some ce → ce.vm = .none → s.vm.findClass E = some ce.cls →
      vx_W p l e R s m args below meth c H locs (S.2.2.1 - c0) (S.2.2.2 - s0) Q (F0 m pc ls rest) q9)
    (kcat : ∀ (E : String) (ce : Cell) (q9 : Addr) (pc : Nat) (x : Int32) (L : am_L) (rest : List Value) (S : am_S) (H : Heap) (locs : List Loc) (ls : Array Slot), am_find (M k).2.2.2.2 pc E = some x → rF = (.inl (some (.int x)), S) → am_ls G ls (M k).2.2.1 L → am_world G S H → va_S (am_A G) s.heap H locs → H[q9]? = some ce → ce.vm = .none → s.vm.findClass E = some ce.cls →
      vx_W p l e R s m args below meth c H locs (S.2.2.1 - c0) (S.2.2.2 - s0) Q (F0 m pc ls rest) q9) :
    ∀ (n pc : Nat) (L : am_L) (st : List Value) (S : am_S), am_go P M (am_X G) (am_ev P M (am_X G) d) k n pc L st S rF → ∀ (H : Heap) (locs : List Loc) (ls : Array Slot), am_ls G ls (M k).2.2.1 L → am_world G S H → va_S (am_A G) s.heap H locs → c0 ≤ S.2.2.1 → s0 ≤ S.2.2.2 → S.1 ≤ S.2.2.1 →
      (S.2.2.1 = S.1 → s.heap.size + (S.2.2.1 - c0) ≤ am_b0 G + S.1) → W p l e R s m args below meth c H locs (S.2.2.1 - c0) (S.2.2.2 - s0) Q (F0 m pc ls (st.map (am_v G))) := by
  intro n
  induction n with
  | zero => intro pc L st S h; exact absurd h (by simp [am_go])
  | succ n ih =>
    intro pc L st S h H locs ls hl hw hS hc0 hs0 hn hsz
    have hle : am_le S rF.2 := am_go_le (fun _ _ _ _ h9 => am_ev_le h9) h
    simp only [am_go] at h
    obtain ⟨i, hi, h⟩ := h
    obtain ⟨hchk, hkc, hmk⟩ := hP _ _ _ hi
    rcases h with ⟨q, hq, hgo⟩ | he | ⟨hcall, hne, as, rest, r1, hargs, hrec, hr1, hm⟩
    · have h1 := am_step_le hq
      have h2 : am_le q.2.2.2 rF.2 := am_go_le (fun _ _ _ _ h9 => am_ev_le h9) hgo
      unfold am_le at h1 h2
      refine am_step_ok C hchk hq hl hw hS hc0 hs0 (by omega) (by omega) (by omega) (by omega) hsz (fun H1 locs1 ls1 hl1 hw1 hS1 => ?_)
      exact ih _ _ _ _ hgo H1 locs1 ls1 hl1 hw1 hS1 (by omega) (by omega) (by omega) (fun e1 => by have h3 := hsz (by omega); omega)
    · exact kend pc i L st S H locs ls hi he hl hw hS hc0 hs0
    · obtain ⟨hx, hb, hml, hown, hgw, henv, hnm⟩ := id C
      have hmok := hmk hcall hne
      have h1 : am_le S r1.2 := am_ev_le hr1
      obtain ⟨op, len, a, b, w, cst⟩ := i
      have h2 : am_le r1.2 rF.2 := by
        split at hm
        · exact am_go_le (fun _ _ _ _ h9 => am_ev_le h9) hm
        · rcases hm with ⟨-, rfl⟩ | ⟨x, -, rfl⟩
          · exact am_le_rf _
          · exact am_le_rf _
      obtain ⟨hst, hal, h8⟩ := am_args_inv hargs
      have hd := (am_chk_sp hchk).1
      have hl3 : len = 3 := by
        have h9 := (am_chk_sp hchk).2.1
        dsimp only at h9 hcall
        cases op <;> first | (exact absurd (show false = true from hcall) (by decide)) | simpa [am_sws, am_len] using h9
      subst hl3
      dsimp only at hr1 hmok hd
      refine am_bysize fun hHs => ?_
      have hK := am_back (p := p) (e := e) (below := below) (R := R) hgw hmok (ihd a as S r1 hmok hr1) (am_blind G as S) rfl rfl (by show 16 + d + 1 ≤ R.frames; omega) (by show 8 + ((M a).2.2.1 + 11) + (400 + 60 * d) ≤ R.locals; have := hmok.2.2.1; omega)
      unfold am_le at h1 h2
      have hr := am_run_of (a := (as.map (am_v G)).toArray) (g := F0 m pc ls (st.map (am_v G))) (rest := rest.map (am_v G)) (H := H) (locs := locs) (cells := S.2.2.1 - c0) (slots := S.2.2.2 - s0) (meth := meth) hK (fun T hT X => am_hinv C hmok hkc hcall hne hchk hargs hrec hw T hT X)
        (fun U hU hW => ⟨rfl, by rw [hU]; exact hw, am_env_move henv hW (fun q h9 h10 => by rw [hU]; exact hS.2.1 q h9 h10) (by rw [hU]; exact hS.1), fun e9 => by have h3 := hsz e9; rw [hU]; omega, hn⟩)
        rfl (hl.1.trans hml.symm) (by show 2 * 0 + ((rest.map (am_v G)).map fun v => v.category).sum ≤ 8; rw [am_v_cats]; omega) (by rw [hb]; exact hd) ⟨by omega, by omega⟩
      refine am_after hr hS (fun v H1 locs1 hv hw1 hS1 => ?_) (fun E ce q9 H1 locs1 hE hw1 hS1 hce hcv hcl => ?_)
      · rw [hv] at hm
        dsimp only at hm
        have e1 : (v.map (am_v G)).toList ++ rest.map (am_v G) = (v.toList ++ rest).map (am_v G) := by cases v <;> simp
        show W p l e R s m args below meth c H1 locs1 _ _ Q (F0 m (pc + 3) ls ((v.map (am_v G)).toList ++ rest.map (am_v G)))
        rw [e1]
        exact am_eqW (by omega) (by omega) (ih _ _ _ _ hm H1 locs1 ls hl hw1 hS1 (by omega) (by omega) (by omega) (fun e9 => by have h3 := hsz (by omega); omega))
      · rw [hE] at hm
        dsimp only at hm
        have key : ∀ {g9 : JFrame}, vx_W p l e R s m args below meth c H1 locs1 (r1.2.2.2.1 - c0) (r1.2.2.2.2 - s0) Q g9 q9 → vx_W p l e R s m args below meth c H1 locs1 (S.2.2.1 - c0 + (r1.2.2.2.1 - S.2.2.1)) (S.2.2.2 - s0 + (r1.2.2.2.2 - S.2.2.2)) Q g9 q9 := by
          intro g9 hk9
          rw [show S.2.2.1 - c0 + (r1.2.2.2.1 - S.2.2.1) = r1.2.2.2.1 - c0 by omega, show S.2.2.2 - s0 + (r1.2.2.2.2 - S.2.2.2) = r1.2.2.2.2 - s0 by omega]
          exact hk9
        rcases hm with ⟨hh, hrF⟩ | ⟨x, hf, hrF⟩
        · exact key (kout E ce q9 pc _ r1.2 H1 locs1 ls hh hrF hw1 hS1 hce hcv hcl)
        · exact key (kcat E ce q9 pc x L _ r1.2 H1 locs1 ls hf hrF hl hw1 hS1 hce hcv hcl)
end AMG
